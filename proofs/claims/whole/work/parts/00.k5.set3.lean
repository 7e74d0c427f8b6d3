/-! ===== changes: settings, the last one taken back; simple questions ===== -/
section
variable {M M' M1 M2 : Mem} {x m bb sb : Nat} {D D' : Bl} {hy : Hy}
def setS (D : Bl) (hy : Hy) (a y : Int32) : Int32 × Bl × Hy := if inx a 4 then (if stv 1 (ix a) ≤ y ∧ y ≤ stv 2 (ix a) then (D 9 (ix a), chg D hy 5 (ix a) y) else (-2, D, hy)) else (-2, D, hy)
theorem c_setSetting (h : CQ M x bb sb D) (hS : Sta M x) (hH : HX M (x + 4) hy) (hg : Gs D hy) (a y : Int32) : ok (f_X8_setSetting M x a y) (ChgC x bb sb M (setS D hy a y)) := by
  obtain ⟨t1, -, e1, k1, v1⟩ := hS.1 1 (by omega)
  obtain ⟨t2, -, e2, k2, v2⟩ := hS.1 2 (by omega)
  unfold f_X8_setSetting setS
  rw [show (4 : Int32) = Int32.ofNat 4 from rfl, isIx_in, bs, b2i_ite]
  by_cases c : inx a 4
  · obtain ⟨k, hk, rfl⟩ := ix_of (by omega) c
    have g1 : gST M 1 = some t1 := e1
    have g2 : gST M 2 = some t2 := e2
    rw [decide_eq_true c, if_pos rfl, if_pos c, g1, bs, aI_e k1 (Or.inr rfl) hk (by omega), bs, v1 k hk, ix_o (by omega)]
    by_cases c1 : y < stv 1 k
    · rw [if_pos c1, if_neg (fun z => by have z1 := z.1; rw [lt_i] at c1; rw [le_i] at z1; omega)]
      exact ok.pure ⟨rfl, Ch.rf, h, hH⟩
    · rw [if_neg c1, g2, bs, aI_e k2 (Or.inr rfl) hk (by omega), bs, v2 k hk]
      by_cases c2 : y ≤ stv 2 k
      · rw [if_pos c2, if_pos ⟨by rw [lt_i] at c1; rw [le_i]; omega, c2⟩, h.1.c, bs]
        refine ok.seq (c_set h hH hg (k := 5) (by omega) hk y) ?_
        exact fun o q => ok.pure q
      · rw [if_neg c2, if_neg (fun z => c2 z.2)]
        exact ok.pure ⟨rfl, Ch.rf, h, hH⟩
  · rw [decide_eq_false c, if_neg (by decide), if_neg c]
    exact ok.pure ⟨rfl, Ch.rf, h, hH⟩
theorem m_least (M : Mem) : ∀ k, k < 4 → f_X9_leastOf M (Int32.ofNat k) = some (stv 1 k) := by
  intro k hk
  unfold f_X9_leastOf
  rcases (show k = 0 ∨ k = 1 ∨ k = 2 ∨ k = 3 by omega) with e | e | e | e <;> subst e <;> rfl
theorem m_most (M : Mem) : ∀ k, k < 4 → f_X9_mostOf M (Int32.ofNat k) = some (stv 2 k) := by
  intro k hk
  unfold f_X9_mostOf
  rcases (show k = 0 ∨ k = 1 ∨ k = 2 ∨ k = 3 by omega) with e | e | e | e <;> subst e <;> rfl
theorem in03 (a : Int32) : (0 ≤ a ∧ a ≤ 3) ↔ inx a 4 := by
  have := inR_n (i := a) (n := 4) (by omega)
  rw [show Int32.ofNat 4 - 1 = 3 from rfl] at this
  exact this
theorem q_setSetting (h : IsM M m D) (hH : DH M m hy) (hg : Gs D hy) (a y : Int32) : ok (f_X9_setSetting M m a y) (ChgM m M (setS D hy a y)) := by
  have h1 : IsM (sI M m 4 0) m D := h.sIo (by omega) _
  have H1 := hH.s4 0
  unfold f_X9_setSetting setS
  rw [h.s.p, bs, m_inR, bs, b2i_ite]
  by_cases c : inx a 4
  · obtain ⟨k, hk, rfl⟩ := ix_of (by omega) c
    rw [decide_eq_true ((in03 _).mpr c), if_pos rfl, if_pos c, m_least _ k hk, bs, m_most _ k hk, bs, m_inR, bs, b2i_ite, ix_o (by omega)]
    by_cases cc : stv 1 k ≤ y ∧ y ≤ stv 2 k
    · rw [decide_eq_true cc, if_pos rfl, if_pos cc, h1.s.c, bs]
      refine ok.seq (q_set h1 H1 hg (k := 5) (off := 0) (by omega) (Or.inr (Or.inr (Or.inr (Or.inr (Or.inr ⟨rfl, rfl⟩))))) hk (by omega) (by rw [Nat.zero_add]) (h1.d9 hk) y) ?_
      exact fun o q => ok.pure q
    · rw [decide_eq_false cc, if_neg (by decide), if_neg cc]
      exact ok.pure ⟨rfl, Mc.rf, h1, H1⟩
  · rw [decide_eq_false (fun z => c ((in03 _).mp z)), if_neg (by decide), if_neg c]
    exact ok.pure ⟨rfl, Mc.rf, h1, H1⟩
theorem gs_setS (hg : Gs D hy) (a y : Int32) : Gs (setS D hy a y).2.1 (setS D hy a y).2.2 := by
  unfold setS
  split
  · rename_i c
    obtain ⟨k, hk, rfl⟩ := ix_of (by omega) c
    split
    · rename_i c2
      rw [ix_o (by omega)] at c2 ⊢
      have r01 : ∀ z : Int32, (0 : Int32) ≤ z ∧ z ≤ 1 → z = 0 ∨ z = 1 := fun z w => by
        rw [le_i, le_i] at w
        have a0 : (0 : Int32).toInt = 0 := rfl
        have a1 : (1 : Int32).toInt = 1 := rfl
        rw [eq_i, eq_i]; omega
      refine gs_chg hg (by omega) hk ⟨fun z => absurd z (by decide), fun z => absurd z (by decide), fun z => absurd z (by decide), fun z => absurd z (by decide), fun _ => ⟨fun e => ?_, fun e => ?_, fun e => ?_, fun e => ?_⟩⟩ (fun z => absurd z (by decide))
      · subst e; exact r01 y c2
      · subst e
        have w : (0 : Int32) ≤ y ∧ y ≤ 2 := c2
        rw [le_i, le_i] at w
        have a0 : (0 : Int32).toInt = 0 := rfl
        have a1 : (1 : Int32).toInt = 1 := rfl
        have a2 : (2 : Int32).toInt = 2 := rfl
        rw [eq_i, eq_i, eq_i]; omega
      · subst e
        have w : (1 : Int32) ≤ y ∧ y ≤ 1000 := c2
        rw [le_i, le_i] at w
        exact w
      · subst e; exact r01 y c2
    · exact hg
  · exact hg
/-! the reference's undo -/
theorem isM_da {D2 : Bl} (h : IsM M m D) (hk : mK M' = mK M) (hr : mR M' = mR M) (hI : ∀ x j, x = m + 4 ∨ x = m + 5 ∨ x = m + 6 ∨ (x = m ∧ 5 ≤ j) → mI M' x j = mI M x j) (h0 : D2 0 = D 0) (h1 : D2 1 = D 1) (h3 : D2 3 = D 3) (h5 : D2 5 = D 5) (hA : DA M' (m + 1) 0 D2) : IsM M' m D2 := by
  have cc : ∀ j, cn D2 j = cn D j := fun j => by unfold cn; rw [h0]
  obtain ⟨a, b, c, d, e, f, g⟩ := h
  obtain ⟨p, q, r, s⟩ := hA
  refine ⟨a.e hk hr, fun j hj => by rw [hI _ _ (by omega), h0]; exact b j hj, ⟨fun j hj => by rw [cc, h0]; exact c.1 j hj, by rw [cc]; exact c.2.1, by rw [cc]; exact c.2.2.1, by rw [cc]; exact c.2.2.2⟩, fun d' hd => ?_, fun p' hp => ?_, fun v hv => ?_, fun i hi => ?_⟩
  · have z := p d' hd
    rw [Nat.zero_add] at z
    rw [cc] at hd
    exact ⟨by rw [hI _ _ (by omega), h1]; exact (d d' hd).1, z⟩
  · have z := q p' hp
    rw [Nat.zero_add] at z
    rw [cc] at hp
    exact ⟨by rw [hI _ _ (by omega), h3]; exact (e p' hp).1, z, by rw [hI _ _ (by omega), h5]; exact (e p' hp).2.2⟩
  · have z := r v hv
    rw [Nat.zero_add, Nat.zero_add, Nat.zero_add] at z
    exact z
  · have z := s i hi
    rw [Nat.zero_add] at z
    exact z
def und (D : Bl) (hy : Hy) : Int32 × Bl × Hy := if hy.1 = 0 then (-1, D, hy) else (Int32.ofNat (hy.1 - 1), hy.2.1 (hy.1 - 1), hpop hy)
theorem gs_und (hg : Gs D hy) : Gs (und D hy).2.1 (und D hy).2.2 := by
  unfold und
  split
  · exact hg
  · exact gs_pop hg ‹_›
theorem c_und (h : CQ M x bb sb D) (hH : HX M (x + 4) hy) (hg : Gs D hy) : ok (f_X8_undo M x) (ChgC x bb sb M (und D hy)) := by
  refine (c_undo h hH hg.2.2.1).mono ?_
  rintro o ⟨z1, z2⟩
  unfold und
  by_cases e : hy.1 = 0
  · rw [if_pos e, z1 e]
    exact ⟨rfl, Ch.rf, h, hH⟩
  · rw [if_neg e]
    exact z2 e
theorem q_und (h : IsM M m D) (hH : DH M m hy) (hg : Gs D hy) : ok (f_X9_undo M m) (ChgM m M (und D hy)) := by
  have h1 : IsM (sI M m 4 0) m D := h.sIo (by omega) _
  have H1 := hH.s4 0
  obtain ⟨v1, v2, v3⟩ := hg.2.2.1
  unfold f_X9_undo und
  rw [h.s.p, bs, h1.s.gi, bs, H1.1]
  by_cases e : hy.1 = 0
  · rw [if_pos e, if_pos (by rw [e]; rfl)]
    exact ok.pure ⟨rfl, Mc.rf, h1, H1⟩
  · have e2 : ¬ Int32.ofNat hy.1 = 0 := by rw [i0 (by omega)]; exact e
    obtain ⟨n, hn⟩ : ∃ n, hy.1 = n + 1 := ⟨hy.1 - 1, by omega⟩
    have en : hy.1 - 1 = n := by omega
    have sub1 : Int32.ofNat hy.1 - 1 = Int32.ofNat n := by
      rw [show (1 : Int32) = Int32.ofNat 1 from rfl, i_sub (by omega), en]
    have z := v3 n (by omega)
    rw [if_neg e, if_neg e2, bs, h1.s.p, bs, sub1, en]
    generalize hM0 : sI M m 4 0 = M0 at h1 H1 ⊢
    refine it_r (I := fun i (u : Int32 × Mem) => u.1 = Int32.ofNat i ∧ mK u.2 = mK M0 ∧ mL u.2 = mL M0 ∧ mR u.2 = mR M0 ∧ mN u.2 = mN M0 ∧ mI u.2 m 3 = Int32.ofNat n ∧ (∀ x j, x ≠ m + 1 → ¬ (x = m ∧ j = 3) → mI u.2 x j = mI M0 x j) ∧ ∀ j, j < i → mI u.2 (m + 1) j = mI M0 (m + 3) (92 * n + j)) 92 ⟨rfl, rfl, rfl, rfl, rfl, by rw [i_sI, if_pos ⟨rfl, rfl⟩], fun x j _ q => by rw [i_sI, if_neg q], fun j hj => absurd hj (Nat.not_lt_zero j)⟩ (by omega) ?_ ?_
    · rintro rec i ⟨_, M1⟩ hi ⟨rfl, eK, eL, eR, eN, c3, i1, i2⟩ hrec
      dsimp only at eK eL eR eN c3 i1 i2
      have s1 : IsMo M1 m := h1.s.e eK eR
      have rd : aI M1 (m + 3) (Int32.ofNat (92 * n + i)) = some (mI M0 (m + 3) (92 * n + i)) := by
        rw [s1.a2 (by omega), i1 _ _ (by omega) (by omega)]
      have ix_ : Int32.ofNat n * 92 + Int32.ofNat i = Int32.ofNat (92 * n + i) := by
        rw [show (92 : Int32) = Int32.ofNat 92 from rfl, i_mul, i_add, Nat.mul_comm]
      unfold bd_X9_undo_26
      dsimp only
      rw [show (92 : Int32) = Int32.ofNat 92 from rfl, ile_n hi (by omega), s1.r0, bs, s1.r2, bs, s1.gi, bs, c3, show Int32.ofNat 92 = (92 : Int32) from rfl, ix_, rd, bs, s1.w0 hi, bs, i_succ]
      refine hrec _ ⟨rfl, eK, eL, eR, eN, ?_, fun x j z1 z2 => ?_, fun j hj => ?_⟩
      · dsimp only
        rw [i_sI, if_neg (by omega)]; exact c3
      · dsimp only
        rw [i_sI, if_neg (fun q => z1 q.1)]; exact i1 x j z1 z2
      · dsimp only
        rw [i_sI]
        by_cases w : j = i
        · subst w; rw [if_pos ⟨rfl, rfl⟩]
        · rw [if_neg (by omega)]; exact i2 j (by omega)
    · rintro rec ⟨_, M1⟩ ⟨rfl, eK, eL, eR, eN, c3, i1, i2⟩
      dsimp only at eK eL eR eN c3 i1 i2
      have s1 : IsMo M1 m := h1.s.e eK eR
      have kr := krow_in z.2.1
      have row : ∀ k', k' < 10 → k' ≠ krow (hy.2.2.1 n) → hy.2.1 n k' = D k' := fun k' q1 q2 => by
        have zz := z.2.2.2
        rw [show hy.2.1 (n + 1) = D by rw [← hn]; exact v2] at zz
        rw [zz]
        exact (rw_ne q1).trans (up_ne q2)
      unfold bd_X9_undo_26
      dsimp only
      rw [show (92 : Int32) = Int32.ofNat 92 from rfl, ile_e, s1.gi, bs, c3]
      refine ok.pure ⟨rfl, ?_, ?_, ?_⟩
      · rw [hM0]
        exact ⟨eK, eL, eR, eN, fun x j z1 _ z3 => i1 x j z1 z3⟩
      · refine isM_da h1 eK eR (fun x j q => i1 x j (by omega) (by omega)) (row 0 (by omega) (by omega)) (row 1 (by omega) (by omega)) (row 3 (by omega) (by omega)) (row 5 (by omega) (by omega)) ?_
        refine (H1.2 n (by omega)).sh z.1.n fun u hu => ?_
        rw [Nat.zero_add]
        exact i2 u hu
      · refine ⟨by dsimp only; rw [c3, ← en]; rfl, fun j hj => ?_⟩
        have hj' : j < hy.1 - 1 := hj
        exact (H1.2 j (by omega)).c (fun u => i1 _ _ (by omega) (by omega))
end
