/-! ===== the reference made ===== -/
section
variable {M M' M1 M2 : Mem} {o : Nat}
def q9 (t : Nat) : Nat × Nat × Nat := [(0, 20, 92), (1, 20, 92), (2, 20, 920), (8, 20, 4), (9, 20, 12), (10, 20, 12), (14, 20, 4), (15, 20, 12), (16, 20, 12), (17, 21, 1200), (29, 20, 96), (32, 20, 12), (33, 20, 12), (34, 20, 288), (35, 20, 48), (36, 20, 4), (40, 22, 12), (41, 20, 24)].getD t (0, 0, 0)
def f9 (f : Nat → Int32) (j : Nat) : Int32 := if j = 37 then 12 else if j = 26 then -1 else f j
theorem n_reset {f : Nat → Int32} (s : IsMo M o) (h : Ar o 18 q9 f M1 M) : ok (f_X9_reset M (o + 1)) (fun M' => mK M' = mK M ∧ mL M' = mL M ∧ mR M' = mR M ∧ mN M' = mN M ∧ (∀ x j, x ≠ o + 1 → mI M' x j = mI M x j) ∧ ∀ j, mI M' (o + 1) j = if j = 2 then 10 else 0) := by
  have z0 := (h.2.2.2.2 0 (by omega)).2.2
  unfold f_X9_reset
  refine it_r (I := fun i (u : Int32 × Mem) => u.1 = Int32.ofNat i ∧ mK u.2 = mK M ∧ mL u.2 = mL M ∧ mR u.2 = mR M ∧ mN u.2 = mN M ∧ (∀ x j, x ≠ o + 1 → mI u.2 x j = mI M x j) ∧ ∀ j, mI u.2 (o + 1) j = 0) 92 ⟨rfl, rfl, rfl, rfl, rfl, fun _ _ _ => rfl, z0⟩ (by omega) ?_ ?_
  · rintro rec i ⟨_, M2⟩ hi ⟨rfl, a, b, c, d, e, g⟩ hrec
    dsimp only at a b c d e g
    have s2 : IsMo M2 o := s.e a c
    unfold bd_X9_reset_2
    dsimp only
    rw [show (92 : Int32) = Int32.ofNat 92 from rfl, ile_n hi (by omega), s2.w0 hi, bs, i_succ]
    refine hrec _ ⟨rfl, a, b, c, d, fun x j z => ?_, fun j => ?_⟩
    · dsimp only
      rw [i_sI, if_neg (fun y => z y.1)]; exact e x j z
    · dsimp only
      rw [i_sI]
      split
      · rfl
      · exact g j
  · rintro rec ⟨_, M2⟩ ⟨rfl, a, b, c, d, e, g⟩
    dsimp only at a b c d e g
    have s2 : IsMo M2 o := s.e a c
    unfold bd_X9_reset_2
    dsimp only
    rw [show (92 : Int32) = Int32.ofNat 92 from rfl, ile_e, show (2 : Int32) = Int32.ofNat 2 from rfl, s2.w0 (by omega), bs]
    refine ok.pure ⟨a, b, c, d, fun x j z => ?_, fun j => ?_⟩
    · rw [i_sI, if_neg (fun y => z y.1)]; exact e x j z
    · rw [i_sI]
      by_cases y : j = 2
      · rw [if_pos ⟨rfl, y⟩, if_pos y]
      · rw [if_neg (fun w => y w.2), if_neg y]; exact g j
theorem n_X9 (h : (mK M o).1 = 9) (hn : mN M = some (o + 1)) (h0 : ∀ j, mI M o j = 0) : ok (f_X9_init M o) (fun M' => Nx o (o + 19) M M' ∧ IsM M' o D0 ∧ mI M' o 37 = 12 ∧ mI M' o 18 = 0 ∧ mI M' o 26 = -1 ∧ mI M' o 3 = 0) := by
  unfold f_X9_init
  have A0 : Ar o 0 q9 (mI M o) M M := Ar.z hn (fun _ => rfl)
  refine Ar_s (i := 0) (q := q9) A0 h (by decide) fun M1 A1 => ?_
  refine Ar_s (i := 1) (q := q9) A1 h (by decide) fun M2 A2 => ?_
  refine Ar_s (i := 2) (q := q9) A2 h (by decide) fun M3 A3 => ?_
  refine Ar_s (i := 3) (q := q9) A3 h (by decide) fun M4 A4 => ?_
  refine Ar_s (i := 4) (q := q9) A4 h (by decide) fun M5 A5 => ?_
  refine Ar_s (i := 5) (q := q9) A5 h (by decide) fun M6 A6 => ?_
  refine Ar_s (i := 6) (q := q9) A6 h (by decide) fun M7 A7 => ?_
  refine Ar_s (i := 7) (q := q9) A7 h (by decide) fun M8 A8 => ?_
  refine Ar_s (i := 8) (q := q9) A8 h (by decide) fun M9 A9 => ?_
  refine Ar_s (i := 9) (q := q9) A9 h (by decide) fun M10 A10 => ?_
  have p1 : pFI M10 o 9 26 (-1) = some (sI M10 o 26 (-1)) := pFI_e (by rw [A10.2.1 o (Nat.le_refl _)]; exact h)
  rw [p1, bs]
  replace A10 := A10.sI (j := 26) (y := -1)
  refine Ar_s (i := 10) (q := q9) A10 h (by decide) fun M11 A11 => ?_
  refine Ar_s (i := 11) (q := q9) A11 h (by decide) fun M12 A12 => ?_
  refine Ar_s (i := 12) (q := q9) A12 h (by decide) fun M13 A13 => ?_
  refine Ar_s (i := 13) (q := q9) A13 h (by decide) fun M14 A14 => ?_
  refine Ar_s (i := 14) (q := q9) A14 h (by decide) fun M15 A15 => ?_
  refine Ar_s (i := 15) (q := q9) A15 h (by decide) fun M16 A16 => ?_
  have p2 : pFI M16 o 9 37 12 = some (sI M16 o 37 12) := pFI_e (by rw [A16.2.1 o (Nat.le_refl _)]; exact h)
  rw [p2, bs]
  replace A16 := A16.sI (j := 37) (y := 12)
  refine Ar_s (i := 16) (q := q9) A16 h (by decide) fun M17 A17 => ?_
  refine Ar_s (i := 17) (q := q9) A17 h (by decide) fun M18 A18 => ?_
  have k0 : (mK M18 o).1 = 9 := by rw [A18.2.1 o (Nat.le_refl _)]; exact h
  have s1 : IsMo M18 o := by
    refine ⟨k0, fun q hq => ?_⟩
    have key : ∀ t, t < 18 → mR M18 o (q9 t).1 = some (o + (t + 1)) ∧ mK M18 (o + (t + 1)) = ((q9 t).2.1, (q9 t).2.2) := fun t ht => by
      obtain ⟨e1, e2, -⟩ := A18.2.2.2.2 t ht
      rw [show o + 1 + t = o + (t + 1) by omega] at e1 e2
      exact ⟨e1, e2⟩
    have mem : ∀ q, q ∈ moL → ∃ t, t < 18 ∧ q.1 = (q9 t).1 ∧ q.2.1 = t + 1 ∧ q.2.2 = (q9 t).2 := by decide
    obtain ⟨t, t1, t2, t3, t4⟩ := mem q hq
    obtain ⟨e1, e2⟩ := key t t1
    rw [t2, t3, t4]
    exact ⟨e1, e2⟩
  rw [s1.r0, bs]
  refine ok.bind ((n_reset s1 A18).mono ?_)
  rintro M19 ⟨a, b, c, d, e, g⟩
  have fl : ∀ j, mI M19 o j = if j = 37 then 12 else if j = 26 then -1 else mI M o j := fun j => by rw [e o j (by omega), A18.2.2.2.1 j]
  refine ok.pure ⟨⟨d.trans A18.1, fun b' hb => by rw [a]; exact A18.2.1 b' hb, fun b' hb j => ⟨?_, ?_, ?_⟩⟩, ⟨s1.e a c, fun j hj => ?_, D0_n, fun d' hd => absurd hd (Nat.not_lt_zero _), fun p hp => absurd hp (Nat.not_lt_zero _), fun v hv => absurd hv (Nat.not_lt_zero _), fun i hi => ?_⟩, ?_, ?_, ?_, ?_⟩
  · rw [e b' j (by omega)]; exact (A18.2.2.1 b' hb j).1
  · rw [b]; exact (A18.2.2.1 b' hb j).2.1
  · rw [c]; exact (A18.2.2.1 b' hb j).2.2
  · rw [fl, if_neg (by omega), if_neg (by omega), h0]
    rcases (show j = 0 ∨ j = 1 ∨ j = 2 by omega) with y | y | y <;> subst y <;> rfl
  · rw [g]
    rcases (show i = 0 ∨ i = 1 ∨ i = 2 ∨ i = 3 by omega) with y | y | y | y <;> subst y <;> rfl
  · rw [fl, if_pos rfl]
  · rw [fl, if_neg (by omega), if_neg (by omega), h0]
  · rw [fl, if_neg (by omega), if_pos rfl]
  · rw [fl, if_neg (by omega), if_neg (by omega), h0]
end
