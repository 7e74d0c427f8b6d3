/-! ===== the reference reads a text ===== -/
section
variable {M M' M0 M1 M2 M4 : Mem} {t : Nat → Int32} {n p q m hi : Nat} {D E : Bl} {c g : Int32} {r : Rs}
theorem m_reset2 (s : IsMo M m) : ok (f_X9_reset M (m + 2)) (fun M' => Fi (m + 2) (m + 3) M M' ∧ ∀ j, j < 92 → mI M' (m + 2) j = if j = 2 then 10 else 0) := by
  unfold f_X9_reset
  refine it_r (I := fun i (u : Int32 × Mem) => u.1 = Int32.ofNat i ∧ Fi (m + 2) (m + 3) M u.2 ∧ ∀ j, j < i → mI u.2 (m + 2) j = 0) 92 ⟨rfl, Fi.rf, fun j hj => absurd hj (Nat.not_lt_zero j)⟩ (by omega) ?_ ?_
  · rintro rec i ⟨_, M2⟩ hi ⟨rfl, F, z⟩ hrec
    dsimp only at F z
    have s2 : IsMo M2 m := s.e F.k F.r
    unfold bd_X9_reset_2
    dsimp only
    rw [show (92 : Int32) = Int32.ofNat 92 from rfl, ile_n hi (by omega), s2.w1 hi, bs, i_succ]
    refine hrec _ ⟨rfl, F.trans (Fi.sI ⟨by omega, by omega⟩), fun j hj => ?_⟩
    dsimp only
    rw [i_sI]
    split
    · rfl
    · exact z j (by omega)
  · rintro rec ⟨_, M2⟩ ⟨rfl, F, z⟩
    dsimp only at F z
    have s2 : IsMo M2 m := s.e F.k F.r
    unfold bd_X9_reset_2
    dsimp only
    rw [show (92 : Int32) = Int32.ofNat 92 from rfl, ile_e, show (2 : Int32) = Int32.ofNat 2 from rfl, s2.w1 (by omega), bs]
    refine ok.pure ⟨F.trans (Fi.sI ⟨by omega, by omega⟩), fun j hj => ?_⟩
    rw [i_sI]
    by_cases y : j = 2
    · rw [if_pos ⟨rfl, y⟩, if_pos y]
    · rw [if_neg (fun w => y w.2), if_neg y]; exact z j hj
theorem ck_e1 {x e : Int32} (s : IsMo M m) (h : mI M m 25 ≠ 0) : f_X9_check M m x e = some M := by
  unfold f_X9_check
  rw [s.gi, bs, if_neg h]
  split <;> rfl
theorem aG_e1 (s : IsMo M m) (h : mI M m 25 ≠ 0) : f_X9_advanceIfGood M m = some M := by
  unfold f_X9_advanceIfGood
  rw [s.gi, bs, if_neg h]
  rfl
/-- what the loop leaves -/
def LF (m : Nat) (t : Nat → Int32) (n : Nat) (M M' : Mem) : Prop := Nw m M M' ∧ IsMo M' m ∧ ((mI M' m 25 = 0 ∧ mI M' m 26 = -1 ∧ IsN M' m (rd t n 1201 D0 0 0 0).2.1 ∧ 0 ≤ (rd t n 1201 D0 0 0 0).1 ∧ mI M' m 28 = (rd t n 1201 D0 0 0 0).1) ∨ (mI M' m 25 ≠ 0 ∧ (rd t n 1201 D0 0 0 0).1 < 0 ∧ mI M' m 25 = (rd t n 1201 D0 0 0 0).1 ∧ mI M' m 26 = Int32.ofNat (tS t n (rd t n 1201 D0 0 0 0).2.2)))
theorem m_loop {α : Type} {kk : Mem → Option α} {Q : α → Prop} (hN : IsN M m D0) (h25 : mI M m 25 = 0) (h26 : mI M m 26 = -1) (h27 : mI M m 27 = 0) (h28 : mI M m 28 = 0) (hC : NC M m t n 0) (hk : ∀ M', LF m t n M M' → ok (kk M') Q) : ok (it_ (bd_X9_load_76 m kk) FU M) Q := by
  obtain ⟨R, eR⟩ : ∃ R, R = rd t n 1201 D0 0 0 0 := ⟨_, rfl⟩
  have ln := hC.1.2.2.1
  have fin : ∀ M', Nw m M M' ∧ IsMo M' m ∧ ((mI M' m 25 = 0 ∧ mI M' m 26 = -1 ∧ IsN M' m R.2.1 ∧ 0 ≤ R.1 ∧ mI M' m 28 = R.1) ∨ (mI M' m 25 ≠ 0 ∧ R.1 < 0 ∧ mI M' m 25 = R.1 ∧ mI M' m 26 = Int32.ofNat (tS t n R.2.2))) → ok (kk M') Q := fun M' z => hk M' (by rw [eR] at z; exact z)
  refine it_r (I := fun i u => Nw m M u ∧ ((∃ D g p, R = rd t n (1201 - i) D g i p ∧ i ≤ p ∧ mI u m 25 = 0 ∧ mI u m 26 = -1 ∧ IsN u m D ∧ mI u m 27 = g ∧ mI u m 28 = Int32.ofNat i ∧ NC u m t n p) ∨ (IsMo u m ∧ mI u m 25 ≠ 0 ∧ R.1 < 0 ∧ mI u m 25 = R.1 ∧ mI u m 26 = Int32.ofNat (tS t n R.2.2)))) 1202 ⟨Nw.rf, Or.inl ⟨D0, 0, 0, eR, Nat.le_refl _, h25, h26, hN, h27, h28, hC⟩⟩ (by omega) ?_ ?_
  · rintro rec i u hi ⟨F, hI⟩ hrec
    rcases hI with ⟨D, g, p, e, hp, u25, u26, N, u27, u28, C⟩ | ⟨s, b1, b2, b3, b4⟩
    · have lp := C.2.2.2.2.2.2
      have lc : tC t n p < 5 := by unfold tC; split; omega; split; omega; split; omega; split <;> omega
      have s := N.1
      have k0 := tK_o (t := t) (n := n) (p := p) (c := 0) (by omega)
      rw [show 1201 - i = 1200 - i + 1 by omega, rd_s (D := D) (g := g) (k := i) (p := p) (f := 1200 - i)] at e
      unfold bd_X9_load_76
      rw [s.gi, bs, u25, if_pos rfl, s.gi, bs, C.2.2.2.1]
      by_cases c0 : tC t n p = 0
      · rw [if_pos (k0.mpr c0)] at e
        rw [if_pos (by rw [c0]; rfl)]
        refine fin u ⟨F, s, Or.inl ⟨u25, u26, by rw [e]; exact N, by rw [e]; exact i_nn (by omega), by rw [e]; exact u28⟩⟩
      · rw [if_neg (fun z => c0 (k0.mp z))] at e
        have GU : GN m t n u p u := ⟨Nt.rf, u25, u26, C⟩
        rw [if_neg (show ¬ (Int32.ofNat (tC t n p) = 0) from fun z => c0 ((i_inj (b := 0) (by omega) (by omega)).mp z)), s.c, bs]
        refine ok.seq (m_stm GU N u27) ?_
        rintro M2 ⟨F2, e28, hP⟩
        obtain ⟨r, er_⟩ : ∃ r, r = stm t n D g p := ⟨_, rfl⟩
        have ps := stm_p (t := t) (n := n) (D := D) (g := g) (p := p)
        rw [← er_] at e hP ps
        rw [u28] at e28
        rcases hP with ⟨r1, m25, m26, N2, m27, C2⟩ | ⟨m25, m26, s2, hb⟩
        · have s2 := N2.1
          have lc2 : tC t n r.2.2.2 < 5 := by unfold tC; split; omega; split; omega; split; omega; split <;> omega
          have k3 := tK_o (t := t) (n := n) (p := r.2.2.2) (c := 3) (by omega)
          have G2 : GN m t n M2 r.2.2.2 M2 := ⟨Nt.rf, m25, m26, C2⟩
          rw [if_pos r1] at e
          rw [s2.gi, bs, C2.2.2.2.1, is_, bs, s2.c, bs, show (3 : Int32) = Int32.ofNat 3 from rfl]
          by_cases c3 : tC t n r.2.2.2 = 3
          · rw [if_pos (k3.mpr c3)] at e
            rw [if_pos (by rw [c3]), ck_1, bs, s2.c, bs]
            refine ok.seq (aG_g G2) ?_
            intro M3 G3
            have gt : tS t n r.2.2.2 < n := by
              rcases Nat.lt_or_ge (tS t n r.2.2.2) n with z | z
              · exact z
              · unfold tC at c3
                rw [if_pos z] at c3
                omega
            have gt2 := tE_gt gt
            have gt3 := tS_ge (t := t) (n := n) r.2.2.2
            rw [G3.s.gi, bs, G3.1.i (by omega), e28, i_succ, G3.s.p, bs]
            refine hrec _ ⟨F.trans (F2.trans (G3.1.nw.trans (Nw.sI (by omega)))), Or.inl ⟨r.2.1, r.2.2.1, _, ?_, ?_, ?_, ?_, ?_, ?_, ?_, G3.2.2.2.sIo (by omega)⟩⟩
            · rw [e, show 1201 - (i + 1) = 1200 - i by omega]
            · omega
            · rw [i_sI, if_neg (by omega)]; exact G3.2.1
            · rw [i_sI, if_neg (by omega)]; exact G3.2.2.1
            · exact (N2.nt G3.1).nt (hi := 29) (Nt.sI (by omega) (by omega) _)
            · rw [i_sI, if_neg (by omega), G3.1.i (by omega)]; exact m27
            · rw [i_sI, if_pos ⟨rfl, rfl⟩]
          · rw [if_neg (fun z => c3 (k3.mp z))] at e
            obtain ⟨M3, e3, B3, -⟩ := ck_f (b := false) (c := -11) G2 rfl (by decide)
            rw [show b2i false = 0 from rfl] at e3
            rw [if_neg (fun z => c3 ((i_inj (by omega) (by omega)).mp z)), e3, bs, B3.s.c, bs, aG_e B3, bs, B3.s.gi, bs, B3.s.p, bs]
            refine hrec _ ⟨F.trans (F2.trans (B3.1.nw.trans (Nw.sI (by omega)))), Or.inr ⟨B3.s.e rfl rfl, ?_, ?_, ?_, ?_⟩⟩
            · rw [i_sI, if_neg (by omega), B3.2.1]; decide
            · rw [e]; show (-11 : Int32) < 0; decide
            · rw [i_sI, if_neg (by omega), e]; exact B3.2.1
            · rw [i_sI, if_neg (by omega), e]; exact B3.2.2.2.1
        · have key : R.1 < 0 ∧ mI M2 m 25 = R.1 ∧ mI M2 m 26 = Int32.ofNat (tS t n R.2.2) := by
            rcases hb with ⟨y1, y2⟩ | ⟨y1, y2, y3, y4⟩
            · rw [if_neg (fun z => (nn_lt _).mp z y1)] at e
              rw [e]
              exact ⟨y1, y2, m26⟩
            · have n3 : tK t n r.2.2.2 ≠ 3 := fun z => by
                have := (tK_o (t := t) (n := n) (p := r.2.2.2) (c := 3) (by omega)).mp z
                omega
              rw [if_pos y1, if_neg n3] at e
              rw [e]
              exact ⟨show (-11 : Int32) < 0 by decide, y4, m26⟩
          rw [s2.gi, bs, is_, bs, s2.c, bs, ck_e1 s2 m25, bs, s2.c, bs, aG_e1 s2 m25, bs, s2.gi, bs, s2.p, bs]
          refine hrec _ ⟨F.trans (F2.trans (Nw.sI (by omega))), Or.inr ⟨s2.e rfl rfl, ?_, key.1, ?_, ?_⟩⟩
          · rw [i_sI, if_neg (by omega)]; exact m25
          · rw [i_sI, if_neg (by omega)]; exact key.2.1
          · rw [i_sI, if_neg (by omega)]; exact key.2.2
    · unfold bd_X9_load_76
      rw [s.gi, bs, if_neg b1]
      exact fin u ⟨F, s, Or.inr ⟨b1, b2, b3, b4⟩⟩
  · rintro rec u ⟨F, hI⟩
    rcases hI with ⟨D, g, p, e, hp, u25, u26, N, u27, u28, C⟩ | ⟨s, b1, b2, b3, b4⟩
    · have lp := C.2.2.2.2.2.2
      omega
    · unfold bd_X9_load_76
      rw [s.gi, bs, if_neg b1]
      exact fin u ⟨F, s, Or.inr ⟨b1, b2, b3, b4⟩⟩
/-! copied -/
theorem cp_149 {α : Type} {kk : Int32 × Mem → Option α} {Q : α → Prop} (s : IsMo M m) (hk : ∀ M', Fi (m + 1) (m + 2) M M' → (∀ j, j < 92 → mI M' (m + 1) j = mI M (m + 2) j) → ok (kk (Int32.ofNat 92, M')) Q) : ok (it_ (bd_X9_load_149 m kk) FU (0, M)) Q := by
  refine it_r (I := fun i (u : Int32 × Mem) => u.1 = Int32.ofNat i ∧ Fi (m + 1) (m + 2) M u.2 ∧ ∀ j, j < i → mI u.2 (m + 1) j = mI M (m + 2) j) 92 ⟨rfl, Fi.rf, fun j hj => absurd hj (Nat.not_lt_zero j)⟩ (by omega) ?_ ?_
  · rintro rec i ⟨_, M2⟩ hi ⟨rfl, F, z⟩ hrec
    dsimp only at F z
    have s2 : IsMo M2 m := s.e F.k F.r
    unfold bd_X9_load_149
    dsimp only
    rw [show (92 : Int32) = Int32.ofNat 92 from rfl, ile_n hi (by omega), s2.r0, bs, s2.r1, bs, s2.a1 hi, bs, s2.w0 hi, bs, i_succ]
    refine hrec _ ⟨rfl, F.trans (Fi.sI ⟨by omega, by omega⟩), fun j hj => ?_⟩
    dsimp only
    rw [i_sI]
    by_cases y : j = i
    · rw [if_pos ⟨rfl, y⟩, F.i (by omega), y]
    · rw [if_neg (fun w => y w.2)]; exact z j (by omega)
  · rintro rec ⟨_, M2⟩ ⟨rfl, F, z⟩
    dsimp only at F z
    unfold bd_X9_load_149
    dsimp only
    rw [show (92 : Int32) = Int32.ofNat 92 from rfl, ile_e]
    exact hk M2 F z
theorem cp_175 {α : Type} {kk : Int32 × Mem → Option α} {Q : α → Prop} (s : IsMo M m) (hk : ∀ M', Fi (m + 4) (m + 5) M M' → (∀ j, j < 4 → mI M' (m + 4) j = mI M (m + 7) j) → ok (kk (Int32.ofNat 4, M')) Q) : ok (it_ (bd_X9_load_175 m kk) FU (0, M)) Q := by
  refine it_r (I := fun i (u : Int32 × Mem) => u.1 = Int32.ofNat i ∧ Fi (m + 4) (m + 5) M u.2 ∧ ∀ j, j < i → mI u.2 (m + 4) j = mI M (m + 7) j) 4 ⟨rfl, Fi.rf, fun j hj => absurd hj (Nat.not_lt_zero j)⟩ (by omega) ?_ ?_
  · rintro rec i ⟨_, M2⟩ hi ⟨rfl, F, z⟩ hrec
    dsimp only at F z
    have s2 : IsMo M2 m := s.e F.k F.r
    unfold bd_X9_load_175
    dsimp only
    rw [show (4 : Int32) = Int32.ofNat 4 from rfl, ile_n hi (by omega), s2.r8, bs, s2.r14, bs, s2.a14 hi, bs, s2.w8 hi, bs, i_succ]
    refine hrec _ ⟨rfl, F.trans (Fi.sI ⟨by omega, by omega⟩), fun j hj => ?_⟩
    dsimp only
    rw [i_sI]
    by_cases y : j = i
    · rw [if_pos ⟨rfl, y⟩, F.i (by omega), y]
    · rw [if_neg (fun w => y w.2)]; exact z j (by omega)
  · rintro rec ⟨_, M2⟩ ⟨rfl, F, z⟩
    dsimp only at F z
    unfold bd_X9_load_175
    dsimp only
    rw [show (4 : Int32) = Int32.ofNat 4 from rfl, ile_e]
    exact hk M2 F z
theorem cp_200 {α : Type} {kk : Int32 × Mem → Option α} {Q : α → Prop} (s : IsMo M m) (hk : ∀ M', Fi (m + 5) (m + 7) M M' → (∀ j, j < 12 → mI M' (m + 5) j = mI M (m + 8) j ∧ mI M' (m + 6) j = mI M (m + 9) j) → ok (kk (Int32.ofNat 12, M')) Q) : ok (it_ (bd_X9_load_200 m kk) FU (0, M)) Q := by
  refine it_r (I := fun i (u : Int32 × Mem) => u.1 = Int32.ofNat i ∧ Fi (m + 5) (m + 7) M u.2 ∧ ∀ j, j < i → mI u.2 (m + 5) j = mI M (m + 8) j ∧ mI u.2 (m + 6) j = mI M (m + 9) j) 12 ⟨rfl, Fi.rf, fun j hj => absurd hj (Nat.not_lt_zero j)⟩ (by omega) ?_ ?_
  · rintro rec i ⟨_, M2⟩ hi ⟨rfl, F, z⟩ hrec
    dsimp only at F z
    have s2 : IsMo M2 m := s.e F.k F.r
    have s3 : IsMo (sI M2 (m + 5) i (mI M2 (m + 8) i)) m := s2.e rfl rfl
    unfold bd_X9_load_200
    dsimp only
    rw [show (12 : Int32) = Int32.ofNat 12 from rfl, ile_n hi (by omega), s2.r9, bs, s2.r15, bs, s2.a15 hi, bs, s2.w9 hi, bs, s3.r10, bs, s3.r16, bs, s3.a16 hi, bs, s3.w10 hi, bs, i_succ]
    refine hrec _ ⟨rfl, F.trans ((Fi.sI ⟨by omega, by omega⟩).trans (Fi.sI ⟨by omega, by omega⟩)), fun j hj => ⟨?_, ?_⟩⟩
    · dsimp only
      rw [i_sI, if_neg (by omega), i_sI]
      by_cases y : j = i
      · rw [if_pos ⟨rfl, y⟩, F.i (by omega), y]
      · rw [if_neg (fun w => y w.2)]; exact (z j (by omega)).1
    · dsimp only
      rw [i_sI]
      by_cases y : j = i
      · rw [if_pos ⟨rfl, y⟩, i_sI, if_neg (by omega), F.i (by omega), y]
      · rw [if_neg (fun w => y w.2), i_sI, if_neg (by omega)]; exact (z j (by omega)).2
  · rintro rec ⟨_, M2⟩ ⟨rfl, F, z⟩
    dsimp only at F z
    unfold bd_X9_load_200
    dsimp only
    rw [show (12 : Int32) = Int32.ofNat 12 from rfl, ile_e]
    exact hk M2 F z
end
