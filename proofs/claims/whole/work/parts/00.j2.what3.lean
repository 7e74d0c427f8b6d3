/-! ===== what if: a project without approvals ===== -/
section
variable {M M' : Mem} {x m bb sb : Nat} {D D1 : Bl}
def mix (D : Bl) (g : Nat → Int32) (n : Nat) : Bl := fun k i => if k = 8 ∧ i < n then g i else D k i
theorem mix_0 (g : Nat → Int32) : mix D g 0 = D := by
  funext k i
  exact if_neg (by omega)
theorem mix_s (g : Nat → Int32) (n : Nat) : mix D g (n + 1) = up (mix D g n) 8 n (g n) := by
  funext k i
  unfold mix up
  by_cases c : k = 8 ∧ i = n
  · obtain ⟨c1, c2⟩ := c
    subst c1; subst c2
    rw [if_pos (by omega), if_pos ⟨rfl, rfl⟩]
  · rw [if_neg c]
    by_cases c2 : k = 8 ∧ i < n
    · rw [if_pos (by omega)]
      exact (if_pos c2).symm
    · rw [if_neg (by omega)]
      exact (if_neg c2).symm
theorem mix_at (g : Nat → Int32) (n : Nat) : mix D g n 8 n = D 8 n := if_neg (by omega)
theorem mix_cn (g : Nat → Int32) (n j : Nat) : cn (mix D g n) j = cn D j := by
  have : mix D g n 0 j = D 0 j := if_neg (by omega)
  unfold cn
  rw [this]
theorem mix_ne (g : Nat → Int32) (n : Nat) {k : Nat} (h : k ≠ 8) : mix D g n k = D k := by
  funext i
  exact if_neg (fun z => h z.1)
theorem mix_tl (p q g : Nat → Int32) (n : Nat) : tl (mix (rw_ D p q) g n) = tl (mix D g n) := by
  refine tl_c (fun k hk => ?_) (fun k hk => ?_)
  · funext i
    unfold mix rw_
    split
    · rfl
    · rw [if_neg (by omega), if_neg (by omega)]
  · funext i
    unfold mix rw_
    split
    · rfl
    · rw [if_neg (by omega), if_neg (by omega)]
theorem gd_mix (h : Gd D) (g : Nat → Int32) (n : Nat) : Gd (tl (mix D g n)) := by
  have row : ∀ k, k < 10 → k ≠ 8 → tl (mix D g n) k = D k := fun k h1 h2 => (rw_ne h1).trans (mix_ne g n h2)
  have cnn : ∀ j, cn (tl (mix D g n)) j = cn D j := fun j => (cn_tl _ j).trans (mix_cn g n j)
  obtain ⟨a, b, c, d, e0, e1, e2, e3⟩ := h
  refine ⟨⟨fun j hj => ?_, ?_, ?_, ?_⟩, ?_, ?_, ?_, ?_, ?_, ?_, ?_⟩
  · rw [cnn, row 0 (by omega) (by omega)]; exact a.1 j hj
  · rw [cnn]; exact a.2.1
  · rw [cnn]; exact a.2.2.1
  · rw [cnn]; exact a.2.2.2
  · rw [cnn, row 2 (by omega) (by omega)]; exact b
  · rw [cnn, cnn, row 4 (by omega) (by omega), row 5 (by omega) (by omega)]; exact c
  · rw [cnn, cnn, row 6 (by omega) (by omega), row 7 (by omega) (by omega)]; exact d
  · rw [row 9 (by omega) (by omega)]; exact e0
  · rw [row 9 (by omega) (by omega)]; exact e1
  · rw [row 9 (by omega) (by omega)]; exact e2
  · rw [row 9 (by omega) (by omega)]; exact e3
/-- who approved it no longer does -/
def noA (D : Bl) (p : Nat) : Bl := tl (mix D (fun v => D 8 v &&& (bt p ^^^ (-1))) (cn D 2))
theorem c_fundedWithout (h : CQ M x bb sb D) (hG : Gd D) (a : Int32) : ok (f_X8_fundedWithout M x a) (ThrC x bb sb D M (inx a (cn D 1)) (SS (noA D (ix a)) 0)) := by
  have l1 := h.2.1.n.2.2.1
  have l2 := h.2.1.n.2.2.2
  have hin := h.1.in_
  unfold f_X8_fundedWithout
  simp only [h.1.r8, bs, h.2.1.g1]
  by_cases c : inx a (cn D 1)
  · obtain ⟨k, hk, rfl⟩ := ix_of (by omega) c
    rw [thB_p (by rw [f_ckx, if_pos c])]
    rw [h.1.r9, bs, h.1.r8, bs, h.2.2.1.c, bs]
    refine ok.seq (c_copy h) ?_
    rintro M1 ⟨C1, h1, p, q, hB⟩
    refine it_r (I := fun v (u : Int32 × Mem) => u.1 = Int32.ofNat v ∧ Cq x M u.2 ∧ CQ u.2 x bb sb D ∧ IsB u.2 sb (mix (rw_ D p q) (fun v => D 8 v &&& (bt k ^^^ (-1))) v)) (cn D 2) ⟨rfl, C1, h1, by rw [mix_0]; exact hB⟩ h.2.1.n.m2 ?_ ?_
    · rintro rec v ⟨_, M2⟩ hv ⟨rfl, C2, h2, B2⟩ hrec
      dsimp only at C2 h2 B2
      have cc : cn (mix (rw_ D p q) (fun v => D 8 v &&& (bt k ^^^ (-1))) v) 2 = cn D 2 := mix_cn _ _ _
      have g2 := B2.g2
      have a8 := B2.a8 (i := v) (by rw [cc]; exact hv)
      rw [cc] at g2
      rw [mix_at] at a8
      have w : wI M2 (sb + 8) (Int32.ofNat v) (D 8 v &&& (bt k ^^^ (-1))) = some (sI M2 (sb + 8) v (D 8 v &&& (bt k ^^^ (-1)))) := wI_e B2.1.k8 (by omega) (by omega)
      have F : Fq sb (sb + 12) M2 (sI M2 (sb + 8) v (D 8 v &&& (bt k ^^^ (-1)))) := Fq.sI ⟨by omega, by omega⟩
      have B3 := B2.cell (k := 8) (i := v) (by omega) (D 8 v &&& (bt k ^^^ (-1)))
      unfold bd_X8_fundedWithout_24
      dsimp only
      rw [h2.1.r9, bs, g2, bs, ile_n hv h.2.1.n.l2, bs, B2.1.r8, bs, a8, bs, show (1 : Int32) <<< (Int32.ofNat k &&& 31) = bt k from rfl, show rw_ D p q 8 v = D 8 v from rfl, w, bs, i_succ]
      exact hrec _ ⟨rfl, C2.trans (Cq.of F (by omega) (by omega)), h2.sps F B3.1, by rw [mix_s]; exact B3⟩
    · rintro rec ⟨_, M2⟩ ⟨rfl, C2, h2, B2⟩
      dsimp only at C2 h2 B2
      have cc : cn (mix (rw_ D p q) (fun v => D 8 v &&& (bt k ^^^ (-1))) (cn D 2)) 2 = cn D 2 := mix_cn _ _ _
      have g2 := B2.g2
      rw [cc] at g2
      unfold bd_X8_fundedWithout_24
      dsimp only
      rw [h2.1.r9, bs, g2, bs, ile_e, h2.1.c, bs]
      have et := mix_tl (D := D) p q (fun v => D 8 v &&& (bt k ^^^ (-1))) (cn D 2)
      refine ok.seq (c_if h2 B2 (by rw [et]; exact gd_mix hG _ _)) ?_
      rintro ⟨o, M3⟩ ⟨z, C3, h3⟩
      refine ok.pure ⟨fun _ => ⟨?_, C2.trans C3, h3⟩, fun z => absurd c z⟩
      dsimp only at z ⊢
      rw [z, et, ix_o (by omega)]
      rfl
  · rw [thB_n (by rw [f_ckx, if_neg c])]
    exact ok.pure ⟨fun z => absurd z c, fun _ => rfl⟩
theorem q_fundedWithout (h0 : IsM M m D) (hG : Gd D) (hL : mI M m 37 = 12) (a : Int32) : ok (f_X9_fundedWithout M m a) (ThrM m M (inx a (cn D 1)) (SS (noA D (ix a)) 0)) := by
  have l1 := h0.n.2.2.1
  have l2 := h0.n.2.2.2
  unfold f_X9_fundedWithout
  simp only [h0.s.c, bs, m_isP h0, m_fails h0.s, b2i_ite]
  by_cases c : inx a (cn D 1)
  · obtain ⟨k, hk, rfl⟩ := ix_of (by omega) c
    have h : IsM (sI M m 4 0) m D := h0.sIo (by omega) _
    have hL' := L4 hL 0
    rw [fYb c, if_neg (fY c)]
    generalize hM0 : sI M m 4 0 = M0 at h hL' ⊢
    generalize hg : (fun v => D 8 v &&& (bt k ^^^ (-1))) = g
    have gv : ∀ v, g v = D 8 v &&& (bt k ^^^ (-1)) := fun v => by rw [← hg]
    have eN : noA D k = tl (mix D g (cn D 2)) := by rw [← hg]; rfl
    refine it_r (I := fun v (u : Int32 × Mem) => u.1 = Int32.ofNat v ∧ mK u.2 = mK M0 ∧ mL u.2 = mL M0 ∧ mR u.2 = mR M0 ∧ mN u.2 = mN M0 ∧ IsM u.2 m (mix D g v) ∧ (∀ x j, x ≠ m + 1 → x ≠ m + 18 → mI u.2 x j = mI M0 x j) ∧ (∀ j, ¬ (68 ≤ j ∧ j < 68 + v) → mI u.2 (m + 1) j = mI M0 (m + 1) j) ∧ ∀ j, j < v → mI u.2 (m + 18) j = mI M0 (m + 1) (68 + j)) (cn D 2) ⟨rfl, rfl, rfl, rfl, rfl, by rw [mix_0]; exact h, fun _ _ _ _ => rfl, fun _ _ => rfl, fun j hj => absurd hj (Nat.not_lt_zero j)⟩ h.n.m2 ?_ ?_
    · rintro rec v ⟨_, M2⟩ hv ⟨rfl, eK, eL, eR, eN2, I2, i1, i2, i3⟩ hrec
      dsimp only at eK eL eR eN2 I2 i1 i2 i3
      have cc : cn (mix D g v) 2 = cn D 2 := mix_cn _ _ _
      have g7 := I2.g7
      have d8 := I2.d8 (v := v) (by rw [cc]; exact hv)
      rw [cc] at g7
      rw [mix_at] at d8
      have w1 : wI M2 (m + 18) (Int32.ofNat v) (D 8 v) = some (sI M2 (m + 18) v (D 8 v)) := I2.s.w41 (by omega) _
      have I3 : IsM (sI M2 (m + 18) v (D 8 v)) m (mix D g v) := I2.up rfl rfl (fun j hj => by rw [i_sI, if_neg (by omega)]) (fun j => by rw [i_sI, if_neg (by omega)]) (fun j => by rw [i_sI, if_neg (by omega)]) (fun j => by rw [i_sI, if_neg (by omega)]) (fun j => by rw [i_sI, if_neg (by omega)])
      have r18 : aI (sI M2 (m + 18) v (D 8 v)) (m + 18) (Int32.ofNat v) = some (D 8 v) := by
        rw [I3.s.a41 (by omega), i_sI, if_pos ⟨rfl, rfl⟩]
      have w2 : wI (sI M2 (m + 18) v (D 8 v)) (m + 1) (Int32.ofNat (68 + v)) (g v) = some (sI (sI M2 (m + 18) v (D 8 v)) (m + 1) (68 + v) (g v)) := I3.s.w0 (by omega) _
      have I4 := isM_cell I3 (k := 8) (off := 68) (i := v) (by omega) (by show v < cn _ 2; rw [cc]; exact hv) (g v)
      unfold bd_X9_fundedWithout_16 f_X9_with
      dsimp only
      rw [g7, bs, ile_n hv h.n.l2, I2.s.r41, bs, I2.s.r0, bs, d8, bs, w1, bs, I3.s.r0, bs, I3.s.r41, bs, r18, bs, if_pos rfl, bs, bs, show (1 : Int32) <<< (Int32.ofNat k &&& 31) = bt k from rfl, ← gv, ad68, w2, bs, i_succ]
      refine hrec _ ⟨rfl, eK, eL, eR, eN2, by rw [mix_s]; exact I4, fun x j z1 z2 => ?_, fun j hj => ?_, fun j hj => ?_⟩
      · dsimp only
        rw [i_sI, if_neg (by omega), i_sI, if_neg (by omega)]; exact i1 x j z1 z2
      · dsimp only
        rw [i_sI, if_neg (by omega), i_sI, if_neg (by omega)]; exact i2 j (by omega)
      · dsimp only
        rw [i_sI, if_neg (by omega), i_sI]
        by_cases z : j = v
        · subst z
          have o := i2 (68 + j) (by omega)
          have d8' := d8
          rw [ad68, I2.s.a0 (by omega), o] at d8'
          rw [if_pos ⟨rfl, rfl⟩]
          exact (Option.some.inj d8').symm
        · rw [if_neg (by omega)]; exact i3 j (by omega)
    · rintro rec ⟨_, M2⟩ ⟨rfl, eK, eL, eR, eN2, I2, i1, i2, i3⟩
      dsimp only at eK eL eR eN2 I2 i1 i2 i3
      have cc : cn (mix D g (cn D 2)) 2 = cn D 2 := mix_cn _ _ _
      have g7 := I2.g7
      rw [cc] at g7
      unfold bd_X9_fundedWithout_16
      dsimp only
      rw [g7, bs, ile_e, I2.s.c, bs]
      refine ok.seq (m_equal (isM_tl I2) (gd_mix hG _ _) (Tl_tl _) (by rw [i1 m 37 (by omega) (by omega)]; exact hL')) ?_
      rintro M3 ⟨F3, E3⟩
      have I3 := I2.mg F3
      have e30 : mI M3 m 30 = SS (noA D k) 0 := by rw [eN, SS_0]; exact E3.2.2.2.1.2.2.2.2
      refine it_r (I := fun v (u : Int32 × Mem) => u.1 = Int32.ofNat v ∧ mK u.2 = mK M3 ∧ mL u.2 = mL M3 ∧ mR u.2 = mR M3 ∧ mN u.2 = mN M3 ∧ (∀ x j, ¬ (x = m + 1 ∧ 68 ≤ j ∧ j < 68 + v) → mI u.2 x j = mI M3 x j) ∧ ∀ j, j < v → mI u.2 (m + 1) (68 + j) = mI M0 (m + 1) (68 + j)) (cn D 2) ⟨rfl, rfl, rfl, rfl, rfl, fun _ _ _ => rfl, fun j hj => absurd hj (Nat.not_lt_zero j)⟩ h.n.m2 ?_ ?_
      · rintro rec v ⟨_, M4⟩ hv ⟨rfl, fK, fL, fR, fN2, j1, j2⟩ hrec
        dsimp only at fK fL fR fN2 j1 j2
        have s4 : IsMo M4 m := I3.s.e fK fR
        have g7' : gFI M4 m 9 7 = some (Int32.ofNat (cn D 2)) := by
          have z := I3.g7
          rw [cc, I3.s.gi] at z
          rw [s4.gi, j1 m 7 (by omega)]; exact z
        have r18 : aI M4 (m + 18) (Int32.ofNat v) = some (mI M0 (m + 1) (68 + v)) := by
          rw [s4.a41 (by omega), j1 (m + 18) v (by omega), F3.row (by omega) (by omega), i3 v hv]
        unfold bd_X9_fundedWithout_71
        dsimp only
        rw [g7', bs, ile_n hv h.n.l2, s4.r0, bs, s4.r41, bs, r18, bs, ad68, s4.w0 (by omega), bs, i_succ]
        refine hrec _ ⟨rfl, fK, fL, fR, fN2, fun x j z => ?_, fun j hj => ?_⟩
        · dsimp only
          rw [i_sI, if_neg (by omega)]; exact j1 x j (by omega)
        · dsimp only
          rw [i_sI]
          by_cases z : j = v
          · subst z; rw [if_pos ⟨rfl, rfl⟩]
          · rw [if_neg (by omega)]; exact j2 j (by omega)
      · rintro rec ⟨_, M4⟩ ⟨rfl, fK, fL, fR, fN2, j1, j2⟩
        dsimp only at fK fL fR fN2 j1 j2
        have s4 : IsMo M4 m := I3.s.e fK fR
        have g7' : gFI M4 m 9 7 = some (Int32.ofNat (cn D 2)) := by
          have z := I3.g7
          rw [cc, I3.s.gi] at z
          rw [s4.gi, j1 m 7 (by omega)]; exact z
        unfold bd_X9_fundedWithout_71
        dsimp only
        rw [g7', bs, ile_e, s4.gi, bs, j1 m 30 (by omega), e30]
        refine ok.pure ⟨fun _ => ⟨by rw [ix_o (by omega)], ?_⟩, fun z => absurd c z⟩
        rw [hM0]
        refine ⟨fK.trans (F3.1.trans eK), fR.trans (F3.2.2.1.trans eR), fN2.trans (F3.2.2.2.1.trans eN2), fun a _ => by dsimp only; rw [fL, F3.2.1, eL], fun a z1 z2 => ?_, fun j z1 z2 z3 z4 => ?_⟩
        · funext j
          dsimp only
          by_cases w : a = m + 1 ∧ 68 ≤ j ∧ j < 68 + cn D 2
          · have := j2 (j - 68) (by omega)
            rw [show 68 + (j - 68) = j by omega] at this
            rw [w.1]; exact this
          · rw [j1 a j w, F3.row z1 (by omega)]
            by_cases w2 : a = m + 1
            · rw [w2]; exact i2 j (fun q => w ⟨w2, q⟩)
            · exact i1 a j w2 (by omega)
        · dsimp only
          rw [j1 m j (by omega), F3.fld ⟨z1, z2, z3, z4⟩]
          exact i1 m j (by omega) (by omega)
  · rw [fNb c, if_pos (fN c)]
    exact ok.pure ⟨fun z => absurd z c, fun _ => rfl⟩
end
