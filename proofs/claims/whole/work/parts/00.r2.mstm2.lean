/-! ===== the reference reads projects, voters ===== -/
section
variable {M M' M0 M1 M2 M4 : Mem} {t : Nat → Int32} {n p q m hi : Nat} {D : Bl} {c g : Int32} {r : Rs} {f : Nat → Int32}
theorem PM.bad2 {E : Bl} (h : BN m t n M (-11) q M') (h1 : tC t n q = 1) (h2 : tK t n q ≠ 9) : PM m t n M (0, E, g, q) M' := ⟨h.1.nw, h.1.i (by omega), Or.inr ⟨by rw [h.2.1]; exact h.2.2.1, h.2.2.2.1, h.s, Or.inr ⟨nnF, h1, h2, h.2.1⟩⟩⟩
theorem m_jw (hN : IsN M m D) (hg : mI M m 27 = g) (c : cn D 1 < 12) (G : GN m t n M q M4) (w v s : Int32) : ok (gFI M4 m 9 25 >>= fun (x10 : Int32) => if x10 = 0 then (gFR M4 m 9 15 >>= fun (r11 : Nat) => wI M4 r11 (Int32.ofNat (cn D 1)) w >>= fun (M12 : Mem) => gFR M12 m 9 16 >>= fun (r13 : Nat) => wI M12 r13 (Int32.ofNat (cn D 1)) s >>= fun (M14 : Mem) => gFR M14 m 9 1 >>= fun (r15 : Nat) => wI M14 r15 (8 + Int32.ofNat (cn D 1)) v >>= fun (M16 : Mem) => gFI M16 m 9 12 >>= fun (x17 : Int32) => pFI M16 m 9 12 (x17 + 1) >>= fun (M18 : Mem) => some M18) else some M4) (PM m t n M (0, dP D w v s, g, q)) := by
  have N3 := hN.nt G.1
  have s3 := G.s
  obtain ⟨M5, q5⟩ : ∃ z, z = sI M4 (m + 8) (cn D 1) w := ⟨_, rfl⟩
  have s5 : IsMo M5 m := by rw [q5]; exact s3.e rfl rfl
  obtain ⟨M6, q6⟩ : ∃ z, z = sI M5 (m + 9) (cn D 1) s := ⟨_, rfl⟩
  have s6 : IsMo M6 m := by rw [q6]; exact s5.e rfl rfl
  obtain ⟨M7, q7⟩ : ∃ z, z = sI M6 (m + 2) (8 + cn D 1) v := ⟨_, rfl⟩
  have s7 : IsMo M7 m := by rw [q7]; exact s6.e rfl rfl
  have e12 : mI M7 m 12 = Int32.ofNat (cn D 1) := by
    rw [q7, i_sI, if_neg (by omega), q6, i_sI, if_neg (by omega), q5, i_sI, if_neg (by omega), N3.2.1 1 (by omega), N3.2.2.1.1 1 (by omega)]
  rw [s3.gi, bs, G.2.1, if_pos rfl, s3.r15, bs, s3.w15 c, bs, ← q5, s5.r16, bs, s5.w16 c, bs, ← q6, s6.r1, bs, ad8, s6.w1 (by omega), bs, ← q7, s7.gi, bs, e12, i_succ, s7.p, bs]
  obtain ⟨M8, q8⟩ : ∃ z, z = sI M7 m 12 (Int32.ofNat (cn D 1 + 1)) := ⟨_, rfl⟩
  rw [← q8]
  have old : ∀ a j, ¬ (a = m + 8 ∧ j = cn D 1) → ¬ (a = m + 9 ∧ j = cn D 1) → ¬ (a = m + 2 ∧ j = 8 + cn D 1) → ¬ (a = m ∧ j = 12) → mI M8 a j = mI M4 a j := fun a j z1 z2 z3 z4 => by
    rw [q8, i_sI, if_neg z4, q7, i_sI, if_neg z3, q6, i_sI, if_neg z2, q5, i_sI, if_neg z1]
  refine ok.pure ⟨G.1.nw.trans ?_, ?_, Or.inl ⟨nnF, ?_, ?_, ?_, ?_, ?_⟩⟩
  · rw [q8, q7, q6, q5]
    exact (Nw.sI (by omega)).trans ((Nw.sI (by omega)).trans ((Nw.sI (by omega)).trans (Nw.sI (by omega))))
  · rw [old _ _ (by omega) (by omega) (by omega) (by omega)]; exact G.1.i (by omega)
  · rw [old _ _ (by omega) (by omega) (by omega) (by omega)]; exact G.2.1
  · rw [old _ _ (by omega) (by omega) (by omega) (by omega)]; exact G.2.2.1
  · refine N3.ps (Or.inr (Or.inl ⟨rfl, c⟩)) (by rw [q8, q7, q6, q5]; rfl) (by rw [q8, q7, q6, q5]; rfl) ?_ (fun j hj1 hj2 => ?_) (fun k z1 z2 z3 => ?_) (fun k i z1 z2 z3 z4 => ?_)
    · rw [q8, i_sI, if_pos ⟨rfl, rfl⟩]
    · exact old _ _ (by omega) (by omega) (by omega) (by omega)
    · rcases (show k = 3 ∨ k = 4 ∨ k = 5 ∨ k = 1 ∨ k = 2 ∨ k = 6 ∨ k = 7 ∨ k = 8 ∨ k = 9 by omega) with e | e | e | e | e | e | e | e | e <;> subst e
      · rw [show lO 3 + cn D 1 = cn D 1 from Nat.zero_add _, show m + lA 3 = m + 8 from rfl, q8, i_sI, if_neg (by omega), q7, i_sI, if_neg (by omega), q6, i_sI, if_neg (by omega), q5, i_sI, if_pos ⟨rfl, rfl⟩]; rfl
      · rw [show lO 4 + cn D 1 = 8 + cn D 1 from rfl, show m + lA 4 = m + 2 from rfl, q8, i_sI, if_neg (by omega), q7, i_sI, if_pos ⟨rfl, rfl⟩]; rfl
      · rw [show lO 5 + cn D 1 = cn D 1 from Nat.zero_add _, show m + lA 5 = m + 9 from rfl, q8, i_sI, if_neg (by omega), q7, i_sI, if_neg (by omega), q6, i_sI, if_pos ⟨rfl, rfl⟩]; rfl
      all_goals exact absurd z3 (by decide)
    · have lr := lA_r k z2 z1
      have nn : ∀ k', (k' = 3 ∨ k' = 4 ∨ k' = 5) → lA k = lA k' → ¬ lO k + i = lO k' + cn D 1 := fun k' hk' e1 e2 => by
        have := LA_inj (k' := k') (i' := cn D 1) z1 z2 (by omega) (by omega) z3 (by rcases hk' with e | e | e <;> subst e <;> exact c) e1 e2
        rcases z4 with y | y
        · refine y ?_
          rw [this.1]
          rcases hk' with e | e | e <;> subst e <;> rfl
        · exact y this.2
      refine old _ _ (fun z => nn 3 (by omega) (show lA k = 8 by omega) (show lO k + i = 0 + cn D 1 by omega)) (fun z => nn 5 (by omega) (show lA k = 9 by omega) (show lO k + i = 0 + cn D 1 by omega)) (fun z => nn 4 (by omega) (show lA k = 2 by omega) (show lO k + i = 8 + cn D 1 by omega)) (by omega)
  · rw [old _ _ (by omega) (by omega) (by omega) (by omega), G.1.i (by omega)]; exact hg
  · rw [q8, q7, q6, q5]
    exact (((G.2.2.2.sIo (by omega)).sIo (by omega)).sIo (by omega)).sIo (by omega)
theorem m_sJ (h : GN m t n M p M) (hN : IsN M m D) (hg : mI M m 27 = g) : ok (f_X9_parseProject M m) (PM m t n M (sJ t n D g p)) := by
  have l0 := hN.2.2.1.2.1
  have l1 := hN.2.2.1.2.2.1
  have cnd : (12 : Int32) ≤ Int32.ofNat (cn D 1) ↔ 12 ≤ cn D 1 := i_le (a := 12) (by omega) (by omega)
  unfold f_X9_parseProject
  rw [hN.g1, bs]
  by_cases c : cn D 1 < 12
  · rw [if_neg (fun z => by have := cnd.mp z; omega), bs, h.s.c, bs, ck_1, bs, h.s.c, bs]
    refine ok.seq (aG_g h) ?_
    intro M1 G1
    rw [G1.s.c, bs]
    refine ok.seq (m_name G1 hN) ?_
    rintro ⟨w, M2⟩ ⟨a1, a2⟩
    dsimp only at a1 a2 ⊢
    by_cases c1 : 0 ≤ nN t n D (tE t n p)
    · obtain ⟨rfl, G2⟩ := a1 c1
      rw [G2.s.c, bs]
      refine ok.seq (m_int (lo := 1) (hi := 100000) (by omega) (by omega) G2) ?_
      rintro ⟨v, M3⟩ ⟨b1, b2⟩
      dsimp only at b1 b2 ⊢
      by_cases c2 : 0 ≤ nI_ t n 1 100000 (tE t n (tE t n p))
      · obtain ⟨rfl, G3⟩ := b1 c2
        rw [G3.s.r14, bs, (hN.nt G3.1).g0, bs, G3.s.c, bs]
        refine ok.seq (m_list G3 hN.1.k14 (by omega) l0 (by omega) hN.v1) ?_
        obtain ⟨l, el⟩ : ∃ l, l = lst t n (D 1) (cn D 0) (cn D 0 + 1) 0 (tE t n (tE t n (tE t n p))) := ⟨_, rfl⟩
        have er_ : sJ t n D g p = sJ3 D g (nN t n D (tE t n p)) (nI_ t n 1 100000 (tE t n (tE t n p))) l := by
          unfold sJ sJ1 sJ2
          rw [if_pos c, if_pos c1, if_pos c2, el]
        rw [er_, ← el]
        rintro ⟨s, M4⟩ hl
        dsimp only
        unfold sJ3
        rcases hl with (⟨z1, B4⟩ | ⟨z1, z2, z3, B4⟩) | ⟨z1, z2, G4⟩
        · dsimp only at B4
          rw [B4.s.gi, bs, B4.2.1, if_neg B4.2.2.1, if_neg (fun z => (nn_lt _).mp z z1)]
          exact ok.pure (PM.bad B4 z1)
        · dsimp only at B4
          rw [B4.s.gi, bs, B4.2.1, if_neg B4.2.2.1, if_pos z1]
          exact ok.pure (PM.bad2 B4 z2 z3)
        · dsimp only at z2 G4
          rw [if_pos z1, ← z2]
          exact m_jw hN hg c G4 _ _ _
      · have er_ : sJ t n D g p = (nI_ t n 1 100000 (tE t n (tE t n p)), D, g, tE t n (tE t n p)) := by
          unfold sJ sJ1 sJ2
          rw [if_pos c, if_pos c1, if_neg c2]
        have B3 := b2 c2
        rw [B3.s.r14, bs, (hN.nt B3.1).g0, bs, B3.s.c, bs]
        refine ok.seq (m_list_e B3) ?_
        rintro ⟨s, M4⟩ e4
        dsimp only at e4 ⊢
        rw [e4, B3.s.gi, bs, B3.2.1, if_neg B3.2.2.1, er_]
        exact ok.pure (PM.bad B3 (neg_of c2))
    · have er_ : sJ t n D g p = (nN t n D (tE t n p), D, g, tE t n p) := by
        unfold sJ sJ1
        rw [if_pos c, if_neg c1]
      have B2 := a2 c1
      rw [B2.s.c, bs]
      refine ok.seq (m_int_e B2) ?_
      rintro ⟨v, M3⟩ e3
      dsimp only at e3 ⊢
      rw [e3, B2.s.r14, bs, (hN.nt B2.1).g0, bs, B2.s.c, bs]
      refine ok.seq (m_list_e B2) ?_
      rintro ⟨s, M4⟩ e4
      dsimp only at e4 ⊢
      rw [e4, B2.s.gi, bs, B2.2.1, if_neg B2.2.2.1, er_]
      exact ok.pure (PM.bad B2 (neg_of c1))
  · have er_ : sJ t n D g p = (-15, D, g, p) := by
      unfold sJ
      rw [if_neg c]
    obtain ⟨M1, e1, B1, -⟩ := ck_f (b := false) (c := -15) h rfl (by decide)
    rw [show b2i false = 0 from rfl] at e1
    rw [if_pos (cnd.mpr (by omega)), bs, h.s.c, bs, e1, bs, B1.s.c, bs, aG_e B1, bs, B1.s.c, bs]
    refine ok.seq (m_name_e B1 hN) ?_
    rintro ⟨w, M2⟩ e2
    dsimp only at e2 ⊢
    rw [e2, B1.s.c, bs]
    refine ok.seq (m_int_e B1) ?_
    rintro ⟨v, M3⟩ e3
    dsimp only at e3 ⊢
    rw [e3, B1.s.r14, bs, (hN.nt B1.1).g0, bs, B1.s.c, bs]
    refine ok.seq (m_list_e B1) ?_
    rintro ⟨s, M4⟩ e4
    dsimp only at e4 ⊢
    rw [e4, B1.s.gi, bs, B1.2.1, if_neg B1.2.2.1, er_]
    exact ok.pure (PM.bad B1 (by decide))
theorem m_vw (hN : IsN M m D) (hg : mI M m 27 = g) (c : cn D 2 < 24) (G : GN m t n M q M4) (w s a : Int32) : ok (gFI M4 m 9 25 >>= fun (x14 : Int32) => if x14 = 0 then (gFR M4 m 9 1 >>= fun (r15 : Nat) => wI M4 r15 (20 + Int32.ofNat (cn D 2)) w >>= fun (M16 : Mem) => gFR M16 m 9 1 >>= fun (r17 : Nat) => wI M16 r17 (44 + Int32.ofNat (cn D 2)) s >>= fun (M18 : Mem) => gFR M18 m 9 1 >>= fun (r19 : Nat) => wI M18 r19 (68 + Int32.ofNat (cn D 2)) a >>= fun (M20 : Mem) => gFI M20 m 9 13 >>= fun (x21 : Int32) => pFI M20 m 9 13 (x21 + 1) >>= fun (M22 : Mem) => some M22) else some M4) (PM m t n M (0, dV D w s a, g, q)) := by
  have N3 := hN.nt G.1
  have s3 := G.s
  obtain ⟨M5, q5⟩ : ∃ z, z = sI M4 (m + 2) (20 + cn D 2) w := ⟨_, rfl⟩
  have s5 : IsMo M5 m := by rw [q5]; exact s3.e rfl rfl
  obtain ⟨M6, q6⟩ : ∃ z, z = sI M5 (m + 2) (44 + cn D 2) s := ⟨_, rfl⟩
  have s6 : IsMo M6 m := by rw [q6]; exact s5.e rfl rfl
  obtain ⟨M7, q7⟩ : ∃ z, z = sI M6 (m + 2) (68 + cn D 2) a := ⟨_, rfl⟩
  have s7 : IsMo M7 m := by rw [q7]; exact s6.e rfl rfl
  have e13 : mI M7 m 13 = Int32.ofNat (cn D 2) := by
    rw [q7, i_sI, if_neg (by omega), q6, i_sI, if_neg (by omega), q5, i_sI, if_neg (by omega), N3.2.1 2 (by omega), N3.2.2.1.1 2 (by omega)]
  rw [s3.gi, bs, G.2.1, if_pos rfl, s3.r1, bs, ad20, s3.w1 (by omega), bs, ← q5, s5.r1, bs, ad44, s5.w1 (by omega), bs, ← q6, s6.r1, bs, ad68, s6.w1 (by omega), bs, ← q7, s7.gi, bs, e13, i_succ, s7.p, bs]
  obtain ⟨M8, q8⟩ : ∃ z, z = sI M7 m 13 (Int32.ofNat (cn D 2 + 1)) := ⟨_, rfl⟩
  rw [← q8]
  have old : ∀ b j, ¬ (b = m + 2 ∧ j = 20 + cn D 2) → ¬ (b = m + 2 ∧ j = 44 + cn D 2) → ¬ (b = m + 2 ∧ j = 68 + cn D 2) → ¬ (b = m ∧ j = 13) → mI M8 b j = mI M4 b j := fun b j z1 z2 z3 z4 => by
    rw [q8, i_sI, if_neg z4, q7, i_sI, if_neg z3, q6, i_sI, if_neg z2, q5, i_sI, if_neg z1]
  refine ok.pure ⟨G.1.nw.trans ?_, ?_, Or.inl ⟨nnF, ?_, ?_, ?_, ?_, ?_⟩⟩
  · rw [q8, q7, q6, q5]
    exact (Nw.sI (by omega)).trans ((Nw.sI (by omega)).trans ((Nw.sI (by omega)).trans (Nw.sI (by omega))))
  · rw [old _ _ (by omega) (by omega) (by omega) (by omega)]; exact G.1.i (by omega)
  · rw [old _ _ (by omega) (by omega) (by omega) (by omega)]; exact G.2.1
  · rw [old _ _ (by omega) (by omega) (by omega) (by omega)]; exact G.2.2.1
  · refine N3.ps (Or.inr (Or.inr ⟨rfl, c⟩)) (by rw [q8, q7, q6, q5]; rfl) (by rw [q8, q7, q6, q5]; rfl) ?_ (fun j hj1 hj2 => ?_) (fun k z1 z2 z3 => ?_) (fun k i z1 z2 z3 z4 => ?_)
    · rw [q8, i_sI, if_pos ⟨rfl, rfl⟩]
    · exact old _ _ (by omega) (by omega) (by omega) (by omega)
    · rcases (show k = 6 ∨ k = 7 ∨ k = 8 ∨ k = 1 ∨ k = 2 ∨ k = 3 ∨ k = 4 ∨ k = 5 ∨ k = 9 by omega) with e | e | e | e | e | e | e | e | e <;> subst e
      · rw [show lO 6 + cn D 2 = 20 + cn D 2 from rfl, show m + lA 6 = m + 2 from rfl, q8, i_sI, if_neg (by omega), q7, i_sI, if_neg (by omega), q6, i_sI, if_neg (by omega), q5, i_sI, if_pos ⟨rfl, rfl⟩]; rfl
      · rw [show lO 7 + cn D 2 = 44 + cn D 2 from rfl, show m + lA 7 = m + 2 from rfl, q8, i_sI, if_neg (by omega), q7, i_sI, if_neg (by omega), q6, i_sI, if_pos ⟨rfl, rfl⟩]; rfl
      · rw [show lO 8 + cn D 2 = 68 + cn D 2 from rfl, show m + lA 8 = m + 2 from rfl, q8, i_sI, if_neg (by omega), q7, i_sI, if_pos ⟨rfl, rfl⟩]; rfl
      all_goals exact absurd z3 (by decide)
    · have lr := lA_r k z2 z1
      have nn : ∀ k', (k' = 6 ∨ k' = 7 ∨ k' = 8) → lA k = lA k' → ¬ lO k + i = lO k' + cn D 2 := fun k' hk' e1 e2 => by
        have := LA_inj (k' := k') (i' := cn D 2) z1 z2 (by omega) (by omega) z3 (by rcases hk' with e | e | e <;> subst e <;> exact c) e1 e2
        rcases z4 with y | y
        · refine y ?_
          rw [this.1]
          rcases hk' with e | e | e <;> subst e <;> rfl
        · exact y this.2
      refine old _ _ (fun z => nn 6 (by omega) (show lA k = 2 by omega) (show lO k + i = 20 + cn D 2 by omega)) (fun z => nn 7 (by omega) (show lA k = 2 by omega) (show lO k + i = 44 + cn D 2 by omega)) (fun z => nn 8 (by omega) (show lA k = 2 by omega) (show lO k + i = 68 + cn D 2 by omega)) (by omega)
  · rw [old _ _ (by omega) (by omega) (by omega) (by omega), G.1.i (by omega)]; exact hg
  · rw [q8, q7, q6, q5]
    exact (((G.2.2.2.sIo (by omega)).sIo (by omega)).sIo (by omega)).sIo (by omega)
theorem m_sV (h : GN m t n M p M) (hN : IsN M m D) (hg : mI M m 27 = g) : ok (f_X9_parseVoter M m) (PM m t n M (sV t n D g p)) := by
  have l0 := hN.2.2.1.2.1
  have l1 := hN.2.2.1.2.2.1
  have l2 := hN.2.2.1.2.2.2
  have cnd : (24 : Int32) ≤ Int32.ofNat (cn D 2) ↔ 24 ≤ cn D 2 := i_le (a := 24) (by omega) (by omega)
  unfold f_X9_parseVoter
  rw [hN.g2, bs]
  by_cases c : cn D 2 < 24
  · rw [if_neg (fun z => by have := cnd.mp z; omega), bs, h.s.c, bs, ck_1, bs, h.s.c, bs]
    refine ok.seq (aG_g h) ?_
    intro M1 G1
    rw [G1.s.c, bs]
    refine ok.seq (m_int (lo := 1) (hi := 9) (by omega) (by omega) G1) ?_
    rintro ⟨w, M2⟩ ⟨a1, a2⟩
    dsimp only at a1 a2 ⊢
    by_cases c1 : 0 ≤ nI_ t n 1 9 (tE t n p)
    · obtain ⟨rfl, G2⟩ := a1 c1
      have wI_ := m_isW G2 3 (by omega)
      rw [show Int64.ofNat (cW 3) = 302 from rfl] at wI_
      rw [G2.s.c, bs, wI_, bs, bs]
      by_cases c2 : tK t n (tE t n (tE t n p)) = 5 + 3
      · rw [ck_t (decide_eq_true c2), bs, G2.s.c, bs]
        refine ok.seq (aG_g G2) ?_
        intro M3 G3
        rw [G3.s.r14, bs, (hN.nt G3.1).g0, bs, G3.s.c, bs]
        refine ok.seq (m_list G3 hN.1.k14 (by omega) l0 (by omega) hN.v1) ?_
        obtain ⟨l, el⟩ : ∃ l, l = lst t n (D 1) (cn D 0) (cn D 0 + 1) 0 (tE t n (tE t n (tE t n p))) := ⟨_, rfl⟩
        have er_ : sV t n D g p = sV3 t n D g (nI_ t n 1 9 (tE t n p)) l := by
          unfold sV sV1 sV2
          rw [if_pos c, if_pos c1, if_pos c2, el]
        rw [er_, ← el]
        rintro ⟨s, M4⟩ hl
        dsimp only
        unfold sV3
        have bad : ∀ {c' : Int32} {q' : Nat} {r' : Rs}, BN m t n M c' q' M4 → PM m t n M r' M4 → ok (ck M4 m 9 >>= fun _ => f_X9_isWord M4 m 6642 >>= fun (o12 : Int32) => (if o12 = 0 then (some ((0 : Int32), M4)) else (ck M4 m 9 >>= fun _ => f_X9_advance M4 m >>= fun (o23 : Mem) => gFR o23 m 9 15 >>= fun (r24 : Nat) => gFI o23 m 9 12 >>= fun (x25 : Int32) => ck o23 m 9 >>= fun _ => f_X9_readList o23 m r24 x25 >>= fun (o26 : Int32 × Mem) => some (o26.1, o26.2))) >>= fun (j13 : Int32 × Mem) => gFI j13.2 m 9 25 >>= fun (x14 : Int32) => if x14 = 0 then (gFR j13.2 m 9 1 >>= fun (r15 : Nat) => wI j13.2 r15 (20 + Int32.ofNat (cn D 2)) (nI_ t n 1 9 (tE t n p)) >>= fun (M16 : Mem) => gFR M16 m 9 1 >>= fun (r17 : Nat) => wI M16 r17 (44 + Int32.ofNat (cn D 2)) s >>= fun (M18 : Mem) => gFR M18 m 9 1 >>= fun (r19 : Nat) => wI M18 r19 (68 + Int32.ofNat (cn D 2)) j13.1 >>= fun (M20 : Mem) => gFI M20 m 9 13 >>= fun (x21 : Int32) => pFI M20 m 9 13 (x21 + 1) >>= fun (M22 : Mem) => some M22) else (some j13.2)) (PM m t n M r') := fun B P => by
          rw [B.s.c, bs, isW_e B, bs, if_pos rfl, bs, B.s.gi, bs, B.2.1, if_neg B.2.2.1]
          exact ok.pure P
        rcases hl with (⟨z1, B4⟩ | ⟨z1, z2, z3, B4⟩) | ⟨z1, z2, G4⟩
        · dsimp only at B4
          rw [if_neg (fun z => (nn_lt _).mp z z1)]
          exact bad B4 (PM.bad B4 z1)
        · dsimp only at B4
          unfold sV4
          rw [if_pos z1, if_neg z3, if_pos nnF]
          exact bad B4 (PM.bad2 B4 z2 z3)
        · dsimp only at z2 G4
          have wF := m_isW G4 4 (by omega)
          rw [show Int64.ofNat (cW 4) = 6642 from rfl] at wF
          rw [if_pos z1, ← z2, G4.s.c, bs, wF, bs, b2i_ite]
          by_cases c3 : tK t n l.2 = 5 + 4
          · rw [if_pos (decide_eq_true c3), if_pos c3, bs]
            refine ok.seq (P := LR m t n M (lst t n (D 3) (cn D 1) (cn D 1 + 1) 0 (tE t n l.2))) (ok.bind ((GN.adv G4).mono ?_)) ?_
            · intro M5 G5
              rw [G5.s.r15, bs, (hN.nt G5.1).g1, bs, G5.s.c, bs]
              exact ok.pr (m_list G5 hN.1.k15 (by omega) l1 (by omega) hN.v3)
            · obtain ⟨l', el'⟩ : ∃ z : Int32 × Nat, z = lst t n (D 3) (cn D 1) (cn D 1 + 1) 0 (tE t n l.2) := ⟨_, rfl⟩
              rw [← el']
              rintro ⟨a, M6⟩ hl'
              dsimp only
              unfold sV4
              rcases hl' with (⟨y1, B6⟩ | ⟨y1, y2, y3, B6⟩) | ⟨y1, y2, G6⟩
              · dsimp only at B6
                rw [if_neg (fun z => (nn_lt _).mp z y1), B6.s.gi, bs, B6.2.1, if_neg B6.2.2.1]
                exact ok.pure (PM.bad B6 y1)
              · dsimp only at B6
                rw [if_pos y1, B6.s.gi, bs, B6.2.1, if_neg B6.2.2.1]
                exact ok.pure (PM.bad2 B6 y2 y3)
              · dsimp only at y2 G6
                rw [if_pos y1, ← y2]
                exact m_vw hN hg c G6 _ _ _
          · rw [if_neg (fun z => c3 (of_decide_eq_true z)), if_neg c3, bs]
            unfold sV4
            rw [if_pos nnF]
            exact m_vw hN hg c G4 _ _ _
      · have er_ : sV t n D g p = (-11, D, g, tE t n (tE t n p)) := by
          unfold sV sV1 sV2
          rw [if_pos c, if_pos c1, if_neg c2]
        obtain ⟨M3, e3, B3, -⟩ := ck_f (c := -11) G2 (decide_eq_false c2) (by decide)
        rw [e3, bs, B3.s.c, bs, aG_e B3, bs, B3.s.r14, bs, (hN.nt B3.1).g0, bs, B3.s.c, bs]
        refine ok.seq (m_list_e B3) ?_
        rintro ⟨s, M4⟩ e4
        dsimp only at e4 ⊢
        rw [e4, B3.s.c, bs, isW_e B3, bs, if_pos rfl, bs, B3.s.gi, bs, B3.2.1, if_neg B3.2.2.1, er_]
        exact ok.pure (PM.bad B3 (by decide))
    · have er_ : sV t n D g p = (nI_ t n 1 9 (tE t n p), D, g, tE t n p) := by
        unfold sV sV1
        rw [if_pos c, if_neg c1]
      have B2 := a2 c1
      rw [B2.s.c, bs, isW_e B2, bs, bs, ck_e0 B2, bs, B2.s.c, bs, aG_e B2, bs, B2.s.r14, bs, (hN.nt B2.1).g0, bs, B2.s.c, bs]
      refine ok.seq (m_list_e B2) ?_
      rintro ⟨s, M4⟩ e4
      dsimp only at e4 ⊢
      rw [e4, B2.s.c, bs, isW_e B2, bs, if_pos rfl, bs, B2.s.gi, bs, B2.2.1, if_neg B2.2.2.1, er_]
      exact ok.pure (PM.bad B2 (neg_of c1))
  · have er_ : sV t n D g p = (-15, D, g, p) := by
      unfold sV
      rw [if_neg c]
    obtain ⟨M1, e1, B1, -⟩ := ck_f (b := false) (c := -15) h rfl (by decide)
    rw [show b2i false = 0 from rfl] at e1
    rw [if_pos (cnd.mpr (by omega)), bs, h.s.c, bs, e1, bs, B1.s.c, bs, aG_e B1, bs, B1.s.c, bs]
    refine ok.seq (m_int_e B1) ?_
    rintro ⟨w, M2⟩ e2
    dsimp only at e2 ⊢
    rw [e2, B1.s.c, bs, isW_e B1, bs, bs, ck_e0 B1, bs, B1.s.c, bs, aG_e B1, bs, B1.s.r14, bs, (hN.nt B1.1).g0, bs, B1.s.c, bs]
    refine ok.seq (m_list_e B1) ?_
    rintro ⟨s, M4⟩ e4
    dsimp only at e4 ⊢
    rw [e4, B1.s.c, bs, isW_e B1, bs, if_pos rfl, bs, B1.s.gi, bs, B1.2.1, if_neg B1.2.2.1, er_]
    exact ok.pure (PM.bad B1 (by decide))
end
