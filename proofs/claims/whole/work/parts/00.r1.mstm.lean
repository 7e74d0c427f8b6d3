/-! ===== the reference reads statements ===== -/
section
variable {M M' M0 M1 M2 : Mem} {t : Nat → Int32} {n p q m hi : Nat} {D : Bl} {c g : Int32} {r : Rs} {f : Nat → Int32}
theorem bsz_le (h : Cn D) {k : Nat} (h1 : 1 ≤ k) (h2 : k < 10) : bsz D k ≤ bln k := by
  have n0 := h.2.1
  have n1 := h.2.2.1
  have n2 := h.2.2.2
  unfold bsz
  rcases (show k = 1 ∨ k = 2 ∨ k = 3 ∨ k = 4 ∨ k = 5 ∨ k = 6 ∨ k = 7 ∨ k = 8 ∨ k = 9 by omega) with e | e | e | e | e | e | e | e | e <;> subst e <;> simp [bln] <;> omega
theorem IsN.ps {e : Nat} (h : IsN M m D) (hl : Rm D e) (hk : mK M' = mK M) (hr : mR M' = mR M) (h0 : mI M' m (11 + e) = Int32.ofNat (cn D e + 1)) (h1 : ∀ j, j < 3 → j ≠ e → mI M' m (11 + j) = mI M m (11 + j)) (h2 : ∀ k, 1 ≤ k → k < 10 → gk k = e → mI M' (m + lA k) (lO k + cn D e) = f k) (h3 : ∀ k i, 1 ≤ k → k < 10 → i < bln k → (gk k ≠ e ∨ i ≠ cn D e) → mI M' (m + lA k) (lO k + i) = mI M (m + lA k) (lO k + i)) : IsN M' m (ps D e f) := by
  have l := hl.l
  have hn := h.2.2.1
  refine ⟨h.1.e hk hr, fun j hj => ?_, Cn_ps hn hl, fun k z1 z2 i hi => ?_⟩
  · by_cases y : j = e
    · rw [y, h0, ps_0c]
    · rw [h1 j hj y, ps_0n y]; exact h.2.1 j hj
  · by_cases y : gk k = e ∧ i = cn D e
    · rw [y.2, h2 k z1 z2 y.1, ps_k z1 y.1]
    · have e2 : gk k ≠ e ∨ i ≠ cn D e := by
        by_cases y2 : gk k = e
        · exact Or.inr (fun w => y ⟨y2, w⟩)
        · exact Or.inl y2
      have hi2 : i < bsz D k := by
        rw [bsz_g z1 z2] at hi ⊢
        by_cases y2 : k = 9
        · rw [if_pos y2] at hi ⊢; exact hi
        · rw [if_neg y2] at hi ⊢
          rw [cn_ps l.1] at hi
          by_cases w : gk k = e
          · rw [if_pos w] at hi
            rw [w]
            have : i ≠ cn D e := fun v => y ⟨w, v⟩
            omega
          · rw [if_neg w] at hi; exact hi
      have := bsz_le hn z1 z2
      rw [h3 k i z1 z2 (by omega) e2, ps_n z1 e2]
      exact h.2.2.2 k z1 z2 i hi2
/-- what the reading of a text writes -/
def Nw (m : Nat) (M M' : Mem) : Prop := mK M' = mK M ∧ mR M' = mR M ∧ mN M' = mN M ∧ (∀ a j, ¬ (a = m ∧ j = 23) → mL M' a j = mL M a j) ∧ ∀ a j, a ≠ m + 2 → a ≠ m + 7 → a ≠ m + 8 → a ≠ m + 9 → ¬ (a = m ∧ ((11 ≤ j ∧ j ≤ 13) ∨ (20 ≤ j ∧ j ≤ 28))) → mI M' a j = mI M a j
theorem Nw.rf : Nw m M M := ⟨rfl, rfl, rfl, fun _ _ _ => rfl, fun _ _ _ _ _ _ _ => rfl⟩
theorem Nw.trans (h1 : Nw m M M1) (h2 : Nw m M1 M2) : Nw m M M2 := ⟨h2.1.trans h1.1, h2.2.1.trans h1.2.1, h2.2.2.1.trans h1.2.2.1, fun a j z => (h2.2.2.2.1 a j z).trans (h1.2.2.2.1 a j z), fun a j z1 z2 z3 z4 z5 => (h2.2.2.2.2 a j z1 z2 z3 z4 z5).trans (h1.2.2.2.2 a j z1 z2 z3 z4 z5)⟩
theorem Nt.nw (h : Nt m 27 M M') : Nw m M M' := ⟨h.1, h.2.1, h.2.2.1, h.2.2.2.1, fun a j _ _ _ _ z5 => h.i (by omega)⟩
theorem Nw.sI {a j : Nat} {x : Int32} (h : a = m + 2 ∨ a = m + 7 ∨ a = m + 8 ∨ a = m + 9 ∨ (a = m ∧ ((11 ≤ j ∧ j ≤ 13) ∨ (20 ≤ j ∧ j ≤ 28)))) : Nw m M (sI M a j x) := ⟨rfl, rfl, rfl, fun _ _ _ => rfl, fun b k z1 z2 z3 z4 z5 => by
  rw [i_sI, if_neg]
  rintro ⟨rfl, rfl⟩
  rcases h with h | h | h | h | h
  · exact z1 h
  · exact z2 h
  · exact z3 h
  · exact z4 h
  · exact z5 h⟩
def PM (m : Nat) (t : Nat → Int32) (n : Nat) (M0 : Mem) (r : Rs) (M' : Mem) : Prop := Nw m M0 M' ∧ mI M' m 28 = mI M0 m 28 ∧ ((0 ≤ r.1 ∧ mI M' m 25 = 0 ∧ mI M' m 26 = -1 ∧ IsN M' m r.2.1 ∧ mI M' m 27 = r.2.2.1 ∧ NC M' m t n r.2.2.2) ∨ (mI M' m 25 ≠ 0 ∧ mI M' m 26 = Int32.ofNat (tS t n r.2.2.2) ∧ IsMo M' m ∧ ((r.1 < 0 ∧ mI M' m 25 = r.1) ∨ (0 ≤ r.1 ∧ tC t n r.2.2.2 = 1 ∧ tK t n r.2.2.2 ≠ 9 ∧ mI M' m 25 = -11))))
theorem neg_of {x : Int32} (h : ¬ 0 ≤ x) : x < 0 := Classical.not_not.mp (fun z => h ((nn_lt _).mpr z))
theorem PM.bad (h : BN m t n M c q M') (hc : c < 0) : PM m t n M (c, D, g, q) M' := ⟨h.1.nw, h.1.i (by omega), Or.inr ⟨by rw [h.2.1]; exact h.2.2.1, h.2.2.2.1, h.s, Or.inl ⟨hc, h.2.1⟩⟩⟩
theorem GN.adv (h : GN m t n M0 q M) : ok (f_X9_advance M m) (fun M' => GN m t n M0 (tE t n q) M') := by
  refine (m_adv h.2.2.2.o).mono ?_
  rintro M' ⟨F, C⟩
  exact ⟨h.1.trans (F.wide (by omega)), by rw [F.i (by omega)]; exact h.2.1, by rw [F.i (by omega)]; exact h.2.2.1, C⟩
theorem NC.sIo {a j : Nat} {x : Int32} (h : NC M m t n q) (z : (a ≠ m ∧ a ≠ m + 10) ∨ (a = m ∧ (j < 19 ∨ 25 ≤ j))) : NC (sI M a j x) m t n q := by
  obtain ⟨⟨b1, b2, b3, b4⟩, c1, c2, c3, c4, c5, c6⟩ := h
  exact ⟨⟨b1.e rfl rfl, by rw [i_sI, if_neg (by omega)]; exact b2, b3, fun j hj => by rw [i_sI, if_neg (by omega)]; exact b4 j hj⟩, by rw [i_sI, if_neg (by omega)]; exact c1, by rw [i_sI, if_neg (by omega)]; exact c2, by rw [i_sI, if_neg (by omega)]; exact c3, c4, by rw [i_sI, if_neg (by omega)]; exact c5, c6⟩
theorem LA_inj {k k' i i' : Nat} (h1 : 1 ≤ k) (h2 : k < 10) (h3 : 1 ≤ k') (h4 : k' < 10) (hi : i < bln k) (hi' : i' < bln k') (h : lA k = lA k') (h' : lO k + i = lO k' + i') : k = k' ∧ i = i' := by
  rcases (show k = 1 ∨ k = 2 ∨ k = 3 ∨ k = 4 ∨ k = 5 ∨ k = 6 ∨ k = 7 ∨ k = 8 ∨ k = 9 by omega) with e | e | e | e | e | e | e | e | e <;> rcases (show k' = 1 ∨ k' = 2 ∨ k' = 3 ∨ k' = 4 ∨ k' = 5 ∨ k' = 6 ∨ k' = 7 ∨ k' = 8 ∨ k' = 9 by omega) with e' | e' | e' | e' | e' | e' | e' | e' | e' <;> subst e <;> subst e' <;> simp [lA, lO, bln] at * <;> omega
theorem m_sD (h : GN m t n M p M) (hN : IsN M m D) (hg : mI M m 27 = g) : ok (f_X9_parseDistrict M m) (PM m t n M (sD t n D g p)) := by
  have l0 := hN.2.2.1.2.1
  have cnd : (4 : Int32) ≤ Int32.ofNat (cn D 0) ↔ 4 ≤ cn D 0 := i_le (a := 4) (by omega) (by omega)
  unfold f_X9_parseDistrict
  rw [hN.g0, bs]
  by_cases c : cn D 0 < 4
  · rw [if_neg (fun z => by have := cnd.mp z; omega), bs, h.s.c, bs, ck_1, bs, h.s.c, bs]
    refine ok.seq (aG_g h) ?_
    intro M1 G1
    rw [G1.s.c, bs]
    refine ok.seq (m_name G1 hN) ?_
    rintro ⟨w, M2⟩ ⟨a1, a2⟩
    dsimp only at a1 a2 ⊢
    by_cases c1 : 0 ≤ nN t n D (tE t n p)
    · obtain ⟨rfl, G2⟩ := a1 c1
      rw [G2.s.c, bs]
      refine ok.seq (m_int (lo := 0) (hi := 100000) (by omega) (by omega) G2) ?_
      rintro ⟨v, M3⟩ ⟨b1, b2⟩
      dsimp only at b1 b2 ⊢
      by_cases c2 : 0 ≤ nI_ t n 0 100000 (tE t n (tE t n p))
      · obtain ⟨rfl, G3⟩ := b1 c2
        have er_ : sD t n D g p = (0, dD D (nN t n D (tE t n p)) (nI_ t n 0 100000 (tE t n (tE t n p))), g, tE t n (tE t n (tE t n p))) := by
          unfold sD sD1 sD2
          rw [if_pos c, if_pos c1, if_pos c2]
        rw [er_]
        have N3 := hN.nt G3.1
        have s3 := G3.s
        obtain ⟨w, ew⟩ : ∃ w, w = nN t n D (tE t n p) := ⟨_, rfl⟩
        obtain ⟨v, ev⟩ : ∃ v, v = nI_ t n 0 100000 (tE t n (tE t n p)) := ⟨_, rfl⟩
        rw [← ew, ← ev]
        obtain ⟨M4, q4⟩ : ∃ z, z = sI M3 (m + 7) (cn D 0) w := ⟨_, rfl⟩
        have s4 : IsMo M4 m := by rw [q4]; exact s3.e rfl rfl
        obtain ⟨M5, q5⟩ : ∃ z, z = sI M4 (m + 2) (4 + cn D 0) v := ⟨_, rfl⟩
        have s5 : IsMo M5 m := by rw [q5]; exact s4.e rfl rfl
        have e11 : mI M5 m 11 = Int32.ofNat (cn D 0) := by
          rw [q5, i_sI, if_neg (by omega), q4, i_sI, if_neg (by omega), N3.2.1 0 (by omega), N3.2.2.1.1 0 (by omega)]
        rw [s3.gi, bs, G3.2.1, if_pos rfl, s3.r14, bs, s3.w14 c, bs, ← q4, s4.r1, bs, ad4, s4.w1 (by omega), bs, ← q5, s5.gi, bs, e11, i_succ, s5.p, bs]
        obtain ⟨M6, q6⟩ : ∃ z, z = sI M5 m 11 (Int32.ofNat (cn D 0 + 1)) := ⟨_, rfl⟩
        rw [← q6]
        have old : ∀ a j, ¬ (a = m + 7 ∧ j = cn D 0) → ¬ (a = m + 2 ∧ j = 4 + cn D 0) → ¬ (a = m ∧ j = 11) → mI M6 a j = mI M3 a j := fun a j z1 z2 z3 => by
          rw [q6, i_sI, if_neg z3, q5, i_sI, if_neg z2, q4, i_sI, if_neg z1]
        refine ok.pure ⟨G3.1.nw.trans ?_, ?_, Or.inl ⟨nnF, ?_, ?_, ?_, ?_, ?_⟩⟩
        · rw [q6, q5, q4]
          exact (Nw.sI (by omega)).trans ((Nw.sI (by omega)).trans (Nw.sI (by omega)))
        · rw [old _ _ (by omega) (by omega) (by omega)]; exact G3.1.i (by omega)
        · rw [old _ _ (by omega) (by omega) (by omega)]; exact G3.2.1
        · rw [old _ _ (by omega) (by omega) (by omega)]; exact G3.2.2.1
        · refine N3.ps (Or.inl ⟨rfl, c⟩) (by rw [q6, q5, q4]; rfl) (by rw [q6, q5, q4]; rfl) ?_ (fun j hj1 hj2 => ?_) (fun k z1 z2 z3 => ?_) (fun k i z1 z2 z3 z4 => ?_)
          · rw [q6, i_sI, if_pos ⟨rfl, rfl⟩]
          · exact old _ _ (by omega) (by omega) (by omega)
          · rcases (show k = 1 ∨ k = 2 ∨ k = 3 ∨ k = 4 ∨ k = 5 ∨ k = 6 ∨ k = 7 ∨ k = 8 ∨ k = 9 by omega) with e | e | e | e | e | e | e | e | e <;> subst e
            · rw [show lO 1 + cn D 0 = cn D 0 from Nat.zero_add _, show m + lA 1 = m + 7 from rfl, q6, i_sI, if_neg (by omega), q5, i_sI, if_neg (by omega), q4, i_sI, if_pos ⟨rfl, rfl⟩]; rfl
            · rw [show lO 2 + cn D 0 = 4 + cn D 0 from rfl, show m + lA 2 = m + 2 from rfl, q6, i_sI, if_neg (by omega), q5, i_sI, if_pos ⟨rfl, rfl⟩]; rfl
            all_goals exact absurd z3 (by decide)
          · have lr := lA_r k z2 z1
            have n1 : ¬ (m + lA k = m + 7 ∧ lO k + i = cn D 0) := fun z => by
              have := LA_inj (k' := 1) (i' := cn D 0) z1 z2 (by omega) (by omega) z3 (show cn D 0 < 4 from c) (show lA k = 7 by omega) (show lO k + i = 0 + cn D 0 by omega)
              rcases z4 with y | y
              · exact y (by rw [this.1]; rfl)
              · exact y this.2
            have n2 : ¬ (m + lA k = m + 2 ∧ lO k + i = 4 + cn D 0) := fun z => by
              have := LA_inj (k' := 2) (i' := cn D 0) z1 z2 (by omega) (by omega) z3 (show cn D 0 < 4 from c) (show lA k = 2 by omega) (show lO k + i = 4 + cn D 0 by omega)
              rcases z4 with y | y
              · exact y (by rw [this.1]; rfl)
              · exact y this.2
            exact old _ _ n1 n2 (by omega)
        · rw [old _ _ (by omega) (by omega) (by omega), G3.1.i (by omega)]; exact hg
        · rw [q6, q5, q4]
          exact ((G3.2.2.2.sIo (by omega)).sIo (by omega)).sIo (by omega)
      · have er_ : sD t n D g p = (nI_ t n 0 100000 (tE t n (tE t n p)), D, g, tE t n (tE t n p)) := by
          unfold sD sD1 sD2
          rw [if_pos c, if_pos c1, if_neg c2]
        have B3 := b2 c2
        rw [B3.s.gi, bs, B3.2.1, if_neg B3.2.2.1, er_]
        exact ok.pure (PM.bad B3 (neg_of c2))
    · have er_ : sD t n D g p = (nN t n D (tE t n p), D, g, tE t n p) := by
        unfold sD sD1
        rw [if_pos c, if_neg c1]
      have B2 := a2 c1
      rw [B2.s.c, bs]
      refine ok.seq (m_int_e B2) ?_
      rintro ⟨v, M3⟩ e3
      dsimp only at e3 ⊢
      rw [e3, B2.s.gi, bs, B2.2.1, if_neg B2.2.2.1, er_]
      exact ok.pure (PM.bad B2 (neg_of c1))
  · have er_ : sD t n D g p = (-15, D, g, p) := by
      unfold sD
      rw [if_neg c]
    obtain ⟨M1, e1, B1, -⟩ := ck_f (b := false) (c := -15) h rfl (by decide)
    rw [show b2i false = 0 from rfl] at e1
    rw [if_pos (cnd.mpr (by omega)), bs, h.s.c, bs, e1, bs, B1.s.c, bs, aG_e B1, bs, B1.s.c, bs]
    refine ok.seq (m_name_e B1 hN) ?_
    rintro ⟨w, M2⟩ e2
    dsimp only at e2 ⊢
    rw [e2, B1.s.c, bs]
    refine ok.seq (m_int_e B1) ?_
    rintro ⟨v, M3⟩ e3
    dsimp only at e3 ⊢
    rw [e3, B1.s.gi, bs, B1.2.1, if_neg B1.2.2.1, er_]
    exact ok.pure (PM.bad B1 (by decide))
end
