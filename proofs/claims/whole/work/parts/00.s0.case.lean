/-! ===== load: the call ===== -/
section
variable {M M' M1 M2 : Mem} {b x m L i : Nat} {xs : Nat → Int32} {S : St} {t : Tx} {bb sb : Nat} {D : Bl}
theorem cs_1_ok (h : GI b x L xs M S) (hi : i + 5 < L) {kj : Mem → Option Int32} (hk : ∀ M' S', GI b x L xs M' S' → kj M' = some 1) : cs_1 b x (x + 377) (x + 396) (Int32.ofNat i) kj M = some 1 := by
  obtain ⟨D, tx, er_, hy⟩ := S
  obtain ⟨a, g, ⟨bb, sb, c, d⟩, e, f⟩ := id h
  have hX : TX M (x + 1) tx := d.1
  obtain ⟨f37, f18, fB, f26, f3, fD⟩ := f
  dsimp only at f37 f18 fB f26 f3 fD
  unfold cs_1
  rw [show Int32.ofNat i + 1 = Int32.ofNat (i + 1) from i_succ, sc_at h (k := i + 1) (by omega), bs, c.1.c, bs]
  by_cases ha : 0 ≤ xs (i + 1) ∧ xs (i + 1) ≤ Int32.ofNat tx.1
  · refine eq_ok (ok.seq (c_load c d a.2.2.1 ha) ?_)
    rintro ⟨o, M1⟩ ⟨q1, F1, qq⟩
    dsimp only at q1 F1 qq ⊢
    have a1 : Evr b x L xs M1 := Evr.fq a F1 (Nat.le_refl _)
    have e1 : IsM M1 (x + 377) D := e.fq F1 (by omega)
    have sc : aI M1 b (Int32.ofNat (i + 1)) = some (xs (i + 1)) := by
      have h1 := a1.1
      rw [aI_e h1.1 (Or.inr rfl) (show i + 1 < L by omega) (by omega), a1.2.1 (i + 1) (by omega)]
    have i1 : ∀ y j, x + 377 ≤ y → mI M1 y j = mI M y j := fun y j z => F1.i (by omega) j
    rw [sc, bs, e1.s.c, bs]
    refine ok.seq (m_load (E := D) (tx := tx) e1.s (by rw [i1 _ _ (by omega)]; exact f18) hX.2.2.1 (fun j hj => by rw [i1 _ _ (by omega)]; exact fB j hj) g.2.2.2.1 ha) ?_
    rintro ⟨o2, M2⟩ ⟨r1, r18, r37, rr⟩
    dsimp only at r1 r18 r37 rr ⊢
    rw [i1 _ _ (by omega), f37] at r37
    rcases qq with ⟨l0, C1, T1⟩ | ⟨l0, C1, T1⟩
    · rcases rr with ⟨-, Fe, v26⟩ | ⟨w0, -⟩
      · have F2 := Fe.fq
        have G : GI b x L xs M2 (D, (0, tx.2), Int32.ofNat (tS tx.2 (nt (xs (i + 1))) (ldR tx (xs (i + 1))).2.2), hy) := by
          refine ⟨Evr.fq a1 F2 (by omega), ⟨g.1, g.2.1, g.2.2.1, fun j hj => absurd hj (Nat.not_lt_zero j), g.2.2.2.2⟩, ⟨bb, sb, C1.out F2 (by omega), T1.fq F2 (by omega)⟩, e1.ne Fe, r37, r18, fun j hj => absurd hj (Nat.not_lt_zero j), v26, ?_, fun j hj => ?_⟩
          · rw [Fe.2.2.2.2 _ _ (by omega) (by omega) (by omega) (by omega) (by omega), i1 _ _ (by omega)]; exact f3
          · exact (fD j hj).c (fun u => by rw [Fe.2.2.2.2 _ _ (by omega) (by omega) (by omega) (by omega) (by omega), i1 _ _ (by omega)])
        rw [if_pos (q1.trans r1.symm), hk M2 _ G]
        exact ok.pure rfl
      · exact absurd l0 ((nn_lt _).mp w0)
    · rcases rr with ⟨w0, -⟩ | ⟨-, F2, v26, v3, N2⟩
      · exact absurd w0 ((nn_lt _).mp l0)
      · have hGa := Ga_rd (t := tx.2) (n := nt (xs (i + 1))) 1201 D0 0 0 0 Ga_D0 l0
        have G : GI b x L xs M2 (tl (ldR tx (xs (i + 1))).2.1, (0, tx.2), -1, hy0 (tl (ldR tx (xs (i + 1))).2.1)) := by
          refine ⟨Evr.fq a1 F2 (by omega), ⟨hGa.1, Tl_tl _, ⟨Nat.zero_le _, rfl, fun j hj => absurd hj (Nat.not_lt_zero j)⟩, fun j hj => absurd hj (Nat.not_lt_zero j), fun j hj v hv => hGa.2 v hv⟩, ⟨sb, bb, C1.out F2 (by omega), T1.fq F2 (by omega)⟩, N2, r37, r18, fun j hj => absurd hj (Nat.not_lt_zero j), v26, v3, fun j hj => absurd hj (Nat.not_lt_zero j)⟩
        rw [if_pos (q1.trans r1.symm), hk M2 _ G]
        exact ok.pure rfl
  · rw [c_load_bad c.1 hX ha, bs]
    dsimp only
    rw [sc_at h (k := i + 1) (by omega), bs, e.s.c, bs, m_load_bad (tx := tx) e.s f18 ha, bs]
    dsimp only
    rw [if_pos rfl]
    exact hk _ _ (GI.mo h (y := 0) Mq.rf)
/-- the law's term is true from every start -/
theorem law_true (hL : L ≤ 3072) (h : Start M b L xs) : f_law M b = some 1 := by
  obtain ⟨N, M', S, hG, e⟩ := law_init hL h
  rw [e]
  exact law_loop (fun M i S h hi kj hk => cs_1_ok h hi hk) hG
end
