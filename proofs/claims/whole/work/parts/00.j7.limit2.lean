/-! ===== the same, the reference ===== -/
section
variable {M M' A B : Mem} {m : Nat} {D : Bl} {p : Nat}
theorem Mq.back {c : Nat} {y z : Int32} (h : Mg m (sI A (m + 1) c y) B) : Mq m (sI A (m + 1) c z) (sI B (m + 1) c z) := by
  refine ⟨h.1, h.2.2.1, h.2.2.2.1, fun a _ => congrFun h.2.1 a, fun a z1 z2 => ?_, fun j z1 z2 z3 z4 => ?_⟩
  · funext j
    rw [i_sI, i_sI]
    by_cases w : a = m + 1 ∧ j = c
    · rw [if_pos w, if_pos w]
    · rw [if_neg w, if_neg w, h.row z1 (by omega), i_sI, if_neg w]
  · rw [i_sI, if_neg (by omega), i_sI, if_neg (by omega), h.fld ⟨z1, z2, z3, z4⟩, i_sI, if_neg (by omega)]
theorem sI_sI (A : Mem) (a j : Nat) (y z : Int32) : sI (sI A a j y) a j z = sI A a j z := by
  rw [sI_W, sI_W, sI_W, sW_W]
  show sW A (up2 (up2 (mI A) a j y) a j z) = _
  rw [up2_up2]
theorem q_fat {y0 : Int32} {c : Nat} (h : IsM A m (up D 4 p y0)) (hG : Gd D) (hT : Tl D) (hp : p < cn D 1) (h1 : 1 ≤ c) (h2 : c ≤ 100000) : ok (f_X9_isFundedAt A m (Int32.ofNat p) (Int32.ofNat c)) (fun o => o.1 = b2i (hs (gh (grd (up D 4 p (Int32.ofNat c)))) (Int32.ofNat p)) ∧ IsM o.2 m (up D 4 p (Int32.ofNat c)) ∧ ∀ z, Mq m (sI A (m + 1) (8 + p) z) (sI o.2 (m + 1) (8 + p) z)) := by
  have l1 := hG.n.2.2.1
  have hi : p < bsz (up D 4 p y0) 4 := by
    show p < cn (up D 4 p y0) 1
    rw [cn_up (by omega)]; exact hp
  have h3 := isM_cell h (k := 4) (off := 8) (i := p) (by omega) hi (Int32.ofNat c)
  rw [up_up] at h3
  unfold f_X9_isFundedAt
  rw [h.s.r0, bs, ad8, h.s.w0 (by omega), bs, h3.s.c, bs]
  obtain ⟨M2, e2, F2, R2⟩ := m_run1 h3 (gd_up4 hG hT h1 h2) (Tl_up4 hT p _)
  have key : ∀ K : Mem → Option (Int32 × Mem), (f_X9_clearResult (sI A (m + 1) (8 + p) (Int32.ofNat c)) m >>= fun (o3 : Mem) => ck o3 m 9 >>= fun _ => f_X9_greedily o3 m >>= fun (o4 : Mem) => K o4) = ((f_X9_clearResult (sI A (m + 1) (8 + p) (Int32.ofNat c)) m >>= fun (o3 : Mem) => ck o3 m 9 >>= fun _ => f_X9_greedily o3 m) >>= fun (o4 : Mem) => K o4) := fun K => by
    cases f_X9_clearResult (sI A (m + 1) (8 + p) (Int32.ofNat c)) m with
    | none => rfl
    | some o3 =>
      rw [bs, bs]
      cases ck o3 m 9 with
      | none => rfl
      | some u => rfl
  rw [key, e2, bs]
  have h4 := h3.mf F2
  have e30 : mI M2 m 30 = gh (grd (up D 4 p (Int32.ofNat c))) := R2.2.2.2.2.trans Int32.zero_or
  rw [h4.s.gi, bs, e30, f_has9, bs, isBb, bs]
  exact ok.pure ⟨rfl, h4, fun z => Mq.back F2.g⟩
theorem q_greedyLimit (h0 : IsM M m D) (hG : Gd D) (hT : Tl D) (a : Int32) : ok (f_X9_greedyLimit M m a) (ThrM m M (inx a (cn D 1)) (glm D (ix a))) := by
  have lm := h0.n.2.2.1
  unfold f_X9_greedyLimit
  simp only [h0.s.c, bs, m_isP h0, m_fails h0.s, b2i_ite]
  by_cases c : inx a (cn D 1)
  · obtain ⟨k, hk, rfl⟩ := ix_of (by omega) c
    have h : IsM (sI M m 4 0) m D := h0.sIo (by omega) _
    rw [fYb c, if_neg (fY c), h.s.r0, bs, h.d4 hk, bs]
    have old : mI (sI M m 4 0) (m + 1) (8 + k) = D 4 k := by
      have := h.d4 hk
      rw [ad8, h.s.a0 (by omega)] at this
      exact Option.some.inj this
    generalize hM0 : sI M m 4 0 = M0 at h old ⊢
    have self : sI M0 (m + 1) (8 + k) (D 4 k) = M0 := by
      rw [sI_W]
      have : up2 (mI M0) (m + 1) (8 + k) (D 4 k) = mI M0 := by
        funext a b
        unfold up2
        by_cases w : a = m + 1 ∧ b = 8 + k
        · rw [if_pos w, w.1, w.2, old]
        · rw [if_neg w]
      rw [this]; rfl
    refine ok.itF (fun u : Int32 × Int32 × Mem => ∃ l r, u.1 = Int32.ofNat l ∧ u.2.1 = Int32.ofNat r ∧ l ≤ r ∧ r ≤ 100000 ∧ (l ≠ 0 → GF D k l) ∧ (∀ c, r < c → c ≤ 100000 → ¬ GF D k c) ∧ (∃ y0, IsM u.2.2 m (up D 4 k y0)) ∧ Mq m M0 (sI u.2.2 (m + 1) (8 + k) (D 4 k))) (fun u => ix u.2.1 - ix u.1) ⟨0, 100000, rfl, rfl, by omega, by omega, fun z => absurd rfl z, fun c z1 z2 => by omega, ⟨D 4 k, by rw [up_id]; exact h⟩, by rw [self]; exact Mq.rf⟩ (by
      show ix (Int32.ofNat 100000) - ix (Int32.ofNat 0) < 1000000
      rw [ix_o (by omega), ix_o (by omega)]
      omega) ?_
    rintro rec ⟨_, _, M1⟩ ⟨l, r, rfl, rfl, hlr, hr, g1, g2, ⟨y0, h1⟩, F1⟩ hrec
    dsimp only at h1 F1
    unfold bd_X9_greedyLimit_30
    dsimp only
    by_cases c1 : r ≤ l
    · rw [if_pos ((i_le (by omega) (by omega)).mpr c1), h1.s.r0, bs, ad8, h1.s.w0 (by omega), bs]
      have gr : Gr D k l := ⟨by omega, g1, fun c z1 z2 => g2 c (by omega) z2⟩
      rw [is_, bs]
      refine ok.pure ⟨fun _ => ⟨?_, ?_⟩, fun z => absurd c z⟩
      · rw [ix_o (by omega), glm_eq gr]
      · rw [hM0]; exact F1
    · rw [if_neg (fun z => c1 ((i_le (by omega) (by omega)).mp z))]
      have mid : Int32.ofNat l + Int32.ofNat r + 1 = Int32.ofNat (l + r + 1) := by rw [i_add, i_succ]
      have dv : dv_ (Int32.ofNat l + Int32.ofNat r + 1) 2 = some (Int32.ofNat ((l + r + 1) / 2)) := by
        unfold dv_
        rw [if_neg (by decide), mid, show (2 : Int32) = Int32.ofNat 2 from rfl, i_div (by omega) (by omega) (by omega)]
      have d1 : l < (l + r + 1) / 2 := by omega
      have d2 : (l + r + 1) / 2 ≤ r := by omega
      generalize (l + r + 1) / 2 = e at *
      rw [dv, bs, h1.s.c, bs]
      refine ok.seq (q_fat h1 hG hT hk (by omega) (by omega)) ?_
      rintro ⟨o, M2⟩ ⟨q1, h2, F2⟩
      dsimp only at q1 h2 F2 ⊢
      rw [q1, b2i_ite]
      by_cases c2 : GF D k e
      · rw [if_pos (show hs (gh (grd (up D 4 k (Int32.ofNat e)))) (Int32.ofNat k) = true from c2), bs]
        refine hrec _ ⟨e, r, rfl, rfl, d2, hr, fun _ => c2, g2, ⟨_, h2⟩, F1.trans (F2 _)⟩ ?_
        dsimp only
        rw [ix_o (by omega), ix_o (by omega), ix_o (by omega)]
        omega
      · have sub1 : Int32.ofNat e - 1 = Int32.ofNat (e - 1) := by
          rw [show (1 : Int32) = Int32.ofNat 1 from rfl, i_sub (by omega)]
        rw [if_neg (show ¬ hs (gh (grd (up D 4 k (Int32.ofNat e)))) (Int32.ofNat k) = true from c2), ltq, bs, sub1]
        refine hrec _ ⟨l, e - 1, rfl, rfl, by omega, by omega, g1, fun c z1 z2 z3 => c2 (GF_mono hG hT hk (by omega) (by omega) z2 z3), ⟨_, h2⟩, F1.trans (F2 _)⟩ ?_
        dsimp only
        rw [ix_o (by omega), ix_o (by omega), ix_o (by omega)]
        omega
  · rw [fNb c, if_pos (fN c)]
    exact ok.pure ⟨fun z => absurd z c, fun _ => rfl⟩
end
