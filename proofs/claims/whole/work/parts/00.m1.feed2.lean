/-! ===== text fed: the call ===== -/
section
variable {M M' M1 M2 : Mem} {b x m L i : Nat} {xs : Nat → Int32} {S : St} {t : Tx} {bb sb : Nat} {D : Bl}
theorem CQ.txt {lo hi : Nat} (h : CQ M x bb sb D) (hF : Fq lo hi M M') (h1 : x + 1 ≤ lo) (h2 : hi ≤ x + 8) : CQ M' x bb sb D := by
  obtain ⟨a, b, c, ⟨ra, rb, d⟩, ⟨rc, rd, e⟩, f, g, i, j, k, l, n⟩ := h
  have hin := a.in_
  refine ⟨a.e hF.1 (hF.2.2 x (by omega)).2.2, b.fq hF (by omega), c.fq hF (by omega), ⟨ra, rb, d.fq hF (by omega)⟩, ⟨rc, rd, e.fq hF (by omega)⟩, f.fq hF (by omega), g.fq hF (by omega), i.fq hF (by omega), j.fq hF (by omega), ?_, ?_, ?_⟩
  · rw [hF.i (by omega)]
    exact k.imp id (fun z => ⟨z.1, z.2.fq b.n hF (by omega)⟩)
  · rw [hF.i (by omega)]
    exact l.imp id (fun z => ⟨z.1, z.2.fq b.n hF (by omega)⟩)
  · rw [hF.i (by omega), hF.i (by omega)]
    exact n.imp id (fun z => ⟨z.1, z.2.1.fq hF (by omega), z.2.2⟩)
def fd5 (t : Tx) (v1 v2 v3 v4 v5 : Int32) : Tx := app (app (app (app (app t v1) v2) v3) v4) v5
theorem fit {n : Nat} (hn : n ≤ 1200) : (Int32.ofNat n + 20 ≤ 1200) ↔ n + 20 ≤ 1200 := by
  rw [show (20 : Int32) = Int32.ofNat 20 from rfl, i_add, show (1200 : Int32) = Int32.ofNat 1200 from rfl, i_le (by omega) (by omega)]
theorem TX.c {a : Nat} (h : TX M a t) : ck M a 7 = some () := ck_e h.1.1
theorem TX.g1 {a : Nat} (h : TX M a t) : gFI M a 7 1 = some (Int32.ofNat t.1) := by rw [gFI_e h.1.1, h.2.1]
theorem c_feed (h : CQ M x bb sb D) (hX : TX M (x + 1) t) (v1 v2 v3 v4 v5 : Int32) : ok (f_X8_feed M x v1 v2 v3 v4 v5) (fun o => (t.1 + 20 ≤ 1200 → o.1 = Int32.ofNat (t.1 + 20) ∧ Fi (x + 1) (x + 3) M o.2 ∧ CQ o.2 x bb sb D ∧ TX o.2 (x + 1) (fd5 t v1 v2 v3 v4 v5)) ∧ (¬ t.1 + 20 ≤ 1200 → o = (-3, M))) := by
  unfold f_X8_feed
  rw [h.1.r0, bs, hX.g1, bs]
  have tl_ := hX.2.2.1
  by_cases c : t.1 + 20 ≤ 1200
  · rw [if_pos ((fit tl_).mpr c), bs, hX.c, bs]
    refine ok.seq (f_app hX (by omega) v1) ?_
    rintro M1 ⟨F1, X1⟩
    have h1 := h.txt F1.q (by omega) (by omega)
    rw [h1.1.r0, bs, X1.c, bs]
    refine ok.seq (f_app X1 (by show t.1 + 4 + 4 ≤ 1200; omega) v2) ?_
    rintro M2 ⟨F2, X2⟩
    have h2 := h1.txt F2.q (by omega) (by omega)
    rw [h2.1.r0, bs, X2.c, bs]
    refine ok.seq (f_app X2 (by show t.1 + 4 + 4 + 4 ≤ 1200; omega) v3) ?_
    rintro M3 ⟨F3, X3⟩
    have h3 := h2.txt F3.q (by omega) (by omega)
    rw [h3.1.r0, bs, X3.c, bs]
    refine ok.seq (f_app X3 (by show t.1 + 4 + 4 + 4 + 4 ≤ 1200; omega) v4) ?_
    rintro M4 ⟨F4, X4⟩
    have h4 := h3.txt F4.q (by omega) (by omega)
    rw [h4.1.r0, bs, X4.c, bs]
    refine ok.seq (f_app X4 (by show t.1 + 4 + 4 + 4 + 4 + 4 ≤ 1200; omega) v5) ?_
    rintro M5 ⟨F5, X5⟩
    have h5 := h4.txt F5.q (by omega) (by omega)
    rw [h5.1.r0, bs, X5.g1, bs]
    exact ok.pure ⟨fun _ => ⟨rfl, F1.trans (F2.trans (F3.trans (F4.trans F5))), h5, X5⟩, fun z => absurd c z⟩
  · rw [if_neg (fun z => c ((fit tl_).mp z))]
    exact ok.pure ⟨fun z => absurd z c, fun _ => rfl⟩
theorem IsMo.mt (h : IsMo M m) (hF : Mt m M M') : IsMo M' m := h.e hF.1 hF.2.2.1
theorem q_feed (h : IsMo M m) (hX : TM M m t) (hl : t.1 ≤ 1200) (v1 v2 v3 v4 v5 : Int32) : ok (f_X9_feed M m v1 v2 v3 v4 v5) (fun o => (t.1 + 20 ≤ 1200 → o.1 = Int32.ofNat (t.1 + 20) ∧ Mt m (sI M m 4 0) o.2 ∧ TM o.2 m (fd5 t v1 v2 v3 v4 v5)) ∧ (¬ t.1 + 20 ≤ 1200 → o = (-3, sI M m 4 0))) := by
  have h0 : IsMo (sI M m 4 0) m := h.e rfl rfl
  have X0 : TM (sI M m 4 0) m t := ⟨by rw [i_sI, if_neg (by omega)]; exact hX.1, fun j hj => by rw [i_sI, if_neg (by omega)]; exact hX.2 j hj⟩
  unfold f_X9_feed
  rw [h.p, bs, h0.gi, bs, X0.1]
  by_cases c : t.1 + 20 ≤ 1200
  · rw [if_pos ((fit hl).mpr c), h0.c, bs]
    refine ok.seq (q_app h0 X0 (by omega) v1) ?_
    rintro M1 ⟨F1, X1⟩
    have h1 := h0.mt F1
    rw [h1.c, bs]
    refine ok.seq (q_app h1 X1 (by show t.1 + 4 + 4 ≤ 1200; omega) v2) ?_
    rintro M2 ⟨F2, X2⟩
    have h2 := h1.mt F2
    rw [h2.c, bs]
    refine ok.seq (q_app h2 X2 (by show t.1 + 4 + 4 + 4 ≤ 1200; omega) v3) ?_
    rintro M3 ⟨F3, X3⟩
    have h3 := h2.mt F3
    rw [h3.c, bs]
    refine ok.seq (q_app h3 X3 (by show t.1 + 4 + 4 + 4 + 4 ≤ 1200; omega) v4) ?_
    rintro M4 ⟨F4, X4⟩
    have h4 := h3.mt F4
    rw [h4.c, bs]
    refine ok.seq (q_app h4 X4 (by show t.1 + 4 + 4 + 4 + 4 + 4 ≤ 1200; omega) v5) ?_
    rintro M5 ⟨F5, X5⟩
    have h5 := h4.mt F5
    rw [h5.gi, bs, X5.1]
    exact ok.pure ⟨fun _ => ⟨rfl, F1.trans (F2.trans (F3.trans (F4.trans F5))), X5⟩, fun z => absurd c z⟩
  · rw [if_neg (fun z => c ((fit hl).mp z))]
    exact ok.pure ⟨fun z => absurd z c, fun _ => rfl⟩
theorem Mt.fq (h : Mt m M M') : Fq m (m + 19) M M' := ⟨h.1, h.2.2.2.1, fun a ha => ⟨funext fun j => h.2.2.2.2 a j (by omega) (by omega), by rw [h.2.1], by rw [h.2.2.1]⟩⟩
theorem IsM.mt (h : IsM M m D) (hF : Mt m M M') : IsM M' m D := h.up hF.1 hF.2.2.1 (fun j _ => hF.2.2.2.2 _ _ (by omega) (by omega)) (fun j => hF.2.2.2.2 _ _ (by omega) (by omega)) (fun j => hF.2.2.2.2 _ _ (by omega) (by omega)) (fun j => hF.2.2.2.2 _ _ (by omega) (by omega)) (fun j => hF.2.2.2.2 _ _ (by omega) (by omega))
theorem cs_0_ok (h : GI b x L xs M S) (hi : i + 5 < L) {kj : Mem → Option Int32} (hk : ∀ M' S', GI b x L xs M' S' → kj M' = some 1) : cs_0 b x (x + 377) (x + 396) (Int32.ofNat i) kj M = some 1 := by
  obtain ⟨D, t, er, hy⟩ := S
  obtain ⟨a, g, ⟨bb, sb, c, d⟩, e, f⟩ := id h
  have hX : TX M (x + 1) t := d.1
  have hM : TM M (x + 377) t := ⟨f.2.1, f.2.2.1⟩
  unfold cs_0
  rw [show Int32.ofNat i + 1 = Int32.ofNat (i + 1) from i_succ, show Int32.ofNat i + 2 = Int32.ofNat (i + 2) from i_add i 2, show Int32.ofNat i + 3 = Int32.ofNat (i + 3) from i_add i 3, show Int32.ofNat i + 4 = Int32.ofNat (i + 4) from i_add i 4, show Int32.ofNat i + 5 = Int32.ofNat (i + 5) from i_add i 5, sc_at h (k := i + 1) (by omega), bs, sc_at h (k := i + 2) (by omega), bs, sc_at h (k := i + 3) (by omega), bs, sc_at h (k := i + 4) (by omega), bs, sc_at h (k := i + 5) (by omega), bs, c.1.c, bs]
  refine eq_ok (ok.seq (c_feed c hX _ _ _ _ _) ?_)
  rintro ⟨o, M1⟩ ⟨z1, z2⟩
  by_cases fi : t.1 + 20 ≤ 1200
  · obtain ⟨q1, F1, h1, X1⟩ := z1 fi
    dsimp only at q1 F1 h1 X1 ⊢
    have g2 : GI2 b x L xs M1 (D, fd5 t (xs (i + 1)) (xs (i + 2)) (xs (i + 3)) (xs (i + 4)) (xs (i + 5)), er, hy) (D, t, er, hy) := by
      refine ⟨Evr.fq a F1.q (by omega), ⟨g.1, g.2.1, g.2.2.1, app_Tb (app_Tb (app_Tb (app_Tb (app_Tb g.2.2.2.1 _) _) _) _) _, g.2.2.2.2⟩, ⟨bb, sb, h1, X1, by rw [F1.k]; exact d.2.1, HX.fq d.2.2.1 F1.q (by omega), by rw [F1.i (by omega)]; exact d.2.2.2⟩, e.fq F1.q (by omega), f.fq F1.q (by omega)⟩
    rw [sc_at2 g2 (k := i + 1) (by omega), bs, sc_at2 g2 (k := i + 2) (by omega), bs, sc_at2 g2 (k := i + 3) (by omega), bs, sc_at2 g2 (k := i + 4) (by omega), bs, sc_at2 g2 (k := i + 5) (by omega), bs, ck92 g2, bs]
    have f1 := g2.2.2.2.2
    have e1 := g2.2.2.2.1
    refine ok.seq (q_feed e1.s ⟨f1.2.1, f1.2.2.1⟩ hX.2.2.1 _ _ _ _ _) ?_
    rintro ⟨o2, M2⟩ ⟨y1, -⟩
    obtain ⟨r1, F2, X2⟩ := y1 fi
    dsimp only at r1 F2 X2 ⊢
    have F4 : Fi (x + 377) (x + 378) M1 (sI M1 (x + 377) 4 0) := Fi.sI ⟨by omega, by omega⟩
    obtain ⟨a1, g1, ⟨bb, sb, c1, d1⟩, -, -⟩ := g2
    have gI : ∀ y j, y ≠ x + 377 + 10 → ¬ (y = x + 377 ∧ (j = 4 ∨ j = 18)) → mI M2 y j = mI M1 y j := fun y j w1 w2 => by
      rw [F2.2.2.2.2 y j w1 (by omega), i_sI, if_neg (by omega)]
    have G : GI b x L xs M2 (D, fd5 t (xs (i + 1)) (xs (i + 2)) (xs (i + 3)) (xs (i + 4)) (xs (i + 5)), er, hy) := by
      refine ⟨Evr.fq (Evr.fq a1 F4.q (by omega)) F2.fq (by omega), g1, ⟨bb, sb, (c1.out F4.q (by omega)).out F2.fq (by omega), (d1.fq F4.q (by omega)).fq F2.fq (by omega)⟩, (e1.sIo (by omega) 0).mt F2, ?_, X2.1, X2.2, ?_, ?_, fun j hj => ?_⟩
      · rw [gI _ _ (by omega) (by omega)]; exact f1.1
      · rw [gI _ _ (by omega) (by omega)]; exact f1.2.2.2.1
      · rw [gI _ _ (by omega) (by omega)]; exact f1.2.2.2.2.1
      · exact (f1.2.2.2.2.2 j hj).c (fun u => gI _ _ (by omega) (by omega))
    rw [if_pos (q1.trans r1.symm), hk M2 _ G]
    exact ok.pure rfl
  · rw [z2 fi]
    dsimp only
    rw [sc_at h (k := i + 1) (by omega), bs, sc_at h (k := i + 2) (by omega), bs, sc_at h (k := i + 3) (by omega), bs, sc_at h (k := i + 4) (by omega), bs, sc_at h (k := i + 5) (by omega), bs, ck9 h, bs]
    refine ok.seq (q_feed e.s hM hX.2.2.1 _ _ _ _ _) ?_
    rintro ⟨o2, M2⟩ ⟨-, y2⟩
    rw [y2 fi]
    dsimp only
    rw [if_pos rfl, hk _ _ (GI.mo h (y := 0) Mq.rf)]
    exact ok.pure rfl
end
