/-! ===== changes: the class ===== -/
section
variable {M M' M1 M2 : Mem} {a b x m bb sb : Nat} {D D' D1 : Bl} {hy : Hy}
/-- what a change leaves alone -/
def Ch (x : Nat) (M M' : Mem) : Prop := mK M' = mK M ∧ mN M' = mN M ∧ (∀ a, a ≠ x → (a < x + 4 ∨ x + 377 ≤ a) → mI M' a = mI M a ∧ mL M' a = mL M a ∧ mR M' a = mR M a) ∧ mR M' x = mR M x ∧ ∀ j, j < 11 ∨ 15 ≤ j → mI M' x j = mI M x j
theorem Ch.rf : Ch x M M := ⟨rfl, rfl, fun _ _ _ => ⟨rfl, rfl, rfl⟩, rfl, fun _ _ => rfl⟩
theorem Ch.trans (h1 : Ch x M M1) (h2 : Ch x M1 M2) : Ch x M M2 := ⟨h2.1.trans h1.1, h2.2.1.trans h1.2.1, fun a q1 q2 => ⟨(h2.2.2.1 a q1 q2).1.trans (h1.2.2.1 a q1 q2).1, (h2.2.2.1 a q1 q2).2.1.trans (h1.2.2.1 a q1 q2).2.1, (h2.2.2.1 a q1 q2).2.2.trans (h1.2.2.1 a q1 q2).2.2⟩, h2.2.2.2.1.trans h1.2.2.2.1, fun j hj => (h2.2.2.2.2 j hj).trans (h1.2.2.2.2 j hj)⟩
theorem Ch.of {lo hi : Nat} (h : Fq lo hi M M') (h1 : x + 4 ≤ lo) (h2 : hi ≤ x + 377) : Ch x M M' := ⟨h.1, h.2.1, fun a _ q2 => h.2.2 a (by omega), (h.2.2 x (by omega)).2.2, fun j _ => h.i (by omega) j⟩
theorem Cq.ch (h : Cq x M M') : Ch x M M' := ⟨h.1, h.2.1, fun a q1 q2 => h.2.2.1 a q1 (by omega), h.2.2.2⟩
theorem Ch.fq (h : Ch x M M') : Fq x (x + 377) M M' := ⟨h.1, h.2.1, fun a ha => h.2.2.1 a (by omega) (by omega)⟩
/-- what doesn't hang on the ballot -/
def CQ0 (M : Mem) (x bb sb : Nat) : Prop := IsX M x bb sb ∧ IsBs M sb ∧ (∃ ra rb, IsEq M (x + 8) ra rb) ∧ (∃ ra rb, IsEq M (x + 162) ra rb) ∧ IsGr M (x + 316) ∧ IsGr M (x + 332) ∧ IsOp M (x + 348) ∧ Op0 M (x + 348)
theorem CQ.c0 (h : CQ M x bb sb D) : CQ0 M x bb sb := by
  obtain ⟨a, b, c, d, e, f, g, i, j, -⟩ := h
  exact ⟨a, c, d, e, f, g, i, j⟩
theorem CQ0.fq {lo hi : Nat} (h : CQ0 M x bb sb) (hF : Fq lo hi M M') (hl : (lo = bb ∧ hi = bb + 12) ∨ (lo = x + 1 ∧ hi = x + 8) ∨ (lo = x + 4 ∧ hi = x + 8)) : CQ0 M' x bb sb := by
  obtain ⟨a, c, ⟨ra, rb, d⟩, ⟨rc, rd, e⟩, f, g, i, j⟩ := h
  have hin := a.in_
  exact ⟨a.e hF.1 (hF.2.2 x (by omega)).2.2, c.fq hF (by omega), ⟨ra, rb, d.fq hF (by omega)⟩, ⟨rc, rd, e.fq hF (by omega)⟩, f.fq hF (by omega), g.fq hF (by omega), i.fq hF (by omega), j.fq hF (by omega)⟩
/-- settled: nothing is known yet -/
theorem c_settle (h0 : CQ0 M x bb sb) (hB : IsB M bb D1) : ok (f_X8_settle M x) (fun M' => Cq x M M' ∧ CQ M' x bb sb (tl D1)) := by
  have hin := h0.1.in_
  unfold f_X8_settle
  rw [h0.1.r8, bs, hB.c, bs]
  refine ok.seq (f_tl hB) ?_
  rintro _ ⟨f, rfl, hf, hB1⟩
  have F1 : Fq bb (bb + 12) M (sW M f) := Fq.W fun a ha => hf a (by omega) (by omega)
  have C1 : Cq x M (sW M f) := Cq.of F1 (by omega) (by omega)
  have h1 := h0.fq F1 (Or.inl ⟨rfl, rfl⟩)
  obtain ⟨a, c, ⟨ra, rb, d⟩, ⟨rc, rd, e⟩, f', g, i, j⟩ := h1
  generalize sW M f = M1 at *
  have F2 : Fi x (x + 1) M1 (sI (sI (sI M1 x 12 0) x 13 0) x 14 0) := (Fi.sI ⟨by omega, by omega⟩).trans ((Fi.sI ⟨by omega, by omega⟩).trans (Fi.sI ⟨by omega, by omega⟩))
  have C2 : Cq x M1 (sI (sI (sI M1 x 12 0) x 13 0) x 14 0) := (Cq.sI 0 (by omega) (by omega)).trans ((Cq.sI 0 (by omega) (by omega)).trans (Cq.sI 0 (by omega) (by omega)))
  have a1 : IsX (sI M1 x 12 0) x bb sb := a.e rfl rfl
  have a2 : IsX (sI (sI M1 x 12 0) x 13 0) x bb sb := a.e rfl rfl
  have a3 : IsX (sI (sI (sI M1 x 12 0) x 13 0) x 14 0) x bb sb := a.e rfl rfl
  rw [a.p, bs, a1.p, bs, a2.p, bs]
  refine ok.pure ⟨C1.trans C2, a3, hB1.fi F2 (by omega), c.fi F2, ⟨ra, rb, d.fi F2⟩, ⟨rc, rd, e.fi F2⟩, f'.fi F2, g.fi F2, i.fi F2, j.fq F2.q (by omega), Or.inl ?_, Or.inl ?_, Or.inl ?_⟩
  · rw [i_sI, if_neg (by omega), i_sI, if_neg (by omega), i_sI, if_pos ⟨rfl, rfl⟩]
  · rw [i_sI, if_neg (by omega), i_sI, if_pos ⟨rfl, rfl⟩]
  · rw [i_sI, if_pos ⟨rfl, rfl⟩]
theorem HX.fq {lo hi : Nat} (h : HX M a hy) (hF : Fq lo hi M M') (hb : a + 4 ≤ lo ∨ hi ≤ a) : HX M' a hy := by
  obtain ⟨s, c, r⟩ := h
  refine ⟨⟨by rw [hF.1]; exact s.1, ?_, by rw [hF.1]; exact s.2.2⟩, by rw [hF.i (by omega)]; exact c, fun j hj => by rw [hF.i (by omega), hF.i (by omega), hF.i (by omega)]; exact r j hj⟩
  rw [hF.r (by omega), hF.r (by omega), hF.r (by omega)]
  exact s.2.1
theorem HX.cq (h : HX M (x + 4) hy) (hF : Cq x M M') : HX M' (x + 4) hy := by
  obtain ⟨s, c, r⟩ := h
  have ff : ∀ a, x < a → a < x + 8 → mI M' a = mI M a ∧ mL M' a = mL M a ∧ mR M' a = mR M a := fun a h1 h2 => hF.2.2.1 a (by omega) (by omega)
  refine ⟨⟨by rw [hF.1]; exact s.1, ?_, by rw [hF.1]; exact s.2.2⟩, by rw [(ff _ (by omega) (by omega)).1]; exact c, fun j hj => by rw [(ff _ (by omega) (by omega)).1, (ff (x + 4 + 2) (by omega) (by omega)).1, (ff (x + 4 + 3) (by omega) (by omega)).1]; exact r j hj⟩
  rw [(ff (x + 4) (by omega) (by omega)).2.2]
  exact s.2.1
theorem c_change (h : CQ M x bb sb D) (hH : HX M (x + 4) hy) (hl : hy.1 ≤ 10) (hc : hy.2.1 hy.1 = D) {k i : Nat} (hk : k < 6) (hi : i < bsz D (krow k)) (y : Int32) : ok (f_X8_change M x (Int32.ofNat k) (Int32.ofNat i) y) (fun o => o.1 = D (krow k) i ∧ Ch x M o.2 ∧ CQ o.2 x bb sb (tl (up D (krow k) i y)) ∧ HX o.2 (x + 4) (hpush (hdrop hy) (tl (up D (krow k) i y)) k i)) := by
  have hin := h.1.in_
  have kr := krow_in hk
  unfold f_X8_change
  rw [h.1.r2, bs, h.1.r8, bs, hH.1.c, bs]
  refine ok.seq (f_hch (D' := tl (up D (krow k) i y)) hH h.2.1 (by omega) hl hc hk hi y) ?_
  rintro _ ⟨M1, F1, H1, rfl⟩
  dsimp only
  have B1 := (h.2.1.fi F1 (by omega)).cell (k := krow k) (i := i) (by omega) y
  have F2 : Fq bb (bb + 12) M1 (sI M1 (bb + krow k) i y) := Fq.sI ⟨by omega, by omega⟩
  have h1 : CQ0 (sI M1 (bb + krow k) i y) x bb sb := (h.c0.fq F1.q (Or.inr (Or.inr ⟨rfl, by omega⟩))).fq F2 (Or.inl ⟨rfl, rfl⟩)
  have H2 := H1.fq F2 (by omega)
  rw [h1.1.c, bs]
  refine ok.seq (c_settle h1 B1) ?_
  rintro M3 ⟨C3, h3⟩
  exact ok.pure ⟨rfl, ((Ch.of F1.q (by omega) (by omega)).trans (Ch.of F2 (by omega) (by omega))).trans C3.ch, h3, H2.cq C3⟩
/-! the last change taken back -/
theorem c_undo (h : CQ M x bb sb D) (hH : HX M (x + 4) hy) (hv : Hv D hy) : ok (f_X8_undo M x) (fun o => (hy.1 = 0 → o = (-1, M)) ∧ (hy.1 ≠ 0 → o.1 = Int32.ofNat (hy.1 - 1) ∧ Ch x M o.2 ∧ CQ o.2 x bb sb (hy.2.1 (hy.1 - 1)) ∧ HX o.2 (x + 4) (hpop hy))) := by
  have hin := h.1.in_
  obtain ⟨v1, v2, v3⟩ := hv
  obtain ⟨s, c, r⟩ := id hH
  unfold f_X8_undo
  rw [h.1.r2, bs, s.gi, bs, c]
  by_cases e : hy.1 = 0
  · rw [e, if_pos (show Int32.ofNat 0 = 0 from rfl)]
    exact ok.pure ⟨fun _ => rfl, fun z => absurd rfl z⟩
  · obtain ⟨n, hn⟩ : ∃ n, hy.1 = n + 1 := ⟨hy.1 - 1, by omega⟩
    have e2 : ¬ Int32.ofNat hy.1 = 0 := by rw [i0 (by omega)]; exact e
    obtain ⟨g1, g2, g3, g4⟩ := v3 n (by omega)
    rw [show hy.2.1 (n + 1) = D by rw [← hn]; exact v2] at g3 g4
    generalize hk : hy.2.2.1 n = k at g2 g3 g4
    generalize hi : hy.2.2.2 n = i at g3 g4
    have kr := krow_in g2
    obtain ⟨r1, r2, r3⟩ := r n (by omega)
    rw [hk] at r1
    rw [hi] at r2
    rw [hk, hi] at r3
    have ib : i < bln (krow k) := by
      have l0 := h.2.1.n.2.1
      have l1 := h.2.1.n.2.2.1
      have l2 := h.2.1.n.2.2.2
      rcases kr with ⟨-, e⟩ | ⟨-, e⟩ | ⟨-, e⟩ | ⟨-, e⟩ | ⟨-, e⟩ | ⟨-, e⟩ <;> rw [e] at g3 ⊢
      · have : i < cn D 0 := g3
        show i < 4; omega
      · have : i < cn D 1 := g3
        show i < 12; omega
      · have : i < cn D 2 := g3
        show i < 24; omega
      · have : i < cn D 2 := g3
        show i < 24; omega
      · have : i < cn D 2 := g3
        show i < 24; omega
      · exact g3
    have b24 : bln (krow k) ≤ 24 := by
      rcases kr with ⟨-, e⟩ | ⟨-, e⟩ | ⟨-, e⟩ | ⟨-, e⟩ | ⟨-, e⟩ | ⟨-, e⟩ <;> rw [e] <;> decide
    generalize ho : hy.2.1 n (krow k) i = old at r3 g4
    rw [if_neg e2, bs, h.1.r8, bs, s.c, bs]
    unfold f_X3_undoLatest
    have c' : mI M (x + 4) 3 = Int32.ofNat (n + 1) := by rw [c, hn]
    have e3 : ¬ Int32.ofNat (n + 1) ≤ 0 := by
      rw [show (0 : Int32) = Int32.ofNat 0 from rfl, i_le (by omega) (by omega)]; omega
    have sub1 : Int32.ofNat (n + 1) - 1 = Int32.ofNat n := by
      rw [show (1 : Int32) = Int32.ofNat 1 from rfl, i_sub (by omega)]; rfl
    obtain ⟨M1, q1⟩ : ∃ z, z = sI M (x + 4) 3 (Int32.ofNat n) := ⟨_, rfl⟩
    have F1 : Fi (x + 4) (x + 4 + 4) M M1 := by rw [q1]; exact Fi.sI ⟨by omega, by omega⟩
    have s1 := s.fi F1
    have c1 : mI M1 (x + 4) 3 = Int32.ofNat n := by rw [q1, i_sI, if_pos ⟨rfl, rfl⟩]
    have o1 : ∀ a j, a ≠ x + 4 → mI M1 a j = mI M a j := fun a j z => by rw [q1, i_sI, if_neg (fun y => z y.1)]
    have B1 := h.2.1.fi F1 (by omega)
    have a1 : aI M1 (x + 4 + 1) (Int32.ofNat n) = some (Int32.ofNat k) := by
      rw [aI_e s1.2.2.1 (Or.inl rfl) (show n < 10 by omega) (by omega), o1 _ _ (by omega), r1]
    have a2 : aI M1 (x + 4 + 2) (Int32.ofNat n) = some (Int32.ofNat i) := by
      rw [aI_e s1.2.2.2.1 (Or.inl rfl) (show n < 10 by omega) (by omega), o1 _ _ (by omega), r2]
    have a3 : aI M1 (x + 4 + 3) (Int32.ofNat n) = some old := by
      rw [aI_e s1.2.2.2.2 (Or.inl rfl) (show n < 10 by omega) (by omega), o1 _ _ (by omega), r3]
    have w : wI M1 (bb + krow k) (Int32.ofNat i) old = some (sI M1 (bb + krow k) i old) := wI_e (B1.1.2 (krow k) (by omega) (by omega)).2 ib (by omega)
    rw [s.gi, bs, c', if_neg e3, bs, s.p, bs, sub1, ← q1, s1.r0, bs, s1.gi, bs, c1, a1, bs, f_row B1.1 g2, bs, s1.r1, bs, bs, a2, bs, s1.r2, bs, bs, a3, bs, w, bs, bs, bs]
    have B2 := B1.cell (k := krow k) (i := i) (by omega) old
    have F2 : Fq bb (bb + 12) M1 (sI M1 (bb + krow k) i old) := Fq.sI ⟨by omega, by omega⟩
    have h1 : CQ0 (sI M1 (bb + krow k) i old) x bb sb := (h.c0.fq F1.q (Or.inr (Or.inr ⟨rfl, by omega⟩))).fq F2 (Or.inl ⟨rfl, rfl⟩)
    have H1 : HX M1 (x + 4) (hpop hy) := by
      have en : hy.1 - 1 = n := by omega
      refine ⟨s1, ?_, fun j hj => ?_⟩
      · rw [c1]
        show _ = Int32.ofNat (hy.1 - 1)
        rw [en]
      · have hj' : j < hy.1 - 1 := hj
        rw [o1 _ _ (by omega), o1 _ _ (by omega), o1 _ _ (by omega)]
        exact r j (by omega)
    have H2 := H1.fq F2 (by omega)
    rw [h1.1.c, bs]
    refine ok.seq (c_settle h1 B2) ?_
    rintro M3 ⟨C3, h3⟩
    have H3 := H2.cq C3
    have en : hy.1 - 1 = n := by omega
    rw [h3.1.r2, bs, H3.1.gi, bs, H3.2.1]
    refine ok.pure ⟨fun z => absurd z e, fun _ => ⟨rfl, ((Ch.of F1.q (by omega) (by omega)).trans (Ch.of F2 (by omega) (by omega))).trans C3.ch, ?_, H3⟩⟩
    rw [en, g4]
    exact h3
theorem Hv_pop (hv : Hv D hy) (e : hy.1 ≠ 0) : Hv (hy.2.1 (hy.1 - 1)) (hpop hy) := by
  obtain ⟨v1, v2, v3⟩ := hv
  refine ⟨by show hy.1 - 1 ≤ 10; omega, rfl, fun j hj => v3 j ?_⟩
  have : j < hy.1 - 1 := hj
  omega
end
