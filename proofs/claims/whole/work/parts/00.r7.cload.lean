/-! ===== load: the class ===== -/
section
variable {M M' M0 M1 M2 M4 : Mem} {n p q x T bb sb : Nat} {D E : Bl} {c g er_ : Int32} {tx : Tx} {hy : Hy}
theorem f_open {a : Int32} (h : TX M T tx) (ha : 0 ≤ a ∧ a ≤ Int32.ofNat tx.1) : ∃ M', f_X7_open M T a = some M' ∧ Fi T (T + 1) M M' ∧ TO M' T tx.2 (nt a) 0 := by
  obtain ⟨s, h1, h2, h3⟩ := h
  have a0 := le0 ha.1
  have ea := nt_e a0
  have ei := nt_i a0
  have al := ha.2
  rw [le_i, i_toInt (by omega)] at al
  obtain ⟨n, en⟩ : ∃ n, n = nt a := ⟨_, rfl⟩
  rw [← en] at ea ei ⊢
  obtain ⟨N1, q1⟩ : ∃ z, z = sI M T 4 (Int32.ofNat n) := ⟨_, rfl⟩
  have k1 : (mK N1 T).1 = 7 := by rw [q1]; exact s.1
  obtain ⟨N2, q2⟩ : ∃ z, z = sI N1 T 3 0 := ⟨_, rfl⟩
  have k2 : (mK N2 T).1 = 7 := by rw [q2]; exact k1
  obtain ⟨N3, q3⟩ : ∃ z, z = sI N2 T 5 0 := ⟨_, rfl⟩
  have k3 : (mK N3 T).1 = 7 := by rw [q3]; exact k2
  obtain ⟨N4, q4⟩ : ∃ z, z = sI N3 T 2 0 := ⟨_, rfl⟩
  have F : Fi T (T + 1) M N4 := by
    rw [q4, q3, q2, q1]
    exact (Fi.sI ⟨by omega, by omega⟩).trans ((Fi.sI ⟨by omega, by omega⟩).trans ((Fi.sI ⟨by omega, by omega⟩).trans (Fi.sI ⟨by omega, by omega⟩)))
  refine ⟨N4, ?_, F, ⟨⟨by rw [F.k]; exact s.1, by rw [F.r]; exact s.2.1, by rw [F.k]; exact s.2.2⟩, ?_, by omega, fun j hj => ?_⟩, ?_, by omega⟩
  · unfold f_X7_open
    rw [gFI_e s.1, bs, h1, ← ea, if_neg (by rw [i_lt (by omega) (by omega)]; omega), pFI_e s.1, bs, ← q1, pFI_e k1, bs, ← q2, pFI_e k2, bs, ← q3, pFI_e k3, bs, ← q4]
  · rw [q4, i_sI, if_neg (by omega), q3, i_sI, if_neg (by omega), q2, i_sI, if_neg (by omega), q1, i_sI, if_pos ⟨rfl, rfl⟩]
  · rw [F.i (by omega)]; exact h3 j (by omega)
  · rw [q4, i_sI, if_neg (by omega), q3, i_sI, if_pos ⟨rfl, rfl⟩]; rfl
theorem Fyk.fq {R b : Nat} (h : Fyk T R b M M') {lo hi : Nat} (h1 : lo ≤ T) (h2 : T < hi) (h3 : lo ≤ R) (h4 : R < hi) (h5 : lo ≤ b) (h6 : b + 12 ≤ hi) : Fq lo hi M M' := ⟨h.1, h.2.1, fun a ha => ⟨funext fun j => h.2.2.2 a j (by omega) (by omega) (by omega), (h.2.2.1 a (by omega)).1, (h.2.2.1 a (by omega)).2⟩⟩
/-- the class's own ints change, nothing else yet -/
def mid (x : Nat) (M M' : Mem) : Mem := (mK M, fun a j => if a < x + 8 then mI M' a j else mI M a j, mL M, mR M, mN M)
theorem CQ.rdx (h : CQ M x bb sb D) (hF : Fyk (x + 1) (x + 3) sb M M') (hs : IsBs M' sb) : CQ M' x bb sb D := by
  have hin := h.1.in_
  have F1 : Fq (x + 1) (x + 8) M (mid x M M') := ⟨rfl, rfl, fun a ha => ⟨funext fun j => by
    show (if a < x + 8 then mI M' a j else mI M a j) = mI M a j
    by_cases z : a < x + 8
    · rw [if_pos z]; exact hF.2.2.2 a j (by omega) (by omega) (by omega)
    · rw [if_neg z], rfl, rfl⟩⟩
  have F2 : Fq sb (sb + 12) (mid x M M') M' := ⟨hF.1, hF.2.1, fun a ha => ⟨funext fun j => by
    show mI M' a j = (if a < x + 8 then mI M' a j else mI M a j)
    by_cases z : a < x + 8
    · rw [if_pos z]
    · rw [if_neg z]; exact hF.2.2.2 a j (by omega) (by omega) (by omega), (hF.2.2.1 a (by omega)).1, (hF.2.2.1 a (by omega)).2⟩⟩
  exact (h.txt F1 (by omega) (by omega)).sps F2 hs
theorem CQ.f10 (h : CQ M x bb sb D) (y : Int32) : CQ (sI M x 10 y) x bb sb D := by
  obtain ⟨a, b, c, ⟨ra, rb, d⟩, ⟨rc, rd, e⟩, f, g, i, j, k, l, n⟩ := h
  have hin := a.in_
  have F : Fi x (x + 1) M (sI M x 10 y) := Fi.sI ⟨by omega, by omega⟩
  refine ⟨a.e rfl rfl, b.fi F (by omega), c.fi F, ⟨ra, rb, d.fi F⟩, ⟨rc, rd, e.fi F⟩, f.fi F, g.fi F, i.fi F, j.fq F.q (by omega), ?_, ?_, ?_⟩
  · rw [i_sI, if_neg (by omega)]
    exact k.imp id (fun z => ⟨z.1, z.2.fq b.n F.q (by omega)⟩)
  · rw [i_sI, if_neg (by omega)]
    exact l.imp id (fun z => ⟨z.1, z.2.fq b.n F.q (by omega)⟩)
  · rw [i_sI, if_neg (by omega), i_sI, if_neg (by omega)]
    exact n.imp id (fun z => ⟨z.1, z.2.1.fq F.q (by omega), z.2.2⟩)
theorem c_load_bad {a : Int32} (hX : IsX M x bb sb) (hT : TX M (x + 1) tx) (ha : ¬ (0 ≤ a ∧ a ≤ Int32.ofNat tx.1)) : f_X8_load M x a = some (-2, M) := by
  unfold f_X8_load
  by_cases c : a < 0
  · rw [if_pos c]
  · rw [if_neg c, hX.r0, bs, gFI_e hT.1.1, bs, hT.2.1, if_neg (fun z => ha ⟨(nn_lt _).mpr c, z⟩)]
/-- the history, forgotten -/
def hy0 (D : Bl) : Hy := (0, fun _ => D, fun _ => 0, fun _ => 0)
def LX (x bb sb : Nat) (M : Mem) (D : Bl) (tx : Tx) (hy : Hy) (l : Int32 × Bl × Nat) (s : Nat) (o : Int32 × Mem) : Prop := o.1 = l.1 ∧ Fq x (x + 377) M o.2 ∧ ((l.1 < 0 ∧ CQ o.2 x bb sb D ∧ CT o.2 x (D, (0, tx.2), Int32.ofNat s, hy)) ∨ (0 ≤ l.1 ∧ CQ o.2 x sb bb (tl l.2.1) ∧ CT o.2 x (tl l.2.1, (0, tx.2), -1, hy0 (tl l.2.1))))
theorem c_load {a : Int32} (h : CQ M x bb sb D) (hC : CT M x (D, tx, er_, hy)) (hS : Sta M x) (ha : 0 ≤ a ∧ a ≤ Int32.ofNat tx.1) : ok (f_X8_load M x a) (LX x bb sb M D tx hy (ldR tx a) (tS tx.2 (nt a) (ldR tx a).2.2)) := by
  have hin := h.1.in_
  have hT : TX M (x + 1) tx := hC.1
  have hH : HX M (x + 4) hy := hC.2.2.1
  unfold f_X8_load ldR
  rw [if_neg ((nn_lt _).mp ha.1), h.1.r0, bs, gFI_e hT.1.1, bs, hT.2.1, if_pos ha.2, bs, ck_e hT.1.1, bs]
  obtain ⟨M1, e1, F1, O1⟩ := f_open hT ha
  have X1 := h.1.e (M' := M1) F1.k (by rw [F1.r])
  have C1 := h.txt F1.q (by omega) (by omega)
  have r5 : (mK M1 (x + 3)).1 = 5 := by rw [F1.k]; exact hC.2.1
  rw [e1, bs, X1.r1, bs, X1.r0, bs, X1.r9, bs, ck_e r5, bs]
  refine ok.seq (c_read (lim := x) ⟨by omega, by omega, by omega⟩ O1 r5 C1.2.2.1 (hS.fq F1.q (by omega))) ?_
  rintro ⟨o, M5⟩ ⟨eo, F5, P5, T5⟩
  obtain ⟨R, eR⟩ : ∃ R, R = rd tx.2 (nt a) 1201 D0 0 0 0 := ⟨_, rfl⟩
  dsimp only at eo F5 P5 T5 ⊢
  rw [← eR] at eo P5 T5 ⊢
  have C5 := C1.rdx F5 P5.1
  have q15 : Fq x (x + 377) M M5 := (F1.q.wide (by omega) (by omega)).trans (F5.fq (by omega) (by omega) (by omega) (by omega) (by omega) (by omega))
  have t5 : (mK M5 (x + 1)).1 = 7 := T5.1.1.1
  obtain ⟨M6, q6⟩ : ∃ z, z = sI M5 (x + 1) 1 0 := ⟨_, rfl⟩
  have F6 : Fi (x + 1) (x + 2) M5 M6 := by rw [q6]; exact Fi.sI ⟨by omega, by omega⟩
  have C6 := C5.txt F6.q (by omega) (by omega)
  have w6 : pFI M5 (x + 1) 7 1 0 = some M6 := by rw [q6]; exact pFI_e t5
  have t6 : IsT M6 (x + 1) := ⟨by rw [F6.k]; exact T5.1.1.1, by rw [F6.r]; exact T5.1.1.2.1, by rw [F6.k]; exact T5.1.1.2.2⟩
  have v6 : mI M6 (x + 1) 1 = 0 := by rw [q6, i_sI, if_pos ⟨rfl, rfl⟩]
  have v63 : mI M6 (x + 1) 3 = Int32.ofNat (tS tx.2 (nt a) R.2.2) := by rw [q6, i_sI, if_neg (by omega)]; exact T5.2.1
  have q16 : Fq x (x + 377) M M6 := q15.trans (F6.q.wide (by omega) (by omega))
  have k6 : mK M6 = mK M := q16.1
  have i6 : ∀ b j, x + 4 ≤ b → b < x + 8 → mI M6 b j = mI M b j := fun b j b1 b2 => by
    rw [F6.i (by omega), F5.2.2.2 b j (by omega) (by omega) (by omega), F1.i (by omega)]
  have r6 : ∀ b j, b < x + 8 → mR M6 b j = mR M b j := fun b j b2 => by
    rw [F6.r, (F5.2.2.1 b (by omega)).2, F1.r]
  have H6 : IsH M6 (x + 4) := by
    obtain ⟨s1, s2, s3⟩ := hH.1
    refine ⟨by rw [k6]; exact s1, ?_, by rw [k6]; exact s3⟩
    rw [r6 _ _ (by omega), r6 _ _ (by omega), r6 _ _ (by omega)]
    exact s2
  rw [C5.1.r0, bs, w6, bs]
  by_cases c0 : 0 ≤ R.1
  · rw [eo, if_pos c0]
    have p7 : pFI M6 x 8 10 (-1) = some (sI M6 x 10 (-1)) := C6.1.p 10 (-1)
    rw [p7, bs]
    have C7 := C6.f10 (-1)
    obtain ⟨M7, q7⟩ : ∃ z, z = sI M6 x 10 (-1) := ⟨_, rfl⟩
    rw [← q7] at C7 ⊢
    have k7 : mK M7 = mK M := by rw [q7]; exact k6
    obtain ⟨M8, q8⟩ : ∃ z, z = sR M7 x 9 bb := ⟨_, rfl⟩
    have w8 : pFR M7 x 8 9 bb = some M8 := by rw [q8]; exact pFR_e C7.1.1
    have k8 : mK M8 = mK M := by rw [q8]; exact k7
    obtain ⟨M9, q9_⟩ : ∃ z, z = sR M8 x 8 sb := ⟨_, rfl⟩
    have kx : (mK M8 x).1 = 8 := by rw [k8]; exact h.1.1
    have w9 : pFR M8 x 8 8 sb = some M9 := by rw [q9_]; exact pFR_e kx
    have k9 : mK M9 = mK M := by rw [q9_]; exact k8
    have r9 : ∀ b j, mR M9 b j = if b = x ∧ j = 8 then some sb else if b = x ∧ j = 9 then some bb else mR M6 b j := fun b j => by
      rw [q9_, r_sR, q8, r_sR, q7, r_sI]
    have X9 : IsX M9 x sb bb := by
      obtain ⟨a1, ⟨b0, b1, b2, b3, b4, b5, b6, b7, b8, b9⟩, c1⟩ := C6.1
      refine ⟨by rw [k9]; exact h.1.1, ⟨?_, ?_, ?_, ?_, ?_, ?_, ?_, ?_, ?_, ?_⟩, ?_⟩
      · rw [r9, if_neg (by omega), if_neg (by omega)]; exact b0
      · rw [r9, if_neg (by omega), if_neg (by omega)]; exact b1
      · rw [r9, if_neg (by omega), if_neg (by omega)]; exact b2
      · rw [r9, if_neg (by omega), if_neg (by omega)]; exact b3
      · rw [r9, if_neg (by omega), if_neg (by omega)]; exact b4
      · rw [r9, if_neg (by omega), if_neg (by omega)]; exact b5
      · rw [r9, if_neg (by omega), if_neg (by omega)]; exact b6
      · rw [r9, if_neg (by omega), if_neg (by omega)]; exact b7
      · rw [r9, if_pos ⟨rfl, rfl⟩]
      · rw [r9, if_neg (by omega), if_pos ⟨rfl, rfl⟩]
      · rcases c1 with ⟨y1, y2⟩ | ⟨y1, y2⟩
        · exact Or.inr ⟨y2, y1⟩
        · exact Or.inl ⟨y2, y1⟩
    obtain ⟨M10, q10⟩ : ∃ z, z = sI M9 (x + 4) 3 0 := ⟨_, rfl⟩
    have kh : (mK M9 (x + 4)).1 = 3 := by rw [k9]; exact hH.1.1
    have w10 : pFI M9 (x + 4) 3 3 0 = some M10 := by rw [q10]; exact pFI_e kh
    have X10 : IsX M10 x sb bb := X9.e (by rw [q10]; rfl) (by rw [q10]; rfl)
    have F10 : Fq x (x + 8) M6 M10 := by
      rw [q10, q9_, q8, q7]
      exact (Fq.sI ⟨by omega, by omega⟩).trans ((Fq.sR ⟨by omega, by omega⟩).trans ((Fq.sR ⟨by omega, by omega⟩).trans (Fq.sI ⟨by omega, by omega⟩)))
    rw [C7.1.r9, bs, C7.1.r8, bs, w8, bs, w9, bs, X9.r2, bs, w10, bs, X10.c, bs]
    have Q10 : CQ0 M10 x sb bb := by
      obtain ⟨-, b1, -, ⟨ra, rb, d⟩, ⟨rc, rd, e⟩, f, g, i, j, -⟩ := C6
      exact ⟨X10, b1.1.fq F10 (by omega), ⟨ra, rb, d.fq F10 (by omega)⟩, ⟨rc, rd, e.fq F10 (by omega)⟩, f.fq F10 (by omega), g.fq F10 (by omega), i.fq F10 (by omega), j.fq F10 (by omega)⟩
    obtain ⟨y, z, B10⟩ := ((P5.fq F6.q (by omega)).fq F10 (by omega)).bl
    refine ok.seq (c_settle Q10 B10) ?_
    rintro M11 ⟨F11, C11⟩
    rw [tl_rw] at C11
    have v10 : ∀ b j, ¬ (b = x ∧ j = 10) → ¬ (b = x + 4 ∧ j = 3) → mI M10 b j = mI M6 b j := fun b j z1 z2 => by
      rw [q10, i_sI, if_neg z2, q9_, i_sR, q8, i_sR, q7, i_sI, if_neg z1]
    have k10 : mK M10 = mK M := by rw [q10]; exact k9
    have r10 : ∀ b j, b ≠ x → mR M10 b j = mR M6 b j := fun b j z1 => by
      rw [q10, r_sI, r9, if_neg (fun z => z1 z.1), if_neg (fun z => z1 z.1)]
    have CT10 : CT M10 x (tl R.2.1, (0, tx.2), -1, hy0 (tl R.2.1)) := by
      refine ⟨⟨⟨?_, ?_, ?_⟩, ?_, Nat.zero_le _, fun j hj => absurd hj (Nat.not_lt_zero j)⟩, ?_, ⟨⟨?_, ?_, ?_⟩, ?_, fun j hj => absurd hj (Nat.not_lt_zero j)⟩, ?_⟩
      · rw [k10, ← k6]; exact t6.1
      · rw [r10 _ _ (by omega)]; exact t6.2.1
      · rw [k10, ← k6]; exact t6.2.2
      · rw [v10 _ _ (by omega) (by omega)]; exact v6
      · rw [k10]; exact hC.2.1
      · rw [k10]; exact hH.1.1
      · rw [r10 _ _ (by omega), r10 _ _ (by omega), r10 _ _ (by omega)]
        exact H6.2.1
      · rw [k10]; exact hH.1.2.2
      · rw [q10, i_sI, if_pos ⟨rfl, rfl⟩]; rfl
      · show mI M10 x 10 = -1
        rw [q10, i_sI, if_neg (by omega), q9_, i_sR, q8, i_sR, q7, i_sI, if_pos ⟨rfl, rfl⟩]
    exact ok.pure ⟨rfl, q16.trans ((F10.wide (by omega) (by omega)).trans F11.fq), Or.inr ⟨c0, C11, CT10.cq F11⟩⟩
  · rw [eo, if_neg c0, C6.1.r0, bs, gFI_e t6.1, bs, v63, C6.1.p, bs]
    have C7 := C6.f10 (Int32.ofNat (tS tx.2 (nt a) R.2.2))
    obtain ⟨M7, q7⟩ : ∃ z, z = sI M6 x 10 (Int32.ofNat (tS tx.2 (nt a) R.2.2)) := ⟨_, rfl⟩
    rw [← q7] at C7 ⊢
    have F7 : Fi x (x + 1) M6 M7 := by rw [q7]; exact Fi.sI ⟨by omega, by omega⟩
    refine ok.pure ⟨rfl, q16.trans (F7.q.wide (by omega) (by omega)), Or.inl ⟨neg_of c0, C7, ⟨⟨⟨?_, ?_, ?_⟩, ?_, Nat.zero_le _, fun j hj => absurd hj (Nat.not_lt_zero j)⟩, ?_, ⟨⟨?_, ?_, ?_⟩, ?_, fun j hj => ?_⟩, ?_⟩⟩⟩
    · rw [F7.k]; exact t6.1
    · rw [F7.r]; exact t6.2.1
    · rw [F7.k]; exact t6.2.2
    · rw [F7.i (by omega)]; exact v6
    · rw [F7.k, k6]; exact hC.2.1
    · rw [F7.k, k6]; exact hH.1.1
    · rw [F7.r]; exact H6.2.1
    · rw [F7.k, k6]; exact hH.1.2.2
    · rw [F7.i (by omega), i6 _ _ (by omega) (by omega)]; exact hH.2.1
    · rw [F7.i (by omega), F7.i (by omega), F7.i (by omega), i6 _ _ (by omega) (by omega), i6 _ _ (by omega) (by omega), i6 _ _ (by omega) (by omega)]
      exact hH.2.2 j hj
    · show mI M7 x 10 = _
      rw [q7, i_sI, if_pos ⟨rfl, rfl⟩]
end
