/-! ===== one call of the law: its shapes ===== -/
section
variable {M : Mem} {b x L i : Nat} {xs : Nat → Int32} {S : St}
theorem m_inR (M : Mem) (i lo hi : Int32) : f_X9_inRange M i lo hi = some (b2i (decide (lo ≤ i ∧ i ≤ hi))) := by
  unfold f_X9_inRange
  by_cases h1 : i < lo
  · have : ¬ (lo ≤ i ∧ i ≤ hi) := fun z => by
      have z1 := z.1
      rw [lt_i] at h1
      rw [le_i] at z1
      omega
    rw [if_pos h1, decide_eq_false this]; rfl
  · by_cases h2 : hi < i
    · have : ¬ (lo ≤ i ∧ i ≤ hi) := fun z => by
        have z2 := z.2
        rw [lt_i] at h2
        rw [le_i] at z2
        omega
      rw [if_neg h1, if_pos h2, decide_eq_false this]; rfl
    · have : lo ≤ i ∧ i ≤ hi := by
        rw [le_i, le_i]
        rw [lt_i] at h1 h2
        omega
      rw [if_neg h1, if_neg h2, decide_eq_true this]; rfl
theorem inR_n {i : Int32} {n : Nat} (hn : n < 1000000) : (0 ≤ i ∧ i ≤ Int32.ofNat n - 1) ↔ (0 ≤ i ∧ i < Int32.ofNat n) := by
  have e : (Int32.ofNat n - 1).toInt = (n : Int) - 1 := by
    rw [show (1 : Int32) = Int32.ofNat 1 from rfl, fb_subI, i_toInt (by omega), i_toInt (by omega)]
    · rfl
    · rw [i_toInt (by omega), i_toInt (by omega)]; omega
    · rw [i_toInt (by omega), i_toInt (by omega)]; omega
  rw [le_i i, lt_i, e, i_toInt (by omega)]
  constructor
  · rintro ⟨a, b⟩; exact ⟨a, by omega⟩
  · rintro ⟨a, b⟩; exact ⟨a, by omega⟩
/-- an index within a count -/
abbrev inx (i : Int32) (n : Nat) : Prop := 0 ≤ i ∧ i < Int32.ofNat n
variable {m : Nat} {D : Bl}
theorem m_isD (h : IsM M m D) (i : Int32) [Decidable (inx i (cn D 0))] : f_X9_isDistrict M m i = some (b2i (decide (inx i (cn D 0)))) := by
  have := h.n.2.1
  unfold f_X9_isDistrict
  rw [h.g5, bs, m_inR, bs, isBb]
  congr 2
  exact decide_eq_decide.mpr (inR_n (by omega))
theorem m_isP (h : IsM M m D) (i : Int32) [Decidable (inx i (cn D 1))] : f_X9_isProject M m i = some (b2i (decide (inx i (cn D 1)))) := by
  have := h.n.2.2.1
  unfold f_X9_isProject
  rw [h.g6, bs, m_inR, bs, isBb]
  congr 2
  exact decide_eq_decide.mpr (inR_n (by omega))
theorem m_isV (h : IsM M m D) (i : Int32) [Decidable (inx i (cn D 2))] : f_X9_isVoter M m i = some (b2i (decide (inx i (cn D 2)))) := by
  have := h.n.2.2.2
  unfold f_X9_isVoter
  rw [h.g7, bs, m_inR, bs, isBb]
  congr 2
  exact decide_eq_decide.mpr (inR_n (by omega))
theorem m_fails (h : IsMo M m) (g : Bool) : f_X9_fails M m (b2i g) = some (b2i (!g), sI M m 4 (b2i (!g))) := by
  unfold f_X9_fails
  have w : ∀ y, pFI M m 9 4 y = some (sI M m 4 y) := fun y => h.p 4 y
  cases g
  · rw [if_pos (show b2i false = 0 from rfl), bs, w, bs]
    rfl
  · rw [if_neg (show ¬ b2i true = 0 by decide), bs, w, bs]
    rfl
theorem f_ckx (M : Mem) (i : Int32) (n : Nat) [Decidable (inx i n)] : f_X8_checkIndex M i (Int32.ofNat n) = some (if inx i n then (some (), M) else (none, sF M)) := by
  rw [f_ckIx]
  by_cases h : inx i n
  · rw [if_pos h, if_pos (show 0 ≤ i ∧ i < Int32.ofNat n from h)]
  · rw [if_neg h, if_neg (show ¬ (0 ≤ i ∧ i < Int32.ofNat n) from h)]
theorem thB_p {σ α : Type} {f : Option (Option σ × Mem)} {g : σ → Mem → Option (Option α × Mem)} {v : σ} (h : f = some (some v, M)) : thB f g = g v M := by rw [h]; rfl
theorem thB_n {σ α : Type} {f : Option (Option σ × Mem)} {g : σ → Mem → Option (Option α × Mem)} (h : f = some (none, M)) : thB f g = some (none, M) := by rw [h]; rfl
/-- the reference's answer behind a check that holds, or doesn't -/
def ThrM {α : Type} (m : Nat) (M : Mem) (ok_ : Prop) (v : α) (o : α × Mem) : Prop := (ok_ → o.1 = v ∧ Mq m (sI M m 4 0) o.2) ∧ (¬ ok_ → o.2 = sI M m 4 1)
/-- the class's -/
def ThrC {α : Type} (x bb sb : Nat) (D : Bl) (M : Mem) (ok_ : Prop) (v : α) (o : Option α × Mem) : Prop := (ok_ → o.1 = some v ∧ Cq x M o.2 ∧ CQ o.2 x bb sb D) ∧ (¬ ok_ → o = (none, sF M))
/-! what a call needs of the script -/
theorem sc_at (h : GI b x L xs M S) {k : Nat} (hk : k < L) : aI M b (Int32.ofNat k) = some (xs k) := by
  have h1 := h.1.1
  rw [aI_e h1.1 (Or.inr rfl) hk (by omega), h.1.2.1 k hk]
theorem ck8 (h : GI b x L xs M S) : ck M x 8 = some () := by
  obtain ⟨-, -, ⟨bb, sb, c, -⟩, -⟩ := h
  exact c.1.c
theorem ck9 (h : GI b x L xs M S) : ck M (x + 377) 9 = some () := h.2.2.2.1.s.c
/-- a call that throws, checked: through the law's wrapper -/
theorem wr_ok {f : Option (Option Int32 × Mem)} {P : Prop} [Decidable P] {v : Int32} (h : GI b x L xs M S) (hf : ∀ bb sb, CQ M x bb sb S.1 → ok f (ThrC x bb sb S.1 M P v)) : ok (ck M x 8 >>= fun _ => f >>= fun o => thC o (fun (v : Int32) (M1 : Mem) => wL M1 (x + 396) 0 v.toInt64 >>= fun (M2 : Mem) => some ((0 : Int32), M2)) (fun (M1 : Mem) => some (1, M1))) (fun o => (P → o.1 = 0 ∧ mL o.2 (x + 396) 0 = v.toInt64) ∧ (¬ P → o.1 = 1) ∧ GI b x L xs o.2 S) := by
  have h0 := h
  obtain ⟨a, g, ⟨bb, sb, c, d⟩, e, f'⟩ := h
  rw [c.1.c, bs]
  refine ok.seq (hf bb sb c) ?_
  rintro ⟨o1, M1⟩ ⟨hp, hn⟩
  by_cases hP : P
  · obtain ⟨q1, q2, q3⟩ := hp hP
    dsimp only at q1 q2 q3
    subst q1
    have g1 := GI.c h0 q3 q2
    unfold thC
    dsimp only
    have w : wL M1 (x + 396) 0 v.toInt64 = some (sL M1 (x + 396) 0 v.toInt64) := wL_e (i := 0) g1.1.2.2.2 (by omega) (by omega)
    rw [w, bs]
    refine ok.pure ⟨fun _ => ⟨rfl, ?_⟩, fun z => absurd hP z, g1.out 0 _⟩
    show mL (sL M1 (x + 396) 0 v.toInt64) (x + 396) 0 = _
    rw [l_sL, if_pos ⟨rfl, rfl⟩]
  · have q := hn hP
    rw [q]
    unfold thC
    dsimp only
    exact ok.pure ⟨fun z => absurd z hP, fun _ => rfl, h0.sF⟩
theorem wr_okL {f : Option (Option Int64 × Mem)} {P : Prop} [Decidable P] {v : Int64} (h : GI b x L xs M S) (hf : ∀ bb sb, CQ M x bb sb S.1 → ok f (ThrC x bb sb S.1 M P v)) : ok (ck M x 8 >>= fun _ => f >>= fun o => thC o (fun (v : Int64) (M1 : Mem) => wL M1 (x + 396) 0 v >>= fun (M2 : Mem) => some ((0 : Int32), M2)) (fun (M1 : Mem) => some (1, M1))) (fun o => (P → o.1 = 0 ∧ mL o.2 (x + 396) 0 = v) ∧ (¬ P → o.1 = 1) ∧ GI b x L xs o.2 S) := by
  have h0 := h
  obtain ⟨a, g, ⟨bb, sb, c, d⟩, e, f'⟩ := h
  rw [c.1.c, bs]
  refine ok.seq (hf bb sb c) ?_
  rintro ⟨o1, M1⟩ ⟨hp, hn⟩
  by_cases hP : P
  · obtain ⟨q1, q2, q3⟩ := hp hP
    dsimp only at q1 q2 q3
    subst q1
    have g1 := GI.c h0 q3 q2
    unfold thC
    dsimp only
    have w : wL M1 (x + 396) 0 v = some (sL M1 (x + 396) 0 v) := wL_e (i := 0) g1.1.2.2.2 (by omega) (by omega)
    rw [w, bs]
    refine ok.pure ⟨fun _ => ⟨rfl, ?_⟩, fun z => absurd hP z, g1.out 0 _⟩
    show mL (sL M1 (x + 396) 0 v) (x + 396) 0 = _
    rw [l_sL, if_pos ⟨rfl, rfl⟩]
  · have q := hn hP
    rw [q]
    unfold thC
    dsimp only
    exact ok.pure ⟨fun z => absurd z hP, fun _ => rfl, h0.sF⟩
theorem lg_self (y : Int64) : lg_cmp y y = 0 := (lg_lt y y).1.mpr rfl
/-- behind both: the comparison that the law makes of a checked call -/
theorem cmp_ok {P : Prop} [Decidable P] {v : Int32} {w : Int32 × Mem} {f : Option (Int32 × Mem)} {kj : Mem → Option Int32} (hw : (P → w.1 = 0 ∧ mL w.2 (x + 396) 0 = v.toInt64) ∧ (¬ P → w.1 = 1)) (h : GI b x L xs w.2 S) (hf : ok f (ThrM (x + 377) w.2 P v)) (hk : ∀ M', GI b x L xs M' S → kj M' = some 1) : (ck w.2 (x + 377) 9 >>= fun _ => f >>= fun (o4 : Int32 × Mem) => ck o4.2 (x + 377) 9 >>= fun _ => f_X9_thrown o4.2 (x + 377) >>= fun (o5 : Int32) => if o5 = w.1 then (if w.1 = 0 then (aL o4.2 (x + 396) 0 >>= fun (x6 : Int64) => if (lg_cmp x6 ((o4.1 : Int32).toInt64)) = 0 then (kj o4.2) else (some 0)) else (kj o4.2)) else (some 0)) = some 1 := by
  refine eq_ok ?_
  rw [ck9 h, bs]
  refine ok.seq hf ?_
  rintro ⟨o1, M1⟩ ⟨hp, hn⟩
  by_cases hP : P
  · obtain ⟨q1, q2⟩ := hp hP
    dsimp only at q1 q2
    subst q1
    have g1 := GI.mo h q2
    have e4 : mI M1 (x + 377) 4 = 0 := by rw [q2.fld (by omega), i_sI, if_pos ⟨rfl, rfl⟩]
    have eL : mL M1 (x + 396) 0 = o1.toInt64 := by
      rw [q2.2.2.2.1 (x + 396) (by omega)]
      exact (hw.1 hP).2
    have a : aL M1 (x + 396) 0 = some (mL M1 (x + 396) 0) := aL_e (i := 0) g1.1.2.2.2 (by omega) (by omega)
    unfold f_X9_thrown
    dsimp only
    rw [ck9 g1, bs, g1.2.2.2.1.s.gi, bs, bs, e4, (hw.1 hP).1, if_pos rfl, if_pos rfl, a, bs, eL, if_pos (lg_self _), hk M1 g1]
    exact ok.pure rfl
  · have q := hn hP
    dsimp only at q
    subst q
    have g1 : GI b x L xs (sI w.2 (x + 377) 4 1) S := GI.mo h Mq.rf
    have e4 : mI (sI w.2 (x + 377) 4 1) (x + 377) 4 = 1 := by rw [i_sI, if_pos ⟨rfl, rfl⟩]
    unfold f_X9_thrown
    dsimp only
    rw [ck9 g1, bs, g1.2.2.2.1.s.gi, bs, bs, e4, hw.2 hP, if_pos rfl, if_neg (by decide), hk _ g1]
    exact ok.pure rfl
theorem cmp_okL {P : Prop} [Decidable P] {v : Int64} {w : Int32 × Mem} {f : Option (Int64 × Mem)} {kj : Mem → Option Int32} (hw : (P → w.1 = 0 ∧ mL w.2 (x + 396) 0 = v) ∧ (¬ P → w.1 = 1)) (h : GI b x L xs w.2 S) (hf : ok f (ThrM (x + 377) w.2 P v)) (hk : ∀ M', GI b x L xs M' S → kj M' = some 1) : (ck w.2 (x + 377) 9 >>= fun _ => f >>= fun (o4 : Int64 × Mem) => ck o4.2 (x + 377) 9 >>= fun _ => f_X9_thrown o4.2 (x + 377) >>= fun (o5 : Int32) => if o5 = w.1 then (if w.1 = 0 then (aL o4.2 (x + 396) 0 >>= fun (x6 : Int64) => if (lg_cmp x6 o4.1) = 0 then (kj o4.2) else (some 0)) else (kj o4.2)) else (some 0)) = some 1 := by
  refine eq_ok ?_
  rw [ck9 h, bs]
  refine ok.seq hf ?_
  rintro ⟨o1, M1⟩ ⟨hp, hn⟩
  by_cases hP : P
  · obtain ⟨q1, q2⟩ := hp hP
    dsimp only at q1 q2
    subst q1
    have g1 := GI.mo h q2
    have e4 : mI M1 (x + 377) 4 = 0 := by rw [q2.fld (by omega), i_sI, if_pos ⟨rfl, rfl⟩]
    have eL : mL M1 (x + 396) 0 = o1 := by
      rw [q2.2.2.2.1 (x + 396) (by omega)]
      exact (hw.1 hP).2
    have a : aL M1 (x + 396) 0 = some (mL M1 (x + 396) 0) := aL_e (i := 0) g1.1.2.2.2 (by omega) (by omega)
    unfold f_X9_thrown
    dsimp only
    rw [ck9 g1, bs, g1.2.2.2.1.s.gi, bs, bs, e4, (hw.1 hP).1, if_pos rfl, if_pos rfl, a, bs, eL, if_pos (lg_self _), hk M1 g1]
    exact ok.pure rfl
  · have q := hn hP
    dsimp only at q
    subst q
    have g1 : GI b x L xs (sI w.2 (x + 377) 4 1) S := GI.mo h Mq.rf
    have e4 : mI (sI w.2 (x + 377) 4 1) (x + 377) 4 = 1 := by rw [i_sI, if_pos ⟨rfl, rfl⟩]
    unfold f_X9_thrown
    dsimp only
    rw [ck9 g1, bs, g1.2.2.2.1.s.gi, bs, bs, e4, hw.2 hP, if_pos rfl, if_neg (by decide), hk _ g1]
    exact ok.pure rfl
end
