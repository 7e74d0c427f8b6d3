/-! ===== between the two of a call that changes: the class in one state, the reference in another ===== -/
section
variable {M M' M1 M2 : Mem} {b x m L : Nat} {xs : Nat → Int32} {S S1 S2 : St} {r : Int32 × Bl × Hy}
def GI2 (b x : Nat) (L : Nat) (xs : Nat → Int32) (M : Mem) (S1 S2 : St) : Prop := Evr b x L xs M ∧ (Gd S1.1 ∧ Tl S1.1 ∧ Hv S1.1 S1.2.2.2 ∧ Tb S1.2.1 ∧ Aps S1.2.2.2) ∧ (∃ bb sb, CQ M x bb sb S1.1 ∧ CT M x S1) ∧ IsM M (x + 377) S2.1 ∧ MT M (x + 377) S2
theorem GI2.gi (h : GI2 b x L xs M S S) : GI b x L xs M S := h
theorem GI.g2 (h : GI b x L xs M S) : GI2 b x L xs M S S := h
theorem sc_at2 (h : GI2 b x L xs M S1 S2) {k : Nat} (hk : k < L) : aI M b (Int32.ofNat k) = some (xs k) := by
  have h1 := h.1.1
  rw [aI_e h1.1 (Or.inr rfl) hk (by omega), h.1.2.1 k hk]
theorem ck92 (h : GI2 b x L xs M S1 S2) : ck M (x + 377) 9 = some () := h.2.2.2.1.s.c
theorem GI.gs (h : GI b x L xs M S) : Gs S.1 S.2.2.2 := ⟨h.2.1.1, h.2.1.2.1, h.2.1.2.2.1, h.2.1.2.2.2.2⟩
def St.to (S : St) (r : Int32 × Bl × Hy) : St := (r.2.1, S.2.1, S.2.2.1, r.2.2)
theorem CT.ch (h : CT M x S) (hF : Ch x M M') (hH : HX M' (x + 4) r.2.2) : CT M' x (St.to S r) := by
  obtain ⟨⟨a1, a2, a3, a4⟩, b, -, d⟩ := h
  have ff : ∀ a, x < a → a < x + 4 → ∀ j, mI M' a j = mI M a j := fun a h1 h2 j => congrFun (hF.2.2.1 a (by omega) (by omega)).1 j
  have fr : ∀ a, x < a → a < x + 4 → ∀ j, mR M' a j = mR M a j := fun a h1 h2 j => congrFun (hF.2.2.1 a (by omega) (by omega)).2.2 j
  exact ⟨⟨⟨by rw [hF.1]; exact a1.1, by rw [fr _ (by omega) (by omega)]; exact a1.2.1, by rw [hF.1]; exact a1.2.2⟩, by rw [ff _ (by omega) (by omega)]; exact a2, a3, fun j hj => by rw [ff _ (by omega) (by omega)]; exact a4 j hj⟩, by rw [hF.1]; exact b, hH, by rw [hF.2.2.2.2 10 (by omega)]; exact d⟩
/-- the class's half -/
theorem half_c {bb sb : Nat} {o : Int32 × Mem} (h : GI b x L xs M S) (hC : CT M x S) (hr : Gs r.2.1 r.2.2) (hf : ChgC x bb sb M r o) : o.1 = r.1 ∧ GI2 b x L xs o.2 (St.to S r) S := by
  obtain ⟨a, g, -, e, f⟩ := h
  obtain ⟨q1, q2, q3, q4⟩ := hf
  exact ⟨q1, Evr.fq a q2.fq (Nat.le_refl _), ⟨hr.1, hr.2.1, hr.2.2.1, g.2.2.2.1, hr.2.2.2⟩, ⟨bb, sb, q3, hC.ch q2 q4⟩, e.fq q2.fq (by omega), f.fq q2.fq (by omega)⟩
theorem Mc.fq (h : Mc m M M') : Fq m (m + 19) M M' := ⟨h.1, h.2.2.2.1, fun a ha => ⟨funext fun j => h.2.2.2.2 a j (by omega) (by omega) (by omega), by rw [h.2.1], by rw [h.2.2.1]⟩⟩
/-- the reference's -/
theorem half_m {o : Int32 × Mem} (h : GI2 b x L xs M (St.to S r) S) (hf : ChgM (x + 377) M r o) : o.1 = r.1 ∧ GI b x L xs o.2 (St.to S r) := by
  obtain ⟨a, g, ⟨bb, sb, c, d⟩, e, f⟩ := h
  obtain ⟨q1, q2, q3, q4⟩ := hf
  have F : Fq (x + 377) (x + 377 + 19) M o.2 := (Fi.sI (x := 0) (j := 4) ⟨Nat.le_refl _, by omega⟩ : Fi (x + 377) (x + 377 + 19) M (sI M (x + 377) 4 0)).q.trans q2.fq
  have gI : ∀ y j, y ≠ x + 377 + 1 → y ≠ x + 377 + 3 → ¬ (y = x + 377 ∧ (j = 3 ∨ j = 4)) → mI o.2 y j = mI M y j := fun y j z1 z2 z3 => by
    rw [q2.2.2.2.2 y j z1 z2 (by omega), i_sI, if_neg (by omega)]
  obtain ⟨f1, f2, f3, f4, -, -⟩ := f
  exact ⟨q1, Evr.fq a F (by omega), g, ⟨bb, sb, c.out F (by omega), d.fq F (by omega)⟩, q3, by rw [gI _ _ (by omega) (by omega) (by omega)]; exact f1, by rw [gI _ _ (by omega) (by omega) (by omega)]; exact f2, fun j hj => by rw [gI _ _ (by omega) (by omega) (by omega)]; exact f3 j hj, by rw [gI _ _ (by omega) (by omega) (by omega)]; exact f4, q4.1, q4.2⟩
theorem MT.dh (h : MT M m S) : DH M m S.2.2.2 := ⟨h.2.2.2.2.1, h.2.2.2.2.2⟩
/-- both, with what the law does between and after -/
theorem set_ok {f : Option (Int32 × Mem)} {g : Int32 × Mem → Option Int32} (h : GI b x L xs M S) (hr : Gs r.2.1 r.2.2) (hf : ∀ bb sb, CQ M x bb sb S.1 → Sta M x → HX M (x + 4) S.2.2.2 → ok f (ChgC x bb sb M r)) (hg : ∀ M1, GI2 b x L xs M1 (St.to S r) S → g (r.1, M1) = some 1) : (ck M x 8 >>= fun _ => f >>= g) = some 1 := by
  refine eq_ok ?_
  obtain ⟨bb, sb, c, d⟩ := id h.2.2.1
  rw [c.1.c, bs]
  refine ok.seq (hf bb sb c h.1.2.2.1 d.2.2.1) ?_
  rintro ⟨o, M1⟩ q
  obtain ⟨q1, q2⟩ := half_c h d hr q
  dsimp only at q1 q2
  rw [q1, hg M1 q2]
  exact ok.pure rfl
theorem set_ok2 {f : Option (Int32 × Mem)} {kj : Mem → Option Int32} (h : GI2 b x L xs M (St.to S r) S) (hf : IsM M (x + 377) S.1 → DH M (x + 377) S.2.2.2 → ok f (ChgM (x + 377) M r)) (hk : ∀ M', GI b x L xs M' (St.to S r) → kj M' = some 1) : (ck M (x + 377) 9 >>= fun _ => f >>= fun (o : Int32 × Mem) => if r.1 = o.1 then (kj o.2) else (some 0)) = some 1 := by
  refine eq_ok ?_
  rw [ck92 h, bs]
  refine ok.seq (hf h.2.2.2.1 h.2.2.2.2.dh) ?_
  rintro ⟨o, M1⟩ q
  obtain ⟨q1, q2⟩ := half_m h q
  dsimp only at q1 q2 ⊢
  rw [if_pos q1.symm, hk M1 q2]
  exact ok.pure rfl
/-! answers that are told at once -/
theorem ret_ok {α : Type} [DecidableEq α] {v : α} {f : Option (α × Mem)} {g : α × Mem → Option Int32} (h : GI b x L xs M S) (hf : ∀ bb sb, CQ M x bb sb S.1 → ok f (RetC x bb sb S.1 M v)) (hg : ∀ M1, GI b x L xs M1 S → g (v, M1) = some 1) : (ck M x 8 >>= fun _ => f >>= g) = some 1 := by
  refine eq_ok ?_
  obtain ⟨bb, sb, c, d⟩ := id h.2.2.1
  rw [c.1.c, bs]
  refine ok.seq (hf bb sb c) ?_
  rintro ⟨o, M1⟩ ⟨q1, q2, q3⟩
  dsimp only at q1 q2 q3
  rw [q1, hg M1 (GI.c h q3 q2)]
  exact ok.pure rfl
theorem ret_ok2 {v : Int32} {f : Option (Int32 × Mem)} {kj : Mem → Option Int32} (h : GI b x L xs M S) (hf : IsM M (x + 377) S.1 → mI M (x + 377) 37 = 12 → ok f (RetM (x + 377) M v)) (hk : ∀ M', GI b x L xs M' S → kj M' = some 1) : (ck M (x + 377) 9 >>= fun _ => f >>= fun (o : Int32 × Mem) => if v = o.1 then (kj o.2) else (some 0)) = some 1 := by
  refine eq_ok ?_
  rw [ck9 h, bs]
  refine ok.seq (hf h.2.2.2.1 h.2.2.2.2.1) ?_
  rintro ⟨o, M1⟩ ⟨q1, q2⟩
  dsimp only at q1 q2 ⊢
  rw [if_pos q1.symm, hk M1 (GI.mo h q2)]
  exact ok.pure rfl
/-! simple questions -/
theorem c_districtCount {bb sb : Nat} {D : Bl} (h : CQ M x bb sb D) : f_X8_districtCount M x = some (Int32.ofNat (cn D 0)) := by
  unfold f_X8_districtCount
  rw [h.1.r8, bs, h.2.1.g0, bs]
theorem c_projectCount {bb sb : Nat} {D : Bl} (h : CQ M x bb sb D) : f_X8_projectCount M x = some (Int32.ofNat (cn D 1)) := by
  unfold f_X8_projectCount
  rw [h.1.r8, bs, h.2.1.g1, bs]
theorem c_voterCount {bb sb : Nat} {D : Bl} (h : CQ M x bb sb D) : f_X8_voterCount M x = some (Int32.ofNat (cn D 2)) := by
  unfold f_X8_voterCount
  rw [h.1.r8, bs, h.2.1.g2, bs]
theorem q_districtCount {D : Bl} (h : IsM M m D) : ok (f_X9_districtCount M m) (RetM m M (Int32.ofNat (cn D 0))) := by
  have h1 : IsM (sI M m 4 0) m D := h.sIo (by omega) _
  unfold f_X9_districtCount
  rw [h.s.p, bs, h1.g5, bs]
  exact ok.pure ⟨rfl, Mq.rf⟩
theorem q_projectCount {D : Bl} (h : IsM M m D) : ok (f_X9_projectCount M m) (RetM m M (Int32.ofNat (cn D 1))) := by
  have h1 : IsM (sI M m 4 0) m D := h.sIo (by omega) _
  unfold f_X9_projectCount
  rw [h.s.p, bs, h1.g6, bs]
  exact ok.pure ⟨rfl, Mq.rf⟩
theorem q_voterCount {D : Bl} (h : IsM M m D) : ok (f_X9_voterCount M m) (RetM m M (Int32.ofNat (cn D 2))) := by
  have h1 : IsM (sI M m 4 0) m D := h.sIo (by omega) _
  unfold f_X9_voterCount
  rw [h.s.p, bs, h1.g7, bs]
  exact ok.pure ⟨rfl, Mq.rf⟩
theorem c_districtNamed {bb sb : Nat} {D : Bl} (h : CQ M x bb sb D) (a : Int32) : f_X8_districtNamed M x a = some (plN (D 1) a (cn D 0)) := by
  have l0 := h.2.1.n.2.1
  unfold f_X8_districtNamed
  rw [h.1.r8, bs, h.2.1.s.r1, bs, bs, h.2.1.g0, bs, f_place h.2.1.s.k1 (Or.inl rfl) (n := cn D 0) (by omega) (by omega) (r := D 1) (fun i hi => h.2.1.2.2.2 1 (by omega) (by omega) i hi) a, bs]
theorem c_projectNamed {bb sb : Nat} {D : Bl} (h : CQ M x bb sb D) (a : Int32) : f_X8_projectNamed M x a = some (plN (D 3) a (cn D 1)) := by
  have l0 := h.2.1.n.2.2.1
  unfold f_X8_projectNamed
  rw [h.1.r8, bs, h.2.1.s.r3, bs, bs, h.2.1.g1, bs, f_place h.2.1.s.k3 (Or.inl rfl) (n := cn D 1) (by omega) (by omega) (r := D 3) (fun i hi => h.2.1.2.2.2 3 (by omega) (by omega) i hi) a, bs]
theorem q_districtNamed {D : Bl} (h : IsM M m D) (a : Int32) : ok (f_X9_districtNamed M m a) (RetM m M (plN (D 1) a (cn D 0))) := by
  have l0 := h.n.2.1
  have h1 : IsM (sI M m 4 0) m D := h.sIo (by omega) _
  unfold f_X9_districtNamed
  rw [h.s.p, bs, h1.s.r8, bs, h1.g5, bs, m_index h1.s.k8 (Or.inl rfl) (n := cn D 0) (by omega) (by omega) (r := D 1) (fun i hi => (h1.2.2.2.1 i hi).1) a, bs]
  exact ok.pure ⟨rfl, Mq.rf⟩
theorem q_projectNamed {D : Bl} (h : IsM M m D) (a : Int32) : ok (f_X9_projectNamed M m a) (RetM m M (plN (D 3) a (cn D 1))) := by
  have l0 := h.n.2.2.1
  have h1 : IsM (sI M m 4 0) m D := h.sIo (by omega) _
  unfold f_X9_projectNamed
  rw [h.s.p, bs, h1.s.r9, bs, h1.g6, bs, m_index h1.s.k9 (Or.inl rfl) (n := cn D 1) (by omega) (by omega) (r := D 3) (fun i hi => (h1.2.2.2.2.1 i hi).1) a, bs]
  exact ok.pure ⟨rfl, Mq.rf⟩
def gset (D : Bl) (a : Int32) : Int32 := if inx a 4 then D 9 (ix a) else -2
theorem c_getSetting {bb sb : Nat} {D : Bl} (h : CQ M x bb sb D) (a : Int32) : f_X8_getSetting M x a = some (gset D a) := by
  unfold f_X8_getSetting gset
  rw [show (4 : Int32) = Int32.ofNat 4 from rfl, isIx_in, bs, b2i_ite]
  by_cases c : inx a 4
  · obtain ⟨k, hk, rfl⟩ := ix_of (by omega) c
    rw [decide_eq_true c, if_pos rfl, if_pos c, h.1.r8, bs, h.2.1.s.r9, bs, h.2.1.a9 hk, bs, bs, ix_o (by omega)]
  · rw [decide_eq_false c, if_neg (by decide), if_neg c, bs]
theorem q_getSetting {D : Bl} (h : IsM M m D) (a : Int32) : ok (f_X9_getSetting M m a) (RetM m M (gset D a)) := by
  have h1 : IsM (sI M m 4 0) m D := h.sIo (by omega) _
  unfold f_X9_getSetting gset
  rw [h.s.p, bs, m_inR, bs, b2i_ite]
  by_cases c : inx a 4
  · obtain ⟨k, hk, rfl⟩ := ix_of (by omega) c
    rw [decide_eq_true ((in03 _).mpr c), if_pos rfl, if_pos c, h1.s.r0, bs, h1.d9 hk, bs, bs, ix_o (by omega)]
    exact ok.pure ⟨rfl, Mq.rf⟩
  · rw [decide_eq_false (fun z => c ((in03 _).mp z)), if_neg (by decide), if_neg c, bs]
    exact ok.pure ⟨rfl, Mq.rf⟩
theorem c_undoCount (h : GI b x L xs M S) : f_X8_undoCount M x = some (Int32.ofNat S.2.2.2.1) := by
  obtain ⟨bb, sb, c, d⟩ := h.2.2.1
  unfold f_X8_undoCount
  rw [c.1.r2, bs, d.2.2.1.1.gi, d.2.2.1.2.1, bs]
theorem q_undoCount (h : GI b x L xs M S) : ok (f_X9_undoCount M (x + 377)) (RetM (x + 377) M (Int32.ofNat S.2.2.2.1)) := by
  have h0 := h.2.2.2.1
  have h1 : IsM (sI M (x + 377) 4 0) (x + 377) S.1 := h0.sIo (by omega) _
  unfold f_X9_undoCount
  rw [h0.s.p, bs, h1.s.gi, i_sI, if_neg (by omega), h.2.2.2.2.2.2.2.2.1, bs]
  exact ok.pure ⟨rfl, Mq.rf⟩
theorem c_errorPosition (h : GI b x L xs M S) : f_X8_errorPosition M x = some S.2.2.1 := by
  obtain ⟨bb, sb, c, d⟩ := h.2.2.1
  unfold f_X8_errorPosition
  rw [c.1.gi, bs, d.2.2.2]
theorem q_errorPosition (h : GI b x L xs M S) : ok (f_X9_errorPosition M (x + 377)) (RetM (x + 377) M S.2.2.1) := by
  have h0 := h.2.2.2.1
  have h1 : IsM (sI M (x + 377) 4 0) (x + 377) S.1 := h0.sIo (by omega) _
  unfold f_X9_errorPosition
  rw [h0.s.p, bs, h1.s.gi, i_sI, if_neg (by omega), h.2.2.2.2.2.2.2.1, bs]
  exact ok.pure ⟨rfl, Mq.rf⟩
end
