/-! ===== load: the reference ===== -/
section
variable {M M' M0 M1 M2 M4 : Mem} {n p q m hi : Nat} {D E : Bl} {c g : Int32} {tx : Tx}
/-- what a text comes to -/
def ldR (tx : Tx) (a : Int32) : Int32 × Bl × Nat := rd tx.2 (nt a) 1201 D0 0 0 0
/-- what load leaves alone when it fails -/
def Nlf (m : Nat) (M M' : Mem) : Prop := mK M' = mK M ∧ mR M' = mR M ∧ mN M' = mN M ∧ (∀ a j, ¬ (a = m ∧ j = 23) → mL M' a j = mL M a j) ∧ ∀ a j, a ≠ m + 2 → a ≠ m + 7 → a ≠ m + 8 → a ≠ m + 9 → ¬ (a = m ∧ (j = 4 ∨ (11 ≤ j ∧ j ≤ 13) ∨ (18 ≤ j ∧ j ≤ 28))) → mI M' a j = mI M a j
theorem Nlf.rf : Nlf m M M := ⟨rfl, rfl, rfl, fun _ _ _ => rfl, fun _ _ _ _ _ _ _ => rfl⟩
theorem Nlf.trans (h1 : Nlf m M M1) (h2 : Nlf m M1 M2) : Nlf m M M2 := ⟨h2.1.trans h1.1, h2.2.1.trans h1.2.1, h2.2.2.1.trans h1.2.2.1, fun a j z => (h2.2.2.2.1 a j z).trans (h1.2.2.2.1 a j z), fun a j z1 z2 z3 z4 z5 => (h2.2.2.2.2 a j z1 z2 z3 z4 z5).trans (h1.2.2.2.2 a j z1 z2 z3 z4 z5)⟩
theorem Nw.ne (h : Nw m M M') : Nlf m M M' := ⟨h.1, h.2.1, h.2.2.1, h.2.2.2.1, fun a j z1 z2 z3 z4 z5 => h.2.2.2.2 a j z1 z2 z3 z4 (by omega)⟩
theorem Fi.ne (h : Fi (m + 2) (m + 3) M M') : Nlf m M M' := ⟨h.1, h.2.2.1, h.2.2.2.1, fun a j _ => by rw [h.2.1], fun a j z1 _ _ _ _ => h.i (by omega) j⟩
theorem Nlf.sI {j : Nat} {x : Int32} (h : j = 4 ∨ (11 ≤ j ∧ j ≤ 13) ∨ (18 ≤ j ∧ j ≤ 28)) : Nlf m M (sI M m j x) := ⟨rfl, rfl, rfl, fun _ _ _ => rfl, fun a k _ _ _ _ z5 => by
  rw [i_sI, if_neg]
  rintro ⟨rfl, rfl⟩
  exact z5 ⟨rfl, h⟩⟩
theorem Nlf.fq (h : Nlf m M M') : Fq m (m + 19) M M' := ⟨h.1, h.2.2.1, fun a ha => ⟨funext fun j => h.2.2.2.2 a j (by omega) (by omega) (by omega) (by omega) (by omega), funext fun j => h.2.2.2.1 a j (by omega), by rw [h.2.1]⟩⟩
theorem IsM.ne (h : IsM M m E) (hF : Nlf m M M') : IsM M' m E := h.up hF.1 hF.2.1 (fun j hj => hF.2.2.2.2 _ _ (by omega) (by omega) (by omega) (by omega) (by omega)) (fun j => hF.2.2.2.2 _ _ (by omega) (by omega) (by omega) (by omega) (by omega)) (fun j => hF.2.2.2.2 _ _ (by omega) (by omega) (by omega) (by omega) (by omega)) (fun j => hF.2.2.2.2 _ _ (by omega) (by omega) (by omega) (by omega) (by omega)) (fun j => hF.2.2.2.2 _ _ (by omega) (by omega) (by omega) (by omega) (by omega))
/-- what load leaves: l is what the text comes to -/
def LM (m : Nat) (M : Mem) (E : Bl) (l : Int32 × Bl × Nat) (tS_ : Nat) (o : Int32 × Mem) : Prop := o.1 = l.1 ∧ mI o.2 m 18 = 0 ∧ mI o.2 m 37 = mI M m 37 ∧ ((l.1 < 0 ∧ Nlf m M o.2 ∧ mI o.2 m 26 = Int32.ofNat tS_) ∨ (0 ≤ l.1 ∧ Fq m (m + 19) M o.2 ∧ mI o.2 m 26 = -1 ∧ mI o.2 m 3 = 0 ∧ IsM o.2 m l.2.1))
theorem m_load_bad {a : Int32} (s : IsMo M m) (h18 : mI M m 18 = Int32.ofNat tx.1) (ha : ¬ (0 ≤ a ∧ a ≤ Int32.ofNat tx.1)) : f_X9_load M m a = some (-2, sI M m 4 0) := by
  have s1 : IsMo (sI M m 4 0) m := s.e rfl rfl
  unfold f_X9_load
  rw [s.p, bs, s1.gi, bs, i_sI, if_neg (by omega), h18, m_inR, bs, decide_eq_false ha, if_pos (show b2i false = 0 from rfl)]
theorem m_load {a : Int32} (s : IsMo M m) (h18 : mI M m 18 = Int32.ofNat tx.1) (hl : tx.1 ≤ 1200) (hb : ∀ j, j < tx.1 → mI M (m + 10) j = tx.2 j) (hT : Tb tx) (ha : 0 ≤ a ∧ a ≤ Int32.ofNat tx.1) : ok (f_X9_load M m a) (LM m M E (ldR tx a) (tS tx.2 (nt a) (ldR tx a).2.2)) := by
  have a0 := le0 ha.1
  have ea := nt_e a0
  have ei := nt_i a0
  have al := ha.2
  rw [le_i, i_toInt (by omega)] at al
  obtain ⟨n, en⟩ : ∃ n, n = nt a := ⟨_, rfl⟩
  unfold ldR
  rw [← en] at ea ei ⊢
  have hn : n ≤ tx.1 := by omega
  have s1 : IsMo (sI M m 4 0) m := s.e rfl rfl
  unfold f_X9_load
  rw [s.p, bs, s1.gi, bs, i_sI, if_neg (by omega), h18, m_inR, bs, decide_eq_true ha, if_neg (by decide), ← ea]
  obtain ⟨N1, q1⟩ : ∃ z, z = sI (sI M m 4 0) m 19 (Int32.ofNat n) := ⟨_, rfl⟩
  have t1 : IsMo N1 m := by rw [q1]; exact s1.e rfl rfl
  obtain ⟨N2, q2⟩ : ∃ z, z = sI N1 m 20 0 := ⟨_, rfl⟩
  have t2 : IsMo N2 m := by rw [q2]; exact t1.e rfl rfl
  obtain ⟨N3, q3⟩ : ∃ z, z = sI N2 m 25 0 := ⟨_, rfl⟩
  have t3 : IsMo N3 m := by rw [q3]; exact t2.e rfl rfl
  obtain ⟨N4, q4⟩ : ∃ z, z = sI N3 m 26 (-1) := ⟨_, rfl⟩
  have t4 : IsMo N4 m := by rw [q4]; exact t3.e rfl rfl
  obtain ⟨N5, q5⟩ : ∃ z, z = sI N4 m 27 0 := ⟨_, rfl⟩
  have t5 : IsMo N5 m := by rw [q5]; exact t4.e rfl rfl
  obtain ⟨N6, q6⟩ : ∃ z, z = sI N5 m 28 0 := ⟨_, rfl⟩
  have t6 : IsMo N6 m := by rw [q6]; exact t5.e rfl rfl
  obtain ⟨N7, q7⟩ : ∃ z, z = sI N6 m 11 0 := ⟨_, rfl⟩
  have t7 : IsMo N7 m := by rw [q7]; exact t6.e rfl rfl
  obtain ⟨N8, q8⟩ : ∃ z, z = sI N7 m 12 0 := ⟨_, rfl⟩
  have t8 : IsMo N8 m := by rw [q8]; exact t7.e rfl rfl
  obtain ⟨N9, q9⟩ : ∃ z, z = sI N8 m 13 0 := ⟨_, rfl⟩
  have t9 : IsMo N9 m := by rw [q9]; exact t8.e rfl rfl
  have fl : ∀ b j, mI N9 b j = if b = m ∧ j = 13 then 0 else if b = m ∧ j = 12 then 0 else if b = m ∧ j = 11 then 0 else if b = m ∧ j = 28 then 0 else if b = m ∧ j = 27 then 0 else if b = m ∧ j = 26 then -1 else if b = m ∧ j = 25 then 0 else if b = m ∧ j = 20 then 0 else if b = m ∧ j = 19 then Int32.ofNat n else if b = m ∧ j = 4 then 0 else mI M b j := fun b j => by
    rw [q9, i_sI, q8, i_sI, q7, i_sI, q6, i_sI, q5, i_sI, q4, i_sI, q3, i_sI, q2, i_sI, q1, i_sI, i_sI]
  have F9 : Nlf m M N9 := by
    rw [q9, q8, q7, q6, q5, q4, q3, q2, q1]
    exact (Nlf.sI (by omega)).trans ((Nlf.sI (by omega)).trans ((Nlf.sI (by omega)).trans ((Nlf.sI (by omega)).trans ((Nlf.sI (by omega)).trans ((Nlf.sI (by omega)).trans ((Nlf.sI (by omega)).trans ((Nlf.sI (by omega)).trans ((Nlf.sI (by omega)).trans (Nlf.sI (by omega))))))))))
  rw [s1.p, bs, ← q1, t1.p, bs, ← q2, t2.p, bs, ← q3, t3.p, bs, ← q4, t4.p, bs, ← q5, t5.p, bs, ← q6, t6.p, bs, ← q7, t7.p, bs, ← q8, t8.p, bs, ← q9, t9.r1, bs]
  refine ok.seq (m_reset2 t9) ?_
  rintro N10 ⟨F10, z10⟩
  have t10 : IsMo N10 m := t9.e F10.1 F10.r
  have g10 : ∀ j, mI N10 m j = mI N9 m j := fun j => F10.i (by omega) j
  have B10 : NB N10 m tx.2 n := by
    refine ⟨t10, ?_, by omega, fun j hj => ⟨?_, hT j (by omega)⟩⟩
    · rw [g10, fl]; simp
    · rw [F10.i (by omega), fl, if_neg (by omega), if_neg (by omega), if_neg (by omega), if_neg (by omega), if_neg (by omega), if_neg (by omega), if_neg (by omega), if_neg (by omega), if_neg (by omega), if_neg (by omega)]
      exact hb j (by omega)
  have O10 : NO N10 m tx.2 n 0 := ⟨B10, by rw [g10, fl]; simp, by omega⟩
  rw [t10.c, bs]
  refine ok.seq (m_adv O10) ?_
  rintro N11 ⟨F11, C11⟩
  have N11_ : IsN N11 m D0 := by
    refine IsN.nt ⟨t10, fun j hj => ?_, D0_n, fun k z1 z2 i hi => ?_⟩ F11
    · rw [g10, fl]
      rcases (show j = 0 ∨ j = 1 ∨ j = 2 by omega) with e | e | e <;> subst e <;> simp <;> rfl
    · by_cases e : k = 9
      · subst e
        have hi4 : i < 4 := hi
        rw [show m + lA 9 = m + 2 from rfl, show lO 9 + i = i from Nat.zero_add i, z10 i (by omega)]
        rcases (show i = 0 ∨ i = 1 ∨ i = 2 ∨ i = 3 by omega) with e | e | e | e <;> subst e <;> rfl
      · rw [bsz_g z1 z2, if_neg e] at hi
        exact absurd hi (Nat.not_lt_zero i)
  refine m_loop N11_ ?_ ?_ ?_ ?_ C11 ?_
  · rw [F11.i (by omega), g10, fl]; simp
  · rw [F11.i (by omega), g10, fl]; simp
  · rw [F11.i (by omega), g10, fl]; simp
  · rw [F11.i (by omega), g10, fl]; simp
  rintro N12 ⟨F12, t12, hf⟩
  have FA : Nlf m M N12 := F9.trans (F10.ne.trans ((F11.wide (by omega)).nw.ne.trans F12.ne))
  obtain ⟨N13, q13⟩ : ∃ z, z = sI N12 m 18 0 := ⟨_, rfl⟩
  have t13 : IsMo N13 m := by rw [q13]; exact t12.e rfl rfl
  have FB : Nlf m M N13 := FA.trans (by rw [q13]; exact Nlf.sI (by omega))
  have v13 : ∀ b j, ¬ (b = m ∧ j = 18) → mI N13 b j = mI N12 b j := fun b j z => by rw [q13, i_sI, if_neg z]
  rw [t12.p, bs, ← q13, t13.gi, bs, v13 m 25 (by omega)]
  rcases hf with ⟨f25, f26, fN, f0, f28⟩ | ⟨f25, f0, fc, f26⟩
  · rw [if_pos f25]
    have N13_ : IsN N13 m (rd tx.2 n 1201 D0 0 0 0).2.1 := by
      obtain ⟨b1, b2, b3, b4⟩ := fN
      refine ⟨t13, fun j hj => by rw [v13 _ _ (by omega)]; exact b2 j hj, b3, fun k z1 z2 i hi => ?_⟩
      have := lA_r k z2 z1
      rw [v13 _ _ (by omega)]; exact b4 k z1 z2 i hi
    have b8 : mI N13 m 28 = (rd tx.2 n 1201 D0 0 0 0).1 := by rw [v13 _ _ (by omega)]; exact f28
    have b6 : mI N13 m 26 = -1 := by rw [v13 _ _ (by omega)]; exact f26
    have b18 : mI N13 m 18 = 0 := by rw [q13, i_sI, if_pos ⟨rfl, rfl⟩]
    have b37 : mI N13 m 37 = mI M m 37 := FB.2.2.2.2 m 37 (by omega) (by omega) (by omega) (by omega) (by omega)
    obtain ⟨R, eR⟩ : ∃ R, R = rd tx.2 n 1201 D0 0 0 0 := ⟨_, rfl⟩
    rw [← eR] at N13_ b8 f0 ⊢
    refine cp_149 t13 fun N14 F14 z14 => cp_175 (t13.e F14.1 F14.r) fun N15 F15 z15 => cp_200 ((t13.e F14.1 F14.r).e F15.1 F15.r) fun N16 F16 z16 => ?_
    have t16 : IsMo N16 m := ((t13.e F14.1 F14.r).e F15.1 F15.r).e F16.1 F16.r
    have k16 : ∀ b j, b ≠ m + 1 → b ≠ m + 4 → b ≠ m + 5 → b ≠ m + 6 → mI N16 b j = mI N13 b j := fun b j y1 y2 y3 y4 => by
      rw [F16.i (by omega), F15.i (by omega), F14.i (by omega)]
    have r1 : ∀ j, j < 92 → mI N16 (m + 1) j = mI N13 (m + 2) j := fun j hj => by
      rw [F16.i (by omega), F15.i (by omega)]; exact z14 j hj
    have r4 : ∀ j, j < 4 → mI N16 (m + 4) j = mI N13 (m + 7) j := fun j hj => by
      rw [F16.i (by omega), z15 j hj, F14.i (by omega)]
    have r5 : ∀ j, j < 12 → mI N16 (m + 5) j = mI N13 (m + 8) j ∧ mI N16 (m + 6) j = mI N13 (m + 9) j := fun j hj => by
      rw [(z16 j hj).1, (z16 j hj).2, F15.i (by omega), F14.i (by omega), F15.i (by omega), F14.i (by omega)]
      exact ⟨rfl, rfl⟩
    dsimp only
    obtain ⟨N17, q17⟩ : ∃ z, z = sI N16 m 5 (mI N16 m 11) := ⟨_, rfl⟩
    have t17 : IsMo N17 m := by rw [q17]; exact t16.e rfl rfl
    obtain ⟨N18, q18⟩ : ∃ z, z = sI N17 m 6 (mI N17 m 12) := ⟨_, rfl⟩
    have t18 : IsMo N18 m := by rw [q18]; exact t17.e rfl rfl
    obtain ⟨N19, q19⟩ : ∃ z, z = sI N18 m 7 (mI N18 m 13) := ⟨_, rfl⟩
    have t19 : IsMo N19 m := by rw [q19]; exact t18.e rfl rfl
    obtain ⟨N20, q20⟩ : ∃ z, z = sI N19 m 3 0 := ⟨_, rfl⟩
    have t20 : IsMo N20 m := by rw [q20]; exact t19.e rfl rfl
    rw [t16.gi, bs, t16.p, bs, ← q17, t17.gi, bs, t17.p, bs, ← q18, t18.gi, bs, t18.p, bs, ← q19, t19.p, bs, ← q20, t20.gi, bs]
    have k20 : ∀ b j, ¬ (b = m ∧ (j = 3 ∨ j = 5 ∨ j = 6 ∨ j = 7)) → mI N20 b j = mI N16 b j := fun b j z => by
      rw [q20, i_sI, if_neg (by omega), q19, i_sI, if_neg (by omega), q18, i_sI, if_neg (by omega), q17, i_sI, if_neg (by omega)]
    have kk : ∀ j, ¬ (j = 3 ∨ j = 5 ∨ j = 6 ∨ j = 7) → mI N20 m j = mI N13 m j := fun j z => by
      rw [k20 _ _ (by omega), k16 _ _ (by omega) (by omega) (by omega) (by omega)]
    have FC : Fq m (m + 19) M N20 := by
      refine FB.fq.trans ((F14.q.wide (by omega) (by omega)).trans ((F15.q.wide (by omega) (by omega)).trans ((F16.q.wide (by omega) (by omega)).trans ?_)))
      rw [q20, q19, q18, q17]
      exact (Fq.sI ⟨by omega, by omega⟩).trans ((Fq.sI ⟨by omega, by omega⟩).trans ((Fq.sI ⟨by omega, by omega⟩).trans (Fq.sI ⟨by omega, by omega⟩)))
    rw [kk 28 (by omega), b8]
    refine ok.pure ⟨rfl, by rw [kk 18 (by omega)]; exact b18, by rw [kk 37 (by omega)]; exact b37, Or.inr ⟨f0, FC, by rw [kk 26 (by omega)]; exact b6, by rw [q20, i_sI, if_pos ⟨rfl, rfl⟩], ?_⟩⟩
    obtain ⟨-, c2, c3, c4⟩ := N13_
    have l0 := c3.2.1
    have l1 := c3.2.2.1
    have l2 := c3.2.2.2
    have row : ∀ k i, 1 ≤ k → k < 10 → i < bsz R.2.1 k → mI N13 (m + lA k) (lO k + i) = R.2.1 k i := fun k i z1 z2 z3 => c4 k z1 z2 i z3
    have z0 : ∀ i, 0 + i = i := Nat.zero_add
    refine ⟨t20, fun j hj => ?_, c3, fun d hd => ⟨?_, ?_⟩, fun d hd => ⟨?_, ?_, ?_⟩, fun d hd => ⟨?_, ?_, ?_⟩, fun d hd => ?_⟩
    · have key : mI N20 m (5 + j) = mI N13 m (11 + j) := by
        rcases (show j = 0 ∨ j = 1 ∨ j = 2 by omega) with e | e | e <;> subst e
        · rw [q20, i_sI, if_neg (by omega), q19, i_sI, if_neg (by omega), q18, i_sI, if_neg (by omega), q17, i_sI, if_pos ⟨rfl, rfl⟩, k16 _ _ (by omega) (by omega) (by omega) (by omega)]
        · rw [q20, i_sI, if_neg (by omega), q19, i_sI, if_neg (by omega), q18, i_sI, if_pos ⟨rfl, rfl⟩, q17, i_sI, if_neg (by omega), k16 _ _ (by omega) (by omega) (by omega) (by omega)]
        · rw [q20, i_sI, if_neg (by omega), q19, i_sI, if_pos ⟨rfl, rfl⟩, q18, i_sI, if_neg (by omega), q17, i_sI, if_neg (by omega), k16 _ _ (by omega) (by omega) (by omega) (by omega)]
      rw [key]; exact c2 j hj
    · rw [k20 _ _ (by omega), r4 d (by omega)]
      have := row 1 d (by omega) (by omega) hd
      rw [show lO 1 + d = d from z0 d] at this
      exact this
    · rw [k20 _ _ (by omega), r1 _ (by omega)]
      exact row 2 d (by omega) (by omega) hd
    · rw [k20 _ _ (by omega), (r5 d (by omega)).1]
      have := row 3 d (by omega) (by omega) hd
      rw [show lO 3 + d = d from z0 d] at this
      exact this
    · rw [k20 _ _ (by omega), r1 _ (by omega)]
      exact row 4 d (by omega) (by omega) hd
    · rw [k20 _ _ (by omega), (r5 d (by omega)).2]
      have := row 5 d (by omega) (by omega) hd
      rw [show lO 5 + d = d from z0 d] at this
      exact this
    · rw [k20 _ _ (by omega), r1 _ (by omega)]
      exact row 6 d (by omega) (by omega) hd
    · rw [k20 _ _ (by omega), r1 _ (by omega)]
      exact row 7 d (by omega) (by omega) hd
    · rw [k20 _ _ (by omega), r1 _ (by omega)]
      exact row 8 d (by omega) (by omega) hd
    · rw [k20 _ _ (by omega), r1 _ (by omega)]
      have := row 9 d (by omega) (by omega) hd
      rw [show lO 9 + d = d from z0 d] at this
      exact this
  · rw [if_neg f25, bs, fc]
    refine ok.pure ⟨rfl, ?_, ?_, Or.inl ⟨f0, FB, ?_⟩⟩
    · rw [q13, i_sI, if_pos ⟨rfl, rfl⟩]
    · exact FB.2.2.2.2 m 37 (by omega) (by omega) (by omega) (by omega) (by omega)
    · rw [v13 m 26 (by omega)]; exact f26
end
