/-! ===== changes: the reference ===== -/
section
variable {M M' M1 M2 : Mem} {x m : Nat} {D D' : Bl} {hy : Hy}
/-- the same but for ints at a place and a field -/
def Mr (m : Nat) (M M' : Mem) : Prop := mK M' = mK M ∧ mL M' = mL M ∧ mR M' = mR M ∧ mN M' = mN M ∧ ∀ x j, x ≠ m + 3 → ¬ (x = m ∧ j = 3) → mI M' x j = mI M x j
theorem Mr.rf : Mr m M M := ⟨rfl, rfl, rfl, rfl, fun _ _ _ _ => rfl⟩
theorem Mr.trans (h1 : Mr m M M1) (h2 : Mr m M1 M2) : Mr m M M2 := ⟨h2.1.trans h1.1, h2.2.1.trans h1.2.1, h2.2.2.1.trans h1.2.2.1, h2.2.2.2.1.trans h1.2.2.2.1, fun x j z1 z2 => (h2.2.2.2.2 x j z1 z2).trans (h1.2.2.2.2 x j z1 z2)⟩
theorem IsMo.mr (h : IsMo M m) (hF : Mr m M M') : IsMo M' m := h.e hF.1 hF.2.2.1
theorem IsM.mr (h : IsM M m D) (hF : Mr m M M') : IsM M' m D := h.up hF.1 hF.2.2.1 (fun j _ => hF.2.2.2.2 _ _ (by omega) (by omega)) (fun j => hF.2.2.2.2 _ _ (by omega) (by omega)) (fun j => hF.2.2.2.2 _ _ (by omega) (by omega)) (fun j => hF.2.2.2.2 _ _ (by omega) (by omega)) (fun j => hF.2.2.2.2 _ _ (by omega) (by omega))
theorem Mr.fq (h : Mr m M M') : Fq m (m + 19) M M' := ⟨h.1, h.2.2.2.1, fun a ha => ⟨funext fun j => h.2.2.2.2 a j (by omega) (by omega), by rw [h.2.1], by rw [h.2.2.1]⟩⟩
theorem q_drop (h : IsMo M m) (h3 : mI M m 3 = 10) : ok (it_ (bd_X9_remember_12 m fun (e15 : Int32 × Mem) => gFI e15.2 m 9 3 >>= fun (x22 : Int32) => pFI e15.2 m 9 3 (x22 - 1) >>= fun (M23 : Mem) => some M23) FU (92, M)) (fun M' => Mr m M M' ∧ mI M' m 3 = Int32.ofNat 9 ∧ ∀ j, j < 828 → mI M' (m + 3) j = mI M (m + 3) (j + 92)) := by
  refine it_r (I := fun i (u : Int32 × Mem) => u.1 = Int32.ofNat (92 + i) ∧ mK u.2 = mK M ∧ mL u.2 = mL M ∧ mR u.2 = mR M ∧ mN u.2 = mN M ∧ (∀ x j, x ≠ m + 3 → mI u.2 x j = mI M x j) ∧ ∀ j, mI u.2 (m + 3) j = if j < i then mI M (m + 3) (j + 92) else mI M (m + 3) j) 828 ⟨rfl, rfl, rfl, rfl, rfl, fun _ _ _ => rfl, fun j => (if_neg (Nat.not_lt_zero j)).symm⟩ (by omega) ?_ ?_
  · rintro rec i ⟨_, M1⟩ hi ⟨rfl, eK, eL, eR, eN, i1, i2⟩ hrec
    dsimp only at eK eL eR eN i1 i2
    have s1 : IsMo M1 m := h.e eK eR
    have rd : aI M1 (m + 3) (Int32.ofNat (92 + i)) = some (mI M (m + 3) (i + 92)) := by
      rw [s1.a2 (by omega), i2, if_neg (by omega), show 92 + i = i + 92 by omega]
    have sub : Int32.ofNat (92 + i) - 92 = Int32.ofNat i := by
      rw [show (92 : Int32) = Int32.ofNat 92 from rfl, i_sub (by omega), Nat.add_sub_cancel_left]
    unfold bd_X9_remember_12
    dsimp only
    rw [show (920 : Int32) = Int32.ofNat 920 from rfl, ile_n (by omega) (by omega), s1.r2, bs, bs, rd, bs, sub, s1.w2 (by omega), bs, i_succ]
    refine hrec _ ⟨rfl, eK, eL, eR, eN, fun x j z => ?_, fun j => ?_⟩
    · dsimp only
      rw [i_sI, if_neg (fun y => z y.1)]; exact i1 x j z
    · dsimp only
      rw [i_sI]
      by_cases z : j = i
      · subst z
        rw [if_pos ⟨rfl, rfl⟩, if_pos (by omega)]
      · rw [if_neg (fun y => z y.2), i2]
        by_cases z2 : j < i
        · rw [if_pos z2, if_pos (by omega)]
        · rw [if_neg z2, if_neg (by omega)]
  · rintro rec ⟨_, M1⟩ ⟨rfl, eK, eL, eR, eN, i1, i2⟩
    dsimp only at eK eL eR eN i1 i2
    have s1 : IsMo M1 m := h.e eK eR
    unfold bd_X9_remember_12
    dsimp only
    rw [show (920 : Int32) = Int32.ofNat (92 + 828) from rfl, ile_e, s1.gi, bs, i1 m 3 (by omega), h3, s1.p, bs]
    refine ok.pure ⟨⟨eK, eL, eR, eN, fun x j z1 z2 => ?_⟩, ?_, fun j hj => ?_⟩
    · rw [i_sI, if_neg z2]; exact i1 x j z1
    · rw [i_sI, if_pos ⟨rfl, rfl⟩]; rfl
    · rw [i_sI, if_neg (by omega), i2, if_pos hj]
theorem q_keep (h : IsMo M m) {c : Nat} (hc : c ≤ 9) (h3 : mI M m 3 = Int32.ofNat c) : ok (it_ (bd_X9_remember_52 m fun (e4 : Int32 × Mem) => gFI e4.2 m 9 3 >>= fun (x12 : Int32) => pFI e4.2 m 9 3 (x12 + 1) >>= fun (M13 : Mem) => some M13) FU (0, M)) (fun M' => Mr m M M' ∧ mI M' m 3 = Int32.ofNat (c + 1) ∧ (∀ j, j < 92 * c → mI M' (m + 3) j = mI M (m + 3) j) ∧ ∀ j, j < 92 → mI M' (m + 3) (92 * c + j) = mI M (m + 1) j) := by
  refine it_r (I := fun i (u : Int32 × Mem) => u.1 = Int32.ofNat i ∧ mK u.2 = mK M ∧ mL u.2 = mL M ∧ mR u.2 = mR M ∧ mN u.2 = mN M ∧ (∀ x j, x ≠ m + 3 → mI u.2 x j = mI M x j) ∧ (∀ j, j < 92 * c → mI u.2 (m + 3) j = mI M (m + 3) j) ∧ ∀ j, j < i → mI u.2 (m + 3) (92 * c + j) = mI M (m + 1) j) 92 ⟨rfl, rfl, rfl, rfl, rfl, fun _ _ _ => rfl, fun _ _ => rfl, fun j hj => absurd hj (Nat.not_lt_zero j)⟩ (by omega) ?_ ?_
  · rintro rec i ⟨_, M1⟩ hi ⟨rfl, eK, eL, eR, eN, i1, i2, i3⟩ hrec
    dsimp only at eK eL eR eN i1 i2 i3
    have s1 : IsMo M1 m := h.e eK eR
    have rd : aI M1 (m + 1) (Int32.ofNat i) = some (mI M (m + 1) i) := by
      rw [s1.a0 (by omega), i1 _ _ (by omega)]
    have ix_ : Int32.ofNat c * 92 + Int32.ofNat i = Int32.ofNat (92 * c + i) := by
      rw [show (92 : Int32) = Int32.ofNat 92 from rfl, i_mul, i_add, Nat.mul_comm]
    have c1 : mI M1 m 3 = Int32.ofNat c := by rw [i1 _ _ (by omega)]; exact h3
    unfold bd_X9_remember_52
    dsimp only
    rw [show (92 : Int32) = Int32.ofNat 92 from rfl, ile_n hi (by omega), s1.r2, bs, s1.gi, bs, s1.r0, bs, rd, bs, c1, show Int32.ofNat 92 = (92 : Int32) from rfl, ix_, s1.w2 (by omega), bs, i_succ]
    refine hrec _ ⟨rfl, eK, eL, eR, eN, fun x j z => ?_, fun j hj => ?_, fun j hj => ?_⟩
    · dsimp only
      rw [i_sI, if_neg (fun y => z y.1)]; exact i1 x j z
    · dsimp only
      rw [i_sI, if_neg (by omega)]; exact i2 j hj
    · dsimp only
      rw [i_sI]
      by_cases z : j = i
      · subst z
        rw [if_pos ⟨rfl, rfl⟩]
      · rw [if_neg (by omega)]; exact i3 j (by omega)
  · rintro rec ⟨_, M1⟩ ⟨rfl, eK, eL, eR, eN, i1, i2, i3⟩
    dsimp only at eK eL eR eN i1 i2 i3
    have s1 : IsMo M1 m := h.e eK eR
    have c1 : mI M1 m 3 = Int32.ofNat c := by rw [i1 _ _ (by omega)]; exact h3
    unfold bd_X9_remember_52
    dsimp only
    rw [show (92 : Int32) = Int32.ofNat 92 from rfl, ile_e, s1.gi, bs, c1, s1.p, bs, i_succ]
    refine ok.pure ⟨⟨eK, eL, eR, eN, fun x j z1 z2 => ?_⟩, ?_, fun j hj => ?_, fun j hj => ?_⟩
    · rw [i_sI, if_neg z2]; exact i1 x j z1
    · rw [i_sI, if_pos ⟨rfl, rfl⟩]
    · rw [i_sI, if_neg (by omega)]; exact i2 j hj
    · rw [i_sI, if_neg (by omega)]; exact i3 j hj
/-- what the reference keeps -/
def DH (M : Mem) (m : Nat) (hy : Hy) : Prop := mI M m 3 = Int32.ofNat hy.1 ∧ ∀ j, j < hy.1 → DA M (m + 3) (92 * j) (hy.2.1 j)
theorem DA.sh {a b o o2 : Nat} (h : DA M a o D) (hD : Cn D) (hI : ∀ j, j < 92 → mI M' b (o2 + j) = mI M a (o + j)) : DA M' b o2 D := by
  have l0 := hD.2.1
  have l1 := hD.2.2.1
  have l2 := hD.2.2.2
  exact ⟨fun d hd => by rw [hI _ (by omega)]; exact h.1 d hd, fun p hp => by rw [hI _ (by omega)]; exact h.2.1 p hp, fun v hv => by rw [hI _ (by omega), hI _ (by omega), hI _ (by omega)]; exact h.2.2.1 v hv, fun i hi => by rw [hI _ (by omega)]; exact h.2.2.2 i hi⟩
theorem IsM.da (h : IsM M m D) : DA M (m + 1) 0 D := by
  obtain ⟨a, b, c, d, e, f, g⟩ := h
  exact ⟨fun d' hd => by rw [Nat.zero_add]; exact (d d' hd).2, fun p hp => by rw [Nat.zero_add]; exact (e p hp).2.1, fun v hv => by rw [Nat.zero_add, Nat.zero_add, Nat.zero_add]; exact f v hv, fun i hi => by rw [Nat.zero_add]; exact g i hi⟩
theorem q_rem (h : IsM M m D) (hH : DH M m hy) (hv : Hv D hy) (k i : Nat) (D' : Bl) : ok (f_X9_remember M m) (fun M' => Mr m M M' ∧ DH M' m (hpush (hdrop hy) D' k i)) := by
  obtain ⟨v1, v2, v3⟩ := hv
  obtain ⟨h3, r⟩ := hH
  have d1 := hdrop_le v1
  have d2 := hdrop_D v2
  unfold f_X9_remember
  rw [h.s.gi, bs, h3]
  have st1 : ok (if Int32.ofNat hy.1 = 10 then (it_ (bd_X9_remember_12 m fun (e15 : Int32 × Mem) => gFI e15.2 m 9 3 >>= fun (x22 : Int32) => pFI e15.2 m 9 3 (x22 - 1) >>= fun (M23 : Mem) => some M23) FU (92, M)) else (some M)) (fun M' => Mr m M M' ∧ DH M' m (hdrop hy)) := by
    by_cases e : hy.1 = 10
    · have e2 : Int32.ofNat hy.1 = 10 := by rw [e]; rfl
      rw [if_pos e2]
      refine (q_drop h.s (h3.trans e2)).mono ?_
      rintro M1 ⟨F1, c1, q1⟩
      have eD : hdrop hy = (9, fun j => hy.2.1 (j + 1), fun j => hy.2.2.1 (j + 1), fun j => hy.2.2.2 (j + 1)) := if_pos e
      rw [eD]
      refine ⟨F1, c1, fun j hj => ?_⟩
      have hj' : j < 9 := hj
      refine (r (j + 1) (by omega)).sh (v3 (j + 1) (by omega)).1.n fun u hu => ?_
      rw [q1 _ (by omega), show 92 * j + u + 92 = 92 * (j + 1) + u by omega]
    · have e2 : ¬ Int32.ofNat hy.1 = 10 := by
        rw [show (10 : Int32) = Int32.ofNat 10 from rfl, i_inj (by omega) (by omega)]; exact e
      rw [if_neg e2]
      have eD : hdrop hy = hy := if_neg e
      rw [eD]
      exact ok.pure ⟨Mr.rf, h3, r⟩
  refine ok.seq st1 ?_
  rintro M1 ⟨F1, c1, r1⟩
  have cnn : ∀ j, j < (hdrop hy).1 → Cn ((hdrop hy).2.1 j) := by
    unfold hdrop
    split
    · rename_i e
      intro j hj
      have hj' : j < 9 := hj
      exact (v3 (j + 1) (by omega)).1.n
    · exact fun j hj => (v3 j hj).1.n
  have h1 := h.mr F1
  generalize hdrop hy = g at *
  refine (q_keep h1.s d1 c1).mono ?_
  rintro M2 ⟨F2, c2, q1, q2⟩
  refine ⟨F1.trans F2, c2, fun j hj => ?_⟩
  have hj' : j < g.1 + 1 := hj
  by_cases e : j = g.1
  · have z1 : (hpush g D' k i).2.1 j = D := by
      show (if j = g.1 + 1 then _ else g.2.1 j) = D
      rw [if_neg (by omega), e, d2]
    rw [z1, e]
    refine h1.da.sh h.n fun u hu => ?_
    rw [q2 u hu, Nat.zero_add]
  · have z1 : (hpush g D' k i).2.1 j = g.2.1 j := if_neg (by omega)
    rw [z1]
    exact (r1 j (by omega)).sh (cnn j (by omega)) fun u hu => q1 _ (by omega)
/-- the reference's frame of a change -/
def Mc (m : Nat) (M M' : Mem) : Prop := mK M' = mK M ∧ mL M' = mL M ∧ mR M' = mR M ∧ mN M' = mN M ∧ ∀ x j, x ≠ m + 1 → x ≠ m + 3 → ¬ (x = m ∧ j = 3) → mI M' x j = mI M x j
theorem q_change (h : IsM M m D) (hH : DH M m hy) (hv : Hv D hy) {k off i : Nat} (hk : k < 6) (ho : (krow k = 2 ∧ off = 4) ∨ (krow k = 4 ∧ off = 8) ∨ (krow k = 6 ∧ off = 20) ∨ (krow k = 7 ∧ off = 44) ∨ (krow k = 8 ∧ off = 68) ∨ (krow k = 9 ∧ off = 0)) (hi : i < bsz D (krow k)) (hb : off + i < 92) {c : Int32} (hc : c = Int32.ofNat (off + i)) (hold : aI M (m + 1) c = some (D (krow k) i)) (y : Int32) : ok (f_X9_change M m c y) (fun o => o.1 = D (krow k) i ∧ Mc m M o.2 ∧ IsM o.2 m (tl (up D (krow k) i y)) ∧ DH o.2 m (hpush (hdrop hy) (tl (up D (krow k) i y)) k i)) := by
  subst hc
  unfold f_X9_change
  rw [h.s.c, bs]
  refine ok.seq (q_rem h hH hv k i (tl (up D (krow k) i y))) ?_
  rintro M1 ⟨F1, H1⟩
  have h1 := h.mr F1
  rw [h.s.a0 hb] at hold
  have e1 := Option.some.inj hold
  have e2 : mI M1 (m + 1) (off + i) = D (krow k) i := by rw [F1.2.2.2.2 _ _ (by omega) (by omega)]; exact e1
  rw [h1.s.r0, bs, h1.s.a0 hb, bs, bs, h1.s.w0 hb, bs, e2]
  refine ok.pure ⟨rfl, ⟨F1.1, F1.2.1, F1.2.2.1, F1.2.2.2.1, fun x j z1 z2 z3 => ?_⟩, isM_tl (isM_cell h1 ho hi y), ?_, fun j hj => ?_⟩
  · dsimp only
    rw [i_sI, if_neg (fun q => z1 q.1)]; exact F1.2.2.2.2 x j z2 z3
  · dsimp only
    rw [i_sI, if_neg (by omega)]; exact H1.1
  · exact (H1.2 j hj).c (fun u => by
      show mI (sI M1 (m + 1) (off + i) y) (m + 3) u = _
      rw [i_sI, if_neg (by omega)])
end
