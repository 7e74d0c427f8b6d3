/-! ===== changes: what is kept of them ===== -/
section
variable {M M' : Mem} {a b x m bb sb : Nat} {D D' : Bl} {hy : Hy}
def hdrop (h : Hy) : Hy := if h.1 = 10 then (9, fun j => h.2.1 (j + 1), fun j => h.2.2.1 (j + 1), fun j => h.2.2.2 (j + 1)) else h
def hpush (h : Hy) (D' : Bl) (k i : Nat) : Hy := (h.1 + 1, fun j => if j = h.1 + 1 then D' else h.2.1 j, fun j => if j = h.1 then k else h.2.2.1 j, fun j => if j = h.1 then i else h.2.2.2 j)
def hpop (h : Hy) : Hy := (h.1 - 1, h.2)
theorem hdrop_le (h : hy.1 ≤ 10) : (hdrop hy).1 ≤ 9 := by
  unfold hdrop
  split
  · exact Nat.le_refl _
  · omega
theorem hdrop_D (h : hy.2.1 hy.1 = D) : (hdrop hy).2.1 (hdrop hy).1 = D := by
  unfold hdrop
  split
  · rename_i e
    rw [e] at h
    exact h
  · exact h
theorem tl_self (hT : Tl D) : tl D = D := by
  funext k
  unfold tl rw_
  split
  · rename_i e
    subst e
    funext p
    exact (hT.1 p).symm
  · split
    · rename_i e
      subst e
      funext p
      exact (hT.2 p).symm
    · rfl
theorem krow_in {k : Nat} (hk : k < 6) : (k = 0 ∧ krow k = 2) ∨ (k = 1 ∧ krow k = 4) ∨ (k = 2 ∧ krow k = 6) ∨ (k = 3 ∧ krow k = 7) ∨ (k = 4 ∧ krow k = 8) ∨ (k = 5 ∧ krow k = 9) := by
  rcases (show k = 0 ∨ k = 1 ∨ k = 2 ∨ k = 3 ∨ k = 4 ∨ k = 5 by omega) with e | e | e | e | e | e <;> subst e
  · exact Or.inl ⟨rfl, rfl⟩
  · exact Or.inr (Or.inl ⟨rfl, rfl⟩)
  · exact Or.inr (Or.inr (Or.inl ⟨rfl, rfl⟩))
  · exact Or.inr (Or.inr (Or.inr (Or.inl ⟨rfl, rfl⟩)))
  · exact Or.inr (Or.inr (Or.inr (Or.inr (Or.inl ⟨rfl, rfl⟩))))
  · exact Or.inr (Or.inr (Or.inr (Or.inr (Or.inr ⟨rfl, rfl⟩))))
theorem tl_up2 (p q : Nat → Int32) {k i : Nat} {y : Int32} (hk : k < 10) : up (rw_ D p q) k i y = rw_ (up D k i y) p q := by
  funext a b
  unfold up rw_
  by_cases c : a = k ∧ b = i
  · rw [if_pos c, if_neg (by omega), if_neg (by omega)]
    exact (if_pos c).symm
  · rw [if_neg c]
    split
    · rfl
    · split
      · rfl
      · exact (if_neg c).symm
/-- a change taken back -/
theorem up_back {k i : Nat} {y : Int32} (hT : Tl D) (hk : k < 10) : D = tl (up (tl (up D k i y)) k i (D k i)) := by
  have e : up (tl (up D k i y)) k i (D k i) = rw_ D (bk (up D k i y)) (vt (up D k i y)) := by
    unfold tl
    rw [tl_up2 _ _ hk]
    congr 1
    funext a b
    unfold up
    by_cases c : a = k ∧ b = i
    · rw [if_pos c, c.1, c.2]
    · rw [if_neg c, if_neg c]
  rw [e, tl_rw, tl_self hT]
theorem Hv_push (hG : Gd D) (hT : Tl D) (hv : Hv D hy) {k i : Nat} (hk : k < 6) {y : Int32} (hi : i < bsz D (krow k)) : Hv (tl (up D (krow k) i y)) (hpush (hdrop hy) (tl (up D (krow k) i y)) k i) := by
  have kr := krow_in hk
  obtain ⟨v1, v2, v3⟩ := hv
  have d1 := hdrop_le v1
  have d2 := hdrop_D v2
  have d3 : ∀ j, j < (hdrop hy).1 → Gd ((hdrop hy).2.1 j) ∧ (hdrop hy).2.2.1 j < 6 ∧ (hdrop hy).2.2.2 j < bsz ((hdrop hy).2.1 (j + 1)) (krow ((hdrop hy).2.2.1 j)) ∧ (hdrop hy).2.1 j = tl (up ((hdrop hy).2.1 (j + 1)) (krow ((hdrop hy).2.2.1 j)) ((hdrop hy).2.2.2 j) ((hdrop hy).2.1 j (krow ((hdrop hy).2.2.1 j)) ((hdrop hy).2.2.2 j))) := by
    unfold hdrop
    split
    · intro j hj
      exact v3 (j + 1) (by
        have : j < 9 := hj
        omega)
    · exact v3
  generalize hdrop hy = h at d1 d2 d3 ⊢
  refine ⟨by show h.1 + 1 ≤ 10; omega, if_pos rfl, fun j hj => ?_⟩
  have hj' : j < h.1 + 1 := hj
  by_cases e : j = h.1
  · have z1 : (hpush h (tl (up D (krow k) i y)) k i).2.1 j = D := by
      show (if j = h.1 + 1 then _ else h.2.1 j) = D
      rw [if_neg (by omega), e, d2]
    have z2 : (hpush h (tl (up D (krow k) i y)) k i).2.1 (j + 1) = tl (up D (krow k) i y) := if_pos (by omega)
    have z3 : (hpush h (tl (up D (krow k) i y)) k i).2.2.1 j = k := if_pos e
    have z4 : (hpush h (tl (up D (krow k) i y)) k i).2.2.2 j = i := if_pos e
    rw [z1, z2, z3, z4]
    refine ⟨hG, hk, ?_, up_back hT (by omega)⟩
    show i < bsz (up D (krow k) i y) (krow k)
    rw [bsz_up (by omega)]
    exact hi
  · have z1 : (hpush h (tl (up D (krow k) i y)) k i).2.1 j = h.2.1 j := if_neg (by omega)
    have z2 : (hpush h (tl (up D (krow k) i y)) k i).2.1 (j + 1) = h.2.1 (j + 1) := if_neg (by omega)
    have z3 : (hpush h (tl (up D (krow k) i y)) k i).2.2.1 j = h.2.2.1 j := if_neg e
    have z4 : (hpush h (tl (up D (krow k) i y)) k i).2.2.2 j = h.2.2.2 j := if_neg e
    rw [z1, z2, z3, z4]
    exact d3 j (by omega)
/-! the class's history -/
theorem IsH.fi {lo hi : Nat} (h : IsH M a) (hF : Fi lo hi M M') : IsH M' a := ⟨by rw [hF.k]; exact h.1, by rw [hF.r]; exact h.2.1, by rw [hF.k]; exact h.2.2⟩
theorem IsH.c (h : IsH M a) : ck M a 3 = some () := ck_e h.1
theorem IsH.gi (h : IsH M a) (j : Nat) : gFI M a 3 j = some (mI M a j) := gFI_e h.1
theorem IsH.p (h : IsH M a) (j : Nat) (y : Int32) : pFI M a 3 j y = some (sI M a j y) := pFI_e h.1
theorem IsH.r0 (h : IsH M a) : gFR M a 3 0 = some (a + 1) := gFR_e h.1 h.2.1.1
theorem IsH.r1 (h : IsH M a) : gFR M a 3 1 = some (a + 2) := gFR_e h.1 h.2.1.2.1
theorem IsH.r2 (h : IsH M a) : gFR M a 3 2 = some (a + 3) := gFR_e h.1 h.2.1.2.2
theorem f_fgt (h : HX M a hy) (hl : hy.1 ≤ 10) : ok (if Int32.ofNat hy.1 = 10 then (ck M a 3 >>= fun _ => f_X3_forgetOldest M a >>= fun (o17 : Mem) => some o17) else (some M)) (fun M0 => Fi a (a + 4) M M0 ∧ HX M0 a (hdrop hy)) := by
  obtain ⟨s, c, r⟩ := h
  by_cases e : hy.1 = 10
  · have e2 : Int32.ofNat hy.1 = 10 := by rw [e]; rfl
    rw [if_pos e2, s.c, bs]
    unfold f_X3_forgetOldest
    obtain ⟨M1, g1⟩ : ∃ z, z = sI M a 3 9 := ⟨_, rfl⟩
    have F1 : Fi a (a + 4) M M1 := by rw [g1]; exact Fi.sI ⟨by omega, by omega⟩
    have s1 := s.fi F1
    have c1 : mI M1 a 3 = 9 := by rw [g1, i_sI, if_pos ⟨rfl, rfl⟩]
    have q1 : ∀ x j, x ≠ a → mI M1 x j = mI M x j := fun x j z => by rw [g1, i_sI, if_neg (by omega)]
    have w1 : cpI M1 (a + 1) 1 (a + 1) 0 9 = some (sC M1 (a + 1) 1 (a + 1) 0 9) := cpI_e (sp := 1) (dp := 0) (k := 9) (n := 10) (m := 10) s1.2.2.1 (Or.inl rfl) s1.2.2.1 (by omega) (by omega) (by omega) (by omega)
    obtain ⟨M2, g2⟩ : ∃ z, z = sC M1 (a + 1) 1 (a + 1) 0 9 := ⟨_, rfl⟩
    have F2 : Fi a (a + 4) M1 M2 := by
      rw [g2]
      exact ⟨rfl, rfl, rfl, rfl, fun b hb => by
        funext j
        rw [i_sC, if_neg (by omega)]⟩
    have s2 := s1.fi F2
    have q2 : ∀ x j, mI M2 x j = if x = a + 1 ∧ j < 9 then mI M1 (a + 1) (j + 1) else mI M1 x j := fun x j => by
      rw [g2, i_sC]
      by_cases z : x = a + 1 ∧ j < 9
      · rw [if_pos (by omega), if_pos z, show 1 + (j - 0) = j + 1 by omega]
      · rw [if_neg (by omega), if_neg z]
    have c2 : mI M2 a 3 = 9 := by rw [q2, if_neg (by omega), c1]
    have w2 : cpI M2 (a + 2) 1 (a + 2) 0 9 = some (sC M2 (a + 2) 1 (a + 2) 0 9) := cpI_e (sp := 1) (dp := 0) (k := 9) (n := 10) (m := 10) s2.2.2.2.1 (Or.inl rfl) s2.2.2.2.1 (by omega) (by omega) (by omega) (by omega)
    obtain ⟨M3, g3⟩ : ∃ z, z = sC M2 (a + 2) 1 (a + 2) 0 9 := ⟨_, rfl⟩
    have F3 : Fi a (a + 4) M2 M3 := by
      rw [g3]
      exact ⟨rfl, rfl, rfl, rfl, fun b hb => by
        funext j
        rw [i_sC, if_neg (by omega)]⟩
    have s3 := s2.fi F3
    have q3 : ∀ x j, mI M3 x j = if x = a + 2 ∧ j < 9 then mI M2 (a + 2) (j + 1) else mI M2 x j := fun x j => by
      rw [g3, i_sC]
      by_cases z : x = a + 2 ∧ j < 9
      · rw [if_pos (by omega), if_pos z, show 1 + (j - 0) = j + 1 by omega]
      · rw [if_neg (by omega), if_neg z]
    have c3 : mI M3 a 3 = 9 := by rw [q3, if_neg (by omega), c2]
    have w3 : cpI M3 (a + 3) 1 (a + 3) 0 9 = some (sC M3 (a + 3) 1 (a + 3) 0 9) := cpI_e (sp := 1) (dp := 0) (k := 9) (n := 10) (m := 10) s3.2.2.2.2 (Or.inl rfl) s3.2.2.2.2 (by omega) (by omega) (by omega) (by omega)
    obtain ⟨M4, g4⟩ : ∃ z, z = sC M3 (a + 3) 1 (a + 3) 0 9 := ⟨_, rfl⟩
    have F4 : Fi a (a + 4) M3 M4 := by
      rw [g4]
      exact ⟨rfl, rfl, rfl, rfl, fun b hb => by
        funext j
        rw [i_sC, if_neg (by omega)]⟩
    have s4 := s3.fi F4
    have q4 : ∀ x j, mI M4 x j = if x = a + 3 ∧ j < 9 then mI M3 (a + 3) (j + 1) else mI M3 x j := fun x j => by
      rw [g4, i_sC]
      by_cases z : x = a + 3 ∧ j < 9
      · rw [if_pos (by omega), if_pos z, show 1 + (j - 0) = j + 1 by omega]
      · rw [if_neg (by omega), if_neg z]
    rw [s.p, bs, ← g1, s1.r0, bs, bs, s1.gi, bs, c1, w1, bs, ← g2, s2.r1, bs, bs, s2.gi, bs, c2, w2, bs, ← g3, s3.r2, bs, bs, s3.gi, bs, c3, w3, bs, ← g4, bs]
    refine ok.pure ⟨F1.trans (F2.trans (F3.trans F4)), ?_⟩
    have eD : hdrop hy = (9, fun j => hy.2.1 (j + 1), fun j => hy.2.2.1 (j + 1), fun j => hy.2.2.2 (j + 1)) := if_pos e
    rw [eD]
    refine ⟨s4, ?_, fun j hj => ?_⟩
    · rw [q4, if_neg (by omega), c3]; rfl
    · have hj' : j < 9 := hj
      obtain ⟨r1, r2, r3⟩ := r (j + 1) (by omega)
      refine ⟨?_, ?_, ?_⟩
      · rw [q4, if_neg (by omega), q3, if_neg (by omega), q2, if_pos ⟨rfl, hj'⟩, q1 _ _ (by omega)]; exact r1
      · rw [q4, if_neg (by omega), q3, if_pos ⟨rfl, hj'⟩, q2, if_neg (by omega), q1 _ _ (by omega)]; exact r2
      · rw [q4, if_pos ⟨rfl, hj'⟩, q3, if_neg (by omega), q2, if_neg (by omega), q1 _ _ (by omega)]; exact r3
  · have e2 : ¬ Int32.ofNat hy.1 = 10 := by
      rw [show (10 : Int32) = Int32.ofNat 10 from rfl, i_inj (by omega) (by omega)]; exact e
    rw [if_neg e2]
    have eD : hdrop hy = hy := if_neg e
    rw [eD]
    exact ok.pure ⟨Fi.rf, s, c, r⟩
theorem f_row (h : IsBs M b) {k : Nat} (hk : k < 6) : f_X3_row M b (Int32.ofNat k) = some (b + krow k) := by
  unfold f_X3_row
  rcases (show k = 0 ∨ k = 1 ∨ k = 2 ∨ k = 3 ∨ k = 4 ∨ k = 5 by omega) with e | e | e | e | e | e <;> subst e
  · rw [if_pos rfl, h.r2]; rfl
  · rw [if_neg (by decide), if_pos rfl, h.r4]; rfl
  · rw [if_neg (by decide), if_neg (by decide), if_pos rfl, h.r6]; rfl
  · rw [if_neg (by decide), if_neg (by decide), if_neg (by decide), if_pos rfl, h.r7]; rfl
  · rw [if_neg (by decide), if_neg (by decide), if_neg (by decide), if_neg (by decide), if_pos rfl, h.r8]; rfl
  · rw [if_neg (by decide), if_neg (by decide), if_neg (by decide), if_neg (by decide), if_neg (by decide), h.r9]; rfl
theorem f_hch (hH : HX M a hy) (hB : IsB M b D) (hd : b + 12 ≤ a ∨ a + 4 ≤ b) (hl : hy.1 ≤ 10) (hc : hy.2.1 hy.1 = D) {k i : Nat} (hk : k < 6) (hi : i < bsz D (krow k)) (y : Int32) : ok (f_X3_change M a b (Int32.ofNat k) (Int32.ofNat i) y) (fun o => ∃ M1, Fi a (a + 4) M M1 ∧ HX M1 a (hpush (hdrop hy) D' k i) ∧ o = (D (krow k) i, sI M1 (b + krow k) i y)) := by
  have kr := krow_in hk
  have l0 := hB.n.2.1
  have l1 := hB.n.2.2.1
  have l2 := hB.n.2.2.2
  have ib : i < bln (krow k) := by
    rcases kr with ⟨-, e⟩ | ⟨-, e⟩ | ⟨-, e⟩ | ⟨-, e⟩ | ⟨-, e⟩ | ⟨-, e⟩ <;> rw [e] at hi ⊢
    · have : i < cn D 0 := hi
      show i < 4; omega
    · have : i < cn D 1 := hi
      show i < 12; omega
    · have : i < cn D 2 := hi
      show i < 24; omega
    · have : i < cn D 2 := hi
      show i < 24; omega
    · have : i < cn D 2 := hi
      show i < 24; omega
    · exact hi
  have b24 : bln (krow k) ≤ 24 := by
    rcases kr with ⟨-, e⟩ | ⟨-, e⟩ | ⟨-, e⟩ | ⟨-, e⟩ | ⟨-, e⟩ | ⟨-, e⟩ <;> rw [e] <;> decide
  unfold f_X3_change
  rw [hH.1.gi, hH.2.1, bs]
  refine ok.seq (f_fgt hH hl) ?_
  rintro M0 ⟨F0, s, c, r⟩
  have d1 := hdrop_le hl
  have d2 := hdrop_D hc
  have hB0 := hB.fi F0 (by omega)
  generalize hdrop hy = h at *
  have g := hB0.1.2 (krow k) (by omega) (by omega)
  have rd : aI M0 (b + krow k) (Int32.ofNat i) = some (D (krow k) i) := by
    rw [aI_e g.2 (Or.inl rfl) ib (by omega), hB0.2.2.2 (krow k) (by omega) (by omega) i hi]
  have w1 : wI M0 (a + 1) (Int32.ofNat h.1) (Int32.ofNat k) = some (sI M0 (a + 1) h.1 (Int32.ofNat k)) := wI_e s.2.2.1 (by omega) (by omega)
  obtain ⟨M1, g1⟩ : ∃ z, z = sI M0 (a + 1) h.1 (Int32.ofNat k) := ⟨_, rfl⟩
  have F1 : Fi a (a + 4) M0 M1 := by rw [g1]; exact Fi.sI ⟨by omega, by omega⟩
  have s1 := s.fi F1
  have c1 : mI M1 a 3 = Int32.ofNat h.1 := by rw [g1, i_sI, if_neg (by omega)]; exact c
  have w2 : wI M1 (a + 2) (Int32.ofNat h.1) (Int32.ofNat i) = some (sI M1 (a + 2) h.1 (Int32.ofNat i)) := wI_e s1.2.2.2.1 (by omega) (by omega)
  obtain ⟨M2, g2⟩ : ∃ z, z = sI M1 (a + 2) h.1 (Int32.ofNat i) := ⟨_, rfl⟩
  have F2 : Fi a (a + 4) M1 M2 := by rw [g2]; exact Fi.sI ⟨by omega, by omega⟩
  have s2 := s1.fi F2
  have c2 : mI M2 a 3 = Int32.ofNat h.1 := by rw [g2, i_sI, if_neg (by omega)]; exact c1
  have w3 : wI M2 (a + 3) (Int32.ofNat h.1) (D (krow k) i) = some (sI M2 (a + 3) h.1 (D (krow k) i)) := wI_e s2.2.2.2.2 (by omega) (by omega)
  obtain ⟨M3, g3⟩ : ∃ z, z = sI M2 (a + 3) h.1 (D (krow k) i) := ⟨_, rfl⟩
  have F3 : Fi a (a + 4) M2 M3 := by rw [g3]; exact Fi.sI ⟨by omega, by omega⟩
  have s3 := s2.fi F3
  have c3 : mI M3 a 3 = Int32.ofNat h.1 := by rw [g3, i_sI, if_neg (by omega)]; exact c2
  obtain ⟨M4, g4⟩ : ∃ z, z = sI M3 a 3 (Int32.ofNat (h.1 + 1)) := ⟨_, rfl⟩
  have F4 : Fi a (a + 4) M3 M4 := by rw [g4]; exact Fi.sI ⟨by omega, by omega⟩
  have s4 := s3.fi F4
  have F14 := F1.trans (F2.trans (F3.trans F4))
  have w5 : wI M4 (b + krow k) (Int32.ofNat i) y = some (sI M4 (b + krow k) i y) := wI_e (by rw [F14.k]; exact g.2) ib (by omega)
  rw [f_row hB0.1 hk, bs, rd, bs, s.r0, bs, s.gi, bs, c, w1, bs, ← g1, s1.r1, bs, s1.gi, bs, c1, w2, bs, ← g2, s2.r2, bs, s2.gi, bs, c2, w3, bs, ← g3, s3.gi, bs, c3, s3.p, bs, i_succ, ← g4, w5, bs]
  refine ok.pure ⟨M4, F0.trans F14, ⟨s4, ?_, fun j hj => ?_⟩, rfl⟩
  · rw [g4, i_sI, if_pos ⟨rfl, rfl⟩]; rfl
  · have hj' : j < h.1 + 1 := hj
    have p1 : mI M4 (a + 1) j = if j = h.1 then Int32.ofNat k else mI M0 (a + 1) j := by
      rw [g4, i_sI, if_neg (by omega), g3, i_sI, if_neg (by omega), g2, i_sI, if_neg (by omega), g1, i_sI]
      by_cases e : j = h.1
      · rw [if_pos ⟨rfl, e⟩, if_pos e]
      · rw [if_neg (fun z => e z.2), if_neg e]
    have p2 : mI M4 (a + 2) j = if j = h.1 then Int32.ofNat i else mI M0 (a + 2) j := by
      rw [g4, i_sI, if_neg (by omega), g3, i_sI, if_neg (by omega), g2, i_sI]
      by_cases e : j = h.1
      · rw [if_pos ⟨rfl, e⟩, if_pos e]
      · rw [if_neg (fun z => e z.2), if_neg e, g1, i_sI, if_neg (by omega)]
    have p3 : mI M4 (a + 3) j = if j = h.1 then D (krow k) i else mI M0 (a + 3) j := by
      rw [g4, i_sI, if_neg (by omega), g3, i_sI]
      by_cases e : j = h.1
      · rw [if_pos ⟨rfl, e⟩, if_pos e]
      · rw [if_neg (fun z => e z.2), if_neg e, g2, i_sI, if_neg (by omega), g1, i_sI, if_neg (by omega)]
    rw [p1, p2, p3]
    by_cases e : j = h.1
    · subst e
      have z1 : (hpush h D' k i).2.1 h.1 = D := by
        show (if h.1 = h.1 + 1 then _ else h.2.1 h.1) = D
        rw [if_neg (by omega), d2]
      have z3 : (hpush h D' k i).2.2.1 h.1 = k := if_pos rfl
      have z4 : (hpush h D' k i).2.2.2 h.1 = i := if_pos rfl
      rw [z1, z3, z4, if_pos rfl, if_pos rfl, if_pos rfl]
      exact ⟨rfl, rfl, rfl⟩
    · have z1 : (hpush h D' k i).2.1 j = h.2.1 j := if_neg (by omega)
      have z3 : (hpush h D' k i).2.2.1 j = h.2.2.1 j := if_neg e
      have z4 : (hpush h D' k i).2.2.2 j = h.2.2.2 j := if_neg e
      rw [z1, z3, z4, if_neg e, if_neg e, if_neg e]
      exact r j (by omega)
end
