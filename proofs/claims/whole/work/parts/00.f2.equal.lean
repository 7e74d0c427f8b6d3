/-! ===== the class's EqualShares at e ===== -/
section
/-- the rounds at ra count, those at rb are the trial's -/
def IsEq (M : Mem) (e ra rb : Nat) : Prop := (mK M e).1 = 1 ∧ (mR M e 0 = some ra ∧ mR M e 1 = some rb ∧ mR M e 2 = some (e + 137) ∧ mR M e 3 = some (e + 153)) ∧ mK M (e + 153) = (20, 12) ∧ IsRs M (e + 1) ∧ IsRs M (e + 69) ∧ IsGr M (e + 137) ∧ ((ra = e + 1 ∧ rb = e + 69) ∨ (ra = e + 69 ∧ rb = e + 1))
theorem IsEq.fi {M M' : Mem} {e ra rb lo hi : Nat} (h : IsEq M e ra rb) (hF : Fi lo hi M M') : IsEq M' e ra rb := ⟨by rw [hF.k]; exact h.1, by rw [hF.r]; exact h.2.1, by rw [hF.k]; exact h.2.2.1, h.2.2.2.1.fi hF, h.2.2.2.2.1.fi hF, h.2.2.2.2.2.1.fi hF, h.2.2.2.2.2.2⟩
theorem IsEq.fq {M M' : Mem} {e ra rb lo hi : Nat} (h : IsEq M e ra rb) (hF : Fq lo hi M M') (hb : e + 154 ≤ lo ∨ hi ≤ e) : IsEq M' e ra rb := by
  obtain ⟨h1, ⟨a0, a1, a2, a3⟩, hk, h2, h3, h4, h5⟩ := h
  refine ⟨by rw [hF.1]; exact h1, ⟨?_, ?_, ?_, ?_⟩, by rw [hF.1]; exact hk, h2.fq hF (by omega), h3.fq hF (by omega), h4.fq hF (by omega), h5⟩
  · rw [hF.r (by omega)]; exact a0
  · rw [hF.r (by omega)]; exact a1
  · rw [hF.r (by omega)]; exact a2
  · rw [hF.r (by omega)]; exact a3
variable {M : Mem} {e ra rb b : Nat}
theorem IsEq.c (h : IsEq M e ra rb) : ck M e 1 = some () := ck_e h.1
theorem IsEq.gi (h : IsEq M e ra rb) (j : Nat) : gFI M e 1 j = some (mI M e j) := gFI_e h.1
theorem IsEq.p (h : IsEq M e ra rb) (j : Nat) (x : Int32) : pFI M e 1 j x = some (sI M e j x) := pFI_e h.1
theorem IsEq.r0 (h : IsEq M e ra rb) : gFR M e 1 0 = some ra := gFR_e h.1 h.2.1.1
theorem IsEq.r1 (h : IsEq M e ra rb) : gFR M e 1 1 = some rb := gFR_e h.1 h.2.1.2.1
theorem IsEq.r2 (h : IsEq M e ra rb) : gFR M e 1 2 = some (e + 137) := gFR_e h.1 h.2.1.2.2.1
theorem IsEq.r3 (h : IsEq M e ra rb) : gFR M e 1 3 = some (e + 153) := gFR_e h.1 h.2.1.2.2.2
theorem IsEq.a (h : IsEq M e ra rb) : IsRs M ra := by
  rcases h.2.2.2.2.2.2 with ⟨z, -⟩ | ⟨z, -⟩ <;> rw [z]
  · exact h.2.2.2.1
  · exact h.2.2.2.2.1
theorem IsEq.t (h : IsEq M e ra rb) : IsRs M rb := by
  rcases h.2.2.2.2.2.2 with ⟨-, z⟩ | ⟨-, z⟩ <;> rw [z]
  · exact h.2.2.2.2.1
  · exact h.2.2.2.1
theorem IsEq.g (h : IsEq M e ra rb) : IsGr M (e + 137) := h.2.2.2.2.2.1
theorem IsEq.in_ (h : IsEq M e ra rb) : e + 1 ≤ ra ∧ ra + 68 ≤ e + 137 ∧ e + 1 ≤ rb ∧ rb + 68 ≤ e + 137 ∧ (ra + 68 ≤ rb ∨ rb + 68 ≤ ra) := by
  rcases h.2.2.2.2.2.2 with ⟨z, z2⟩ | ⟨z, z2⟩ <;> omega
theorem IsEq.swap (h : IsEq M e ra rb) : f_X1_keepTrial M e = some (sR (sR M e 0 rb) e 1 ra) ∧ IsEq (sR (sR M e 0 rb) e 1 ra) e rb ra := by
  constructor
  · unfold f_X1_keepTrial
    have w1 : pFR M e 1 0 rb = some (sR M e 0 rb) := pFR_e h.1
    have w2 : pFR (sR M e 0 rb) e 1 1 ra = some (sR (sR M e 0 rb) e 1 ra) := pFR_e h.1
    simp only [h.r0, bs, h.r1, w1, w2]
  · have F : Fq e (e + 1) M (sR (sR M e 0 rb) e 1 ra) := (Fq.sR ⟨by omega, by omega⟩).trans (Fq.sR ⟨by omega, by omega⟩)
    refine ⟨h.1, ⟨?_, ?_, ?_, ?_⟩, h.2.2.1, h.2.2.2.1.fq F (by omega), h.2.2.2.2.1.fq F (by omega), h.2.2.2.2.2.1.fq F (by omega), ?_⟩
    · rw [r_sR, if_neg (by omega), r_sR, if_pos ⟨rfl, rfl⟩]
    · rw [r_sR, if_pos ⟨rfl, rfl⟩]
    · rw [r_sR, if_neg (by omega), r_sR, if_neg (by omega)]; exact h.2.1.2.2.1
    · rw [r_sR, if_neg (by omega), r_sR, if_neg (by omega)]; exact h.2.1.2.2.2
    · rcases h.2.2.2.2.2.2 with ⟨z, z2⟩ | ⟨z, z2⟩
      · exact Or.inr ⟨z2, z⟩
      · exact Or.inl ⟨z2, z⟩
variable {D : Bl}
/-- rounds with a raise, done -/
def RsP (M : Mem) (r : Nat) (D : Bl) (x : Int32) : Prop := RC M r D (rk D x (rt D x)) ∧ ∀ j, j ≤ rt D x → ∀ p, p < cn D 1 → mI M (r + 53 + p) j = pri D (rk D x j) p
theorem RsP.q {M' : Mem} {r lo hi : Nat} {x : Int32} (h : RsP M r D x) (hD : Cn D) (hF : Fq lo hi M M') (hb : r + 68 ≤ lo ∨ hi ≤ r) : RsP M' r D x := by
  have l1 := hD.2.2.1
  have l2 := hD.2.2.2
  obtain ⟨⟨a, b, c, d, f, g⟩, p⟩ := h
  exact ⟨⟨fun v hv d hd => by rw [hF.i (by omega)]; exact a v hv d hd, fun p hp v hv => by rw [hF.i (by omega)]; exact b p hp v hv, fun p hp d hd => by rw [hF.i (by omega)]; exact c p hp d hd, fun k hk => by rw [hF.i (by omega)]; exact d k hk, by rw [hF.i (by omega)]; exact f, by rw [hF.i (by omega)]; exact g⟩, fun j hj o ho => by rw [hF.i (by omega)]; exact p j hj o ho⟩
/-! overspends -/
def ovN (D : Bl) (s : Rst) (n : Nat) : Bool := fo (fun d a => a || !decide (sm 12 (fun p => sT s p d) ≤ D 2 d)) n false
def ov (D : Bl) (s : Rst) : Bool := ovN D s (cn D 0)
theorem ovN_s (s : Rst) (n : Nat) : ovN D s (n + 1) = (ovN D s n || !decide (sm 12 (fun p => sT s p n) ≤ D 2 n)) := rfl
theorem ovN_up {s : Rst} {n : Nat} (h : ovN D s n = true) (j : Nat) : ovN D s (n + j) = true := by
  induction j with
  | zero => exact h
  | succ j ih => rw [← Nat.add_assoc, ovN_s, ih]; rfl
theorem f_taken {r : Nat} (h : IsRs M r) {s : Rst} (hR : RC M r D s) {d : Nat} (hd : d < 4) : f_X6_takenFrom M r (Int32.ofNat d) = some (sm 12 fun p => sT s p d) := by
  unfold f_X6_takenFrom
  refine it_s (k := fun a => some a) 12 _ (by omega) (fun rec i a hi => ?_) (fun rec a => ?_)
  · unfold bd_X6_takenFrom_4
    simp only [show (12 : Int32) = Int32.ofNat 12 from rfl, ile_n hi (show 12 < 2147483648 by omega), h.r2, bs, h.q2 hi, h.a2 hi hd, hR.2.2.1 i hi d hd, ltq, i_succ]
  · unfold bd_X6_takenFrom_4
    simp only [show (12 : Int32) = Int32.ofNat 12 from rfl, ile_e]
theorem f_over {r : Nat} (h : IsRs M r) (hBl : IsB M b D) {s : Rst} (hR : RC M r D s) : f_X6_overspends M r b = some (b2i (ov D s)) := by
  have l0 := hBl.n.2.1
  refine eq_ok ?_
  unfold f_X6_overspends
  refine it_r (I := fun d (u : Int32) => u = Int32.ofNat d ∧ ovN D s d = false) (cn D 0) ⟨rfl, rfl⟩ hBl.n.m0 ?_ ?_
  · rintro rec d u hd ⟨rfl, h0⟩ hrec
    unfold bd_X6_overspends_2
    simp only [hBl.g0, bs, ile_n hd hBl.n.l0, h.c, f_taken h hR (show d < 4 by omega), hBl.s.r2, hBl.a2 hd]
    refine ok.ite (fun c => ?_) (fun c => ?_)
    · rw [i_succ]
      exact hrec _ ⟨rfl, by rw [ovN_s, h0, decide_eq_true c]; rfl⟩
    · have h1 : ovN D s (d + 1) = true := by rw [ovN_s, h0, decide_eq_false c]; rfl
      have h2 := ovN_up h1 (cn D 0 - (d + 1))
      rw [show d + 1 + (cn D 0 - (d + 1)) = cn D 0 by omega] at h2
      rw [isB1]
      refine ok.pure ?_
      unfold ov
      rw [h2]
  · rintro rec u ⟨rfl, h0⟩
    unfold bd_X6_overspends_2
    simp only [hBl.g0, bs, ile_e, isB0]
    refine ok.pure ?_
    unfold ov
    rw [h0]
/-! how often the purses are raised -/
def rsr (D : Bl) (k : Nat) : Int32 := Int32.ofNat (k * nt (D 9 2))
noncomputable def rs (D : Bl) (k : Nat) : Rst := rk D (rsr D k) (rt D (rsr D k))
noncomputable def gzS (D : Bl) (k : Nat) : Nat := if k < 60 ∧ ¬ (vo D &&& (sh_ (rs D k) ^^^ (-1))) = 0 ∧ ov D (rs D (k + 1)) = false then k + 1 else k
noncomputable def rzN (D : Bl) (n : Nat) : Nat := fo (fun _ k => gzS D k) n 0
theorem rzN_s (n : Nat) : rzN D (n + 1) = gzS D (rzN D n) := rfl
theorem rzN_stop {j : Nat} (h : rzN D j = j) (h2 : gzS D j = j) (n : Nat) : rzN D (j + n) = j := by
  induction n with
  | zero => exact h
  | succ n ih => rw [← Nat.add_assoc, rzN_s, ih, h2]
noncomputable def eqk (D : Bl) : Nat := if D 9 1 = 2 then rzN D 60 else 0
noncomputable def eqs (D : Bl) : Rst := rs D (eqk D)
theorem step_bd (hG : Gd D) {k : Nat} (hk : k ≤ 60) : k * nt (D 9 2) ≤ 60000 ∧ D 9 2 = Int32.ofNat (nt (D 9 2)) := by
  have h := hG.2.2.2.2.2.2.1
  have : nt (D 9 2) = (D 9 2).toInt.toNat := rfl
  have h2 := Nat.mul_le_mul hk (show nt (D 9 2) ≤ 1000 by omega)
  exact ⟨by omega, (nt_e (by omega)).symm⟩
/-! the completion -/
def cpL (D : Bl) (s : Rst) (d : Nat) : Int32 := D 2 d - sm 12 fun p => sT s p d
noncomputable def cmp (D : Bl) : Gst := if D 9 1 = 1 then (tk D (vo D &&& (sh_ (eqs D) ^^^ (-1))) (g0 (cpL D (eqs D))) (cn D 1)).2 else g0 (cpL D (eqs D))
theorem f_complete (h : IsEq M e ra rb) (hBl : IsB M b D) (hb : b + 12 ≤ e ∨ e + 154 ≤ b) (hG : Gd D) (hR : RsP M ra D (rsr D (eqk D))) : ok (f_X1_complete M e b) (fun M' => Fi (e + 137) (e + 153) M M' ∧ GC M' (e + 137) D (cmp D)) := by
  have l0 := hG.n.2.1
  have l1 := hG.n.2.2.1
  have hin := h.in_
  have e9 := hBl.a9 (i := 1) (by omega)
  unfold f_X1_complete
  simp only [h.r2, bs, h.g.c]
  refine ok.seq (f_begin h.g hBl (by omega)) ?_
  rintro M1 ⟨F1, C1⟩
  refine it_r (I := fun i (u : Int32 × Mem) => u.1 = Int32.ofNat i ∧ Fi (e + 137) (e + 153) M u.2 ∧ (∀ d, d < cn D 0 → mI u.2 (e + 138) d = if d < i then cpL D (eqs D) d else D 2 d) ∧ (∀ a, a ≠ e + 138 → mI u.2 a = mI M1 a)) (cn D 0) ⟨rfl, F1, fun d hd => by rw [if_neg (by omega)]; exact C1.1 d hd, fun _ _ => rfl⟩ hG.n.m0 ?_ ?_
  · rintro rec i ⟨y, M2⟩ hi ⟨rfl, F2, z, za⟩ hrec
    dsimp only at F2 z za
    have h2 := h.fi F2
    have hBl2 := hBl.fi F2 (by omega)
    have hR2 := hR.q hG.n F2.q (by omega)
    have e1 := h2.g.a0 (d := i) (by omega)
    rw [show e + 137 + 1 = e + 138 from rfl, z i hi, if_neg (by omega)] at e1
    unfold bd_X1_complete_10
    simp only [hBl2.g0, bs, ile_n hi hG.n.l0, h2.r2, h2.g.r0, e1, h2.r0, h2.a.c, f_taken h2.a hR2.1 (show i < 4 by omega), h2.g.w0 (show i < 4 by omega), i_succ]
    refine hrec _ ⟨rfl, F2.trans (Fi.sI ⟨by omega, by omega⟩), fun d hd => ?_, fun a ha => ?_⟩
    · show mI (sI _ _ _ _) (e + 138) d = _
      rw [i_sI]
      by_cases c : d = i
      · subst c
        rw [if_pos ⟨rfl, rfl⟩, if_pos (by omega)]
        rfl
      · rw [if_neg (by omega), z d hd]
        by_cases c2 : d < i
        · rw [if_pos c2, if_pos (by omega)]
        · rw [if_neg c2, if_neg (by omega)]
    · show mI (sI _ _ _ _) a = _
      rw [← za a ha]
      funext k
      rw [i_sI, if_neg (by omega)]
  · rintro rec ⟨y, M2⟩ ⟨rfl, F2, z, za⟩
    dsimp only at F2 z za
    have h2 := h.fi F2
    have hBl2 := hBl.fi F2 (by omega)
    have hR2 := hR.q hG.n F2.q (by omega)
    have e92 := hBl2.a9 (i := 1) (by omega)
    rw [show Int32.ofNat 1 = (1 : Int32) from rfl] at e92
    have C2 : GC M2 (e + 137) D (g0 (cpL D (eqs D))) := by
      have q : ∀ a, a ≠ e + 138 → ∀ k, mI M2 a k = mI M1 a k := fun a ha k => congrFun (za a ha) k
      refine ⟨fun d hd => by rw [show e + 137 + 1 = e + 138 from rfl, z d hd, if_pos hd]; rfl, fun p hp d hd => ?_, fun k hk => absurd hk (Nat.not_lt_zero k), ?_, ?_⟩
      · rw [q _ (by omega)]; exact C1.2.1 p hp d hd
      · rw [q _ (by omega)]; exact C1.2.2.2.1
      · rw [q _ (by omega)]; exact C1.2.2.2.2
    unfold bd_X1_complete_10
    simp only [hBl2.g0, bs, ile_e, hBl2.s.r9, e92]
    refine ok.iteB (fun c => ?_) (fun c => ?_)
    · have e8 : mI M2 ra 8 = sh_ (eqs D) := hR2.1.2.2.2.2.2
      simp only [h2.r2, bs, hBl2.c, f_vo hBl2, h2.r0, h2.a.g, e8, h2.g.c]
      refine ok.bind (ok.seq (f_take h2.g hBl2 (by omega) hG C2 rfl _) ?_)
      rintro M3 ⟨F3, C3⟩
      refine ok.pure (ok.pure ⟨F2.trans F3, ?_⟩)
      unfold cmp
      rw [if_pos c]
      exact C3
    · rw [bs]
      refine ok.pure ⟨F2, ?_⟩
      unfold cmp
      rw [if_neg c]
      exact C2
/-- what EQUAL leaves behind -/
def EC (M : Mem) (e : Nat) (D : Bl) : Prop := ∃ ra rb, IsEq M e ra rb ∧ RsP M ra D (rsr D (eqk D)) ∧ GC M (e + 137) D (cmp D) ∧ (∀ p, p < cn D 1 → mI M (e + 153) p = pri D (rk D 0 0) p) ∧ mI M e 4 = Int32.ofNat (eqk D) ∧ mI M e 5 = sh_ (rs D 0)
theorem f_edecide (h : IsEq M e ra rb) (hBl : IsB M b D) (hb : b + 12 ≤ e ∨ e + 154 ≤ b) (hG : Gd D) (hT : Tl D) : ok (f_X1_decide M e b) (fun M' => Fq e (e + 154) M M' ∧ EC M' e D) := by
  have l0 := hG.n.2.1
  have l1 := hG.n.2.2.1
  have hin := h.in_
  unfold f_X1_decide
  simp only [h.r0, bs, h.a.c]
  refine ok.seq (f_run (x := 0) h.a hBl (by omega) hG hT (by omega)) ?_
  rintro M1 ⟨F1, R1, P1⟩
  have rs0 : rsr D 0 = Int32.ofNat 0 := by unfold rsr; rw [Nat.zero_mul]
  have h1 := h.fi F1
  have F2 : Fi e (e + 1) M1 (sI M1 e 4 0) := Fi.sI ⟨by omega, by omega⟩
  have h2 := h1.fi F2
  have e8 : mI (sI M1 e 4 0) ra 8 = sh_ (rs D 0) := by
    rw [F2.i (by omega)]
    unfold rs
    rw [rs0]
    exact R1.2.2.2.2.2
  have F3 : Fi e (e + 1) (sI M1 e 4 0) (sI (sI M1 e 4 0) e 5 (sh_ (rs D 0))) := Fi.sI ⟨by omega, by omega⟩
  simp only [h1.p, bs, h2.r0, h2.a.g, e8, h2.p]
  have e4 : mI (sI (sI M1 e 4 0) e 5 (sh_ (rs D 0))) e 4 = 0 := by rw [i_sI, if_neg (by omega), i_sI, if_pos ⟨rfl, rfl⟩]
  have e5 : mI (sI (sI M1 e 4 0) e 5 (sh_ (rs D 0))) e 5 = sh_ (rs D 0) := by rw [i_sI, if_pos ⟨rfl, rfl⟩]
  have F13 : Fi e (e + 154) M (sI (sI M1 e 4 0) e 5 (sh_ (rs D 0))) := (F1.wide (by omega) (by omega)).trans ((F2.wide (by omega) (by omega)).trans (F3.wide (by omega) (by omega)))
  have R3 : RsP (sI (sI M1 e 4 0) e 5 (sh_ (rs D 0))) ra D (Int32.ofNat 0) := (show RsP M1 ra D (Int32.ofNat 0) from ⟨R1, P1⟩).q hG.n (F2.q.trans F3.q) (by omega)
  generalize hM3 : sI (sI M1 e 4 0) e 5 (sh_ (rs D 0)) = M3 at *
  refine it_r (I := fun i (u : Int32 × Mem) => u.1 = Int32.ofNat i ∧ Fi e (e + 154) M u.2 ∧ Fi (e + 153) (e + 154) M3 u.2 ∧ ∀ p, p < i → mI u.2 (e + 153) p = pri D (rk D 0 0) p) (cn D 1) ⟨rfl, F13, Fi.rf, fun p hp => absurd hp (Nat.not_lt_zero p)⟩ hG.n.m1 ?_ ?_
  · rintro rec i ⟨y, M4⟩ hi ⟨rfl, F4, F5, z⟩ hrec
    dsimp only at F4 F5 z
    have h4 := h.fi F4
    have hBl4 := hBl.fi F4 hb
    have R4 := R3.q hG.n F5.q (by omega)
    have a3 := h4.a.a3 (p := i) (k := 0) (by omega) (by omega)
    rw [R4.2 0 (Nat.zero_le _) i hi] at a3
    unfold bd_X1_decide_27
    rw [z9]
    have w : wI M4 (e + 153) (Int32.ofNat i) (pri D (rk D (Int32.ofNat 0) 0) i) = some (sI M4 (e + 153) i (pri D (rk D (Int32.ofNat 0) 0) i)) := wI_e h4.2.2.1 (by omega) (by omega)
    simp only [hBl4.g1, bs, ile_n hi hG.n.l1, h4.r3, h4.r0, h4.a.r3, h4.a.q3 (show i < 12 by omega), a3, w, i_succ]
    refine hrec _ ⟨rfl, F4.trans (Fi.sI ⟨by omega, by omega⟩), F5.trans (Fi.sI ⟨by omega, by omega⟩), fun p hp => ?_⟩
    show mI (sI _ _ _ _) (e + 153) p = _
    rw [i_sI]
    by_cases c : p = i
    · subst c; rw [if_pos ⟨rfl, rfl⟩]; rfl
    · rw [if_neg (by omega)]; exact z p (by omega)
  · rintro rec ⟨y, M4⟩ ⟨rfl, F4, F5, z⟩
    dsimp only at F4 F5 z
    have h4 := h.fi F4
    have hBl4 := hBl.fi F4 hb
    have R4 := R3.q hG.n F5.q (by omega)
    have a9 := hBl4.a9 (i := 1) (by omega)
    rw [show Int32.ofNat 1 = (1 : Int32) from rfl] at a9
    unfold bd_X1_decide_27
    simp only [hBl4.g1, bs, ile_e, hBl4.s.r9, a9, hBl4.c, f_vo hBl4, is_]
    generalize hw : (if D 9 1 = 2 then vo D else 0) = want
    -- what is left when the raises end
    have cont : ∀ (M5 : Mem) (ra rb : Nat), Fq e (e + 154) M M5 → IsEq M5 e ra rb → RsP M5 ra D (rsr D (eqk D)) → (∀ p, p < cn D 1 → mI M5 (e + 153) p = pri D (rk D 0 0) p) → mI M5 e 4 = Int32.ofNat (eqk D) → mI M5 e 5 = sh_ (rs D 0) → ok (ck M5 e 1 >>= fun _ => f_X1_complete M5 e b >>= fun (o35 : Mem) => some o35) (fun M' => Fq e (e + 154) M M' ∧ EC M' e D) := by
      intro M5 ra rb F h5 R5 z5 q4 q5
      have hin5 := h5.in_
      have hBl5 := hBl.fq F hb
      rw [h5.c, bs]
      refine ok.seq (f_complete h5 hBl5 hb hG R5) ?_
      rintro M6 ⟨F6, C6⟩
      refine ok.pure ⟨F.trans (F6.q.wide (by omega) (by omega)), ra, rb, h5.fi F6, R5.q hG.n F6.q (by omega), C6, fun p hp => ?_, ?_, ?_⟩
      · rw [F6.i (by omega)]; exact z5 p hp
      · rw [F6.i (by omega)]; exact q4
      · rw [F6.i (by omega)]; exact q5
    refine it_r (I := fun j (u : Int32 × Mem) => ∃ ra rb, u.1 = Int32.ofNat (j + 1) ∧ Fq e (e + 154) M u.2 ∧ IsEq u.2 e ra rb ∧ RsP u.2 ra D (rsr D j) ∧ (∀ p, p < cn D 1 → mI u.2 (e + 153) p = pri D (rk D 0 0) p) ∧ mI u.2 e 4 = Int32.ofNat j ∧ mI u.2 e 5 = sh_ (rs D 0) ∧ rzN D j = j ∧ (j = 0 ∨ D 9 1 = 2)) 60 ⟨ra, rb, rfl, F4.q, h4, by rw [rs0]; exact R4, z, by rw [F5.i (by omega)]; exact e4, by rw [F5.i (by omega)]; exact e5, rfl, Or.inl rfl⟩ (by omega) ?_ ?_
    · rintro rec j ⟨y, M5⟩ hj ⟨ra, rb, rfl, F, h5, R5, z5, q4, q5, hz, hj0⟩ hrec
      dsimp only at F h5 R5 z5 q4 q5
      have hin5 := h5.in_
      have hBl5 := hBl.fq F hb
      have e85 : mI M5 ra 8 = sh_ (rs D j) := R5.1.2.2.2.2.2
      have stop : gzS D j = j ∨ D 9 1 ≠ 2 → eqk D = j := fun hs => by
        unfold eqk
        rcases hs with hs | hs
        · by_cases c : D 9 1 = 2
          · rw [if_pos c]
            have := rzN_stop hz hs (60 - j)
            rw [show j + (60 - j) = 60 by omega] at this
            exact this
          · rw [if_neg c]
            rcases hj0 with q | q
            · exact q.symm
            · exact absurd q c
        · rw [if_neg hs]
          rcases hj0 with q | q
          · exact q.symm
          · exact absurd q hs
      unfold bd_X1_decide_79
      have t1 : ¬ (60 : Int32) < Int32.ofNat (j + 1) := by
        rw [show (60 : Int32) = Int32.ofNat 60 from rfl, i_lt (by omega) (by omega)]; omega
      simp only [if_neg t1, h5.r0, bs, h5.a.g, e85]
      refine ok.ite (fun c => ?_) (fun c => ?_)
      · have ek : eqk D = j := stop (by
          by_cases c2 : D 9 1 = 2
          · left
            rw [if_pos c2] at hw
            rw [← hw] at c
            unfold gzS
            rw [if_neg (fun q => q.2.1 c)]
          · exact Or.inr c2)
        exact cont M5 ra rb F h5 (by rw [ek]; exact R5) z5 (by rw [ek]; exact q4) q5
      · have c2 : D 9 1 = 2 := by
          by_cases c2 : D 9 1 = 2
          · exact c2
          · rw [if_neg c2] at hw
            rw [← hw] at c
            exact absurd (by rw [Int32.zero_and]) c
        rw [if_pos c2] at hw
        rw [← hw] at c
        have a92 := hBl5.a9 (i := 2) (by omega)
        rw [show Int32.ofNat 2 = (2 : Int32) from rfl] at a92
        obtain ⟨sb, se⟩ := step_bd hG (show j + 1 ≤ 60 by omega)
        rw [se] at a92
        have hraise : Int32.ofNat (j + 1) * Int32.ofNat (nt (D 9 2)) = rsr D (j + 1) := i_mul _ _
        simp only [h5.r1, bs, hBl5.s.r9, a92, h5.t.c, hraise]
        refine ok.seq (f_run (x := (j + 1) * nt (D 9 2)) h5.t hBl5 (by omega) hG hT sb) ?_
        rintro M6 ⟨F6, R6, P6⟩
        have h6 := h5.fi F6
        have hBl6 := hBl5.fi F6 (by omega)
        have F06 : Fq e (e + 154) M M6 := F.trans (F6.q.wide (by omega) (by omega))
        have R6' : RsP M6 rb D (rsr D (j + 1)) := ⟨R6, P6⟩
        have R6a : RsP M6 ra D (rsr D j) := R5.q hG.n F6.q (by omega)
        simp only [h6.r1, bs, h6.t.c, f_over h6.t hBl6 R6'.1, b2i_ite]
        rw [show rk D (rsr D (j + 1)) (rt D (rsr D (j + 1))) = rs D (j + 1) from rfl]
        refine ok.ite (fun co => ?_) (fun co => ?_)
        · have ek : eqk D = j := stop (Or.inl (by
            unfold gzS
            rw [if_neg (fun q => by rw [q.2.2] at co; exact Bool.noConfusion co)]))
          exact cont M6 ra rb F06 h6 (by rw [ek]; exact R6a) (fun p hp => by rw [F6.i (by omega)]; exact z5 p hp) (by rw [ek, F6.i (by omega)]; exact q4) (by rw [F6.i (by omega)]; exact q5)
        · obtain ⟨k1, k2⟩ := h6.swap
          have FS : Fq e (e + 1) M6 (sR (sR M6 e 0 rb) e 1 ra) := (Fq.sR ⟨by omega, by omega⟩).trans (Fq.sR ⟨by omega, by omega⟩)
          have F7 : Fi e (e + 1) (sR (sR M6 e 0 rb) e 1 ra) (sI (sR (sR M6 e 0 rb) e 1 ra) e 4 (Int32.ofNat (j + 1))) := Fi.sI ⟨by omega, by omega⟩
          have h7 := k2.fi F7
          rw [h6.c, bs, k1, bs, k2.p, bs, i_succ]
          have hz1 : rzN D (j + 1) = j + 1 := by
            rw [rzN_s, hz]
            unfold gzS
            rw [if_pos ⟨hj, c, by rw [Bool.not_eq_true] at co; exact co⟩]
          refine hrec _ ⟨rb, ra, rfl, F06.trans ((FS.wide (by omega) (by omega)).trans (F7.q.wide (by omega) (by omega))), h7, R6'.q hG.n (FS.trans F7.q) (by omega), fun p hp => ?_, ?_, ?_, hz1, Or.inr c2⟩
          · show mI (sI (sR (sR M6 e 0 rb) e 1 ra) e 4 (Int32.ofNat (j + 1))) (e + 153) p = _
            rw [F7.i (by omega), i_sR, i_sR, F6.i (by omega)]; exact z5 p hp
          · show mI (sI (sR (sR M6 e 0 rb) e 1 ra) e 4 (Int32.ofNat (j + 1))) e 4 = _
            rw [i_sI, if_pos ⟨rfl, rfl⟩]
          · show mI (sI (sR (sR M6 e 0 rb) e 1 ra) e 4 (Int32.ofNat (j + 1))) e 5 = _
            rw [i_sI, if_neg (by omega), i_sR, i_sR, F6.i (by omega)]; exact q5
    · rintro rec ⟨y, M5⟩ ⟨ra, rb, rfl, F, h5, R5, z5, q4, q5, hz, hj0⟩
      dsimp only at F h5 R5 z5 q4 q5
      have c2 : D 9 1 = 2 := by
        rcases hj0 with q | q
        · omega
        · exact q
      have ek : eqk D = 60 := by
        unfold eqk
        rw [if_pos c2]
        exact hz
      unfold bd_X1_decide_79
      have t1 : (60 : Int32) < Int32.ofNat (60 + 1) := by
        rw [show (60 : Int32) = Int32.ofNat 60 from rfl, i_lt (by omega) (by omega)]; omega
      simp only [if_pos t1]
      exact cont M5 ra rb F h5 (by rw [ek]; exact R5) z5 (by rw [ek]; exact q4) q5
end
