/-! ===== what the rules fund; joys, claims ===== -/
section
noncomputable def SS (D : Bl) (r : Int32) : Int32 := if r = 0 then sh_ (eqs D) ||| gh (cmp D) else if r = 1 then gh (grd D) else bst D 0
theorem SS_0 (D : Bl) : SS D 0 = sh_ (eqs D) ||| gh (cmp D) := if_pos rfl
theorem SS_1 (D : Bl) : SS D 1 = gh (grd D) := (if_neg (by decide)).trans (if_pos rfl)
theorem SS_2 (D : Bl) : SS D 2 = bst D 0 := (if_neg (by decide)).trans (if_neg (by decide))
abbrev isR (r : Int32) : Prop := r = 0 ∨ r = 1 ∨ r = 2
def s00 : Rst := (fun _ _ => 0, fun _ _ => 0, fun _ _ => 0, fun _ => 0, 0, 0)
variable {M : Mem} {m : Nat} {D : Bl}
theorem s00_Iv (hD : Cn D) : Iv D s00 := by
  have l1 := hD.2.2.1
  refine ⟨fun v hv d hd => ⟨(by decide : (0 : Int) ≤ (0 : Int32).toInt), (by decide : (0 : Int32).toInt ≤ 160000)⟩, ?_, fun i hi z => ?_, fun k hk => absurd hk (Nat.not_lt_zero k), fun p hp z => ?_⟩
  · have : ctB 0 (cn D 1) = 0 := sN_0 fun i hi => by rw [hs_0 (by omega)]; rfl
    exact this.symm
  · have z' : hs 0 (Int32.ofNat i) = true := z
    rw [hs_0 hi] at z'
    exact Bool.noConfusion z'
  · have z' : hs 0 (Int32.ofNat p) = true := z
    rw [hs_0 (by omega)] at z'
    exact Bool.noConfusion z'
theorem m_run1 (h : IsM M m D) (hG : Gd D) (hT : Tl D) : ok (f_X9_clearResult M m >>= fun (o3 : Mem) => ck o3 m 9 >>= fun _ => f_X9_greedily o3 m) (fun M' => Mf m M M' ∧ MG M' m D s00 (grd D)) := by
  have l0 := hG.n.2.1
  have l1 := hG.n.2.2.1
  refine ok.seq (m_clear h.s) ?_
  rintro M1 ⟨F1, z30, z31, z13, z14, z15, z16⟩
  have h1 := h.mf F1
  have M0 : MG M1 m D s00 (g0 (D 2)) := by
    refine ⟨fun d hd => by rw [z16 d (by omega), Int32.sub_zero]; rfl, fun p hp d hd => by rw [z15 _ (by omega)]; rfl, fun k hk => absurd hk (Nat.not_lt_zero k), z31, z30.trans (show (0 : Int32) = 0 ||| 0 from rfl)⟩
  rw [h1.s.c, bs]
  refine (m_greedily h1 hG hT (s00_Iv hG.n) (fun _ _ _ => ⟨fun _ => rfl, fun _ => rfl⟩) M0).mono ?_
  rintro M2 ⟨F2, -, -, -, R2⟩
  refine ⟨F1.trans F2, ?_⟩
  have e : vo D &&& (sh_ s00 ^^^ (-1)) = vo D := by
    show vo D &&& (0 ^^^ (-1)) = vo D
    rw [show (0 : Int32) ^^^ (-1) = -1 from rfl, Int32.and_neg_one]
  rw [e] at R2
  exact R2
theorem m_runs (h : IsM M m D) (hG : Gd D) (hT : Tl D) (hL : mI M m 37 = 12) {r : Int32} (hr : isR r) : ok (f_X9_runs M m r) (fun o => o.1 = 1 ∧ Mq m M o.2 ∧ mI o.2 m 30 = SS D r ∧ (r = 0 → MEQ o.2 m D) ∧ (r = 1 → MG o.2 m D s00 (grd D)) ∧ (r = 2 → MB o.2 m D (bst D 0))) := by
  unfold f_X9_runs
  rcases hr with e | e | e <;> subst e
  · rw [if_pos (show (0 : Int32) = Int32.ofNat 0 from rfl), h.s.c, bs]
    refine ok.seq (m_equal h hG hT hL) ?_
    rintro M1 ⟨F1, R1⟩
    rw [isB1, bs]
    exact ok.pure ⟨rfl, F1.q, by rw [SS_0]; exact R1.2.2.2.1.2.2.2.2, fun _ => R1, fun z => absurd z (by decide), fun z => absurd z (by decide)⟩
  · rw [if_neg (by decide), if_pos (show (1 : Int32) = Int32.ofNat 1 from rfl), h.s.c, bs]
    obtain ⟨M2, e2, F2, R2⟩ := m_run1 h hG hT
    have key : (f_X9_clearResult M m >>= fun (o3 : Mem) => ck o3 m 9 >>= fun _ => f_X9_greedily o3 m >>= fun (o4 : Mem) => isB 1 >>= fun (z : Int32) => some (z, o4)) = ((f_X9_clearResult M m >>= fun (o3 : Mem) => ck o3 m 9 >>= fun _ => f_X9_greedily o3 m) >>= fun (o4 : Mem) => isB 1 >>= fun (z : Int32) => some (z, o4)) := by
      cases f_X9_clearResult M m with
      | none => rfl
      | some o3 =>
        rw [bs, bs]
        cases ck o3 m 9 with
        | none => rfl
        | some u => rfl
    rw [key, e2, bs, isB1, bs]
    exact ok.pure ⟨rfl, F2.g.q, by rw [SS_1]; exact R2.2.2.2.2.trans Int32.zero_or, fun z => absurd z (by decide), fun _ => R2, fun z => absurd z (by decide)⟩
  · rw [if_neg (by decide), if_neg (by decide), if_pos (show (2 : Int32) = Int32.ofNat 2 from rfl), h.s.c, bs]
    refine ok.seq (m_best h hG hT) ?_
    rintro M1 ⟨F1, R1, -⟩
    rw [isB1, bs]
    exact ok.pure ⟨rfl, F1, by rw [SS_2]; exact R1.1, fun z => absurd z (by decide), fun z => absurd z (by decide), fun _ => R1⟩
theorem m_runN (M : Mem) (m : Nat) {r : Int32} (hr : ¬ isR r) : f_X9_runs M m r = some (0, M) := by
  have h0 : ¬ r = Int32.ofNat 0 := fun z => hr (Or.inl z)
  have h1 : ¬ r = Int32.ofNat 1 := fun z => hr (Or.inr (Or.inl z))
  have h2 : ¬ r = Int32.ofNat 2 := fun z => hr (Or.inr (Or.inr z))
  unfold f_X9_runs
  rw [if_neg h0, if_neg h1, if_neg h2]
  rfl
theorem f_isR (M : Mem) (r : Int32) [Decidable (isR r)] : f_X8_isRule M r = some (b2i (decide (isR r))) := by
  unfold f_X8_isRule
  by_cases h0 : r = 0
  · rw [if_pos h0, decide_eq_true (show isR r from Or.inl h0)]; rfl
  · by_cases h1 : r = 1
    · rw [if_neg h0, if_pos h1, decide_eq_true (show isR r from Or.inr (Or.inl h1))]; rfl
    · by_cases h2 : r = 2
      · rw [if_neg h0, if_neg h1, if_pos h2, decide_eq_true (show isR r from Or.inr (Or.inr h2))]; rfl
      · have : ¬ isR r := fun z => by
          rcases z with z | z | z
          · exact h0 z
          · exact h1 z
          · exact h2 z
        rw [if_neg h0, if_neg h1, if_neg h2, decide_eq_false this]; rfl
/-! joys, those left out, claims -/
theorem m_joy (h : IsM M m D) (hT : Tl D) {set : Int32} (hs_ : mI M m 30 = set) {v : Nat} (hv : v < cn D 2) : f_X9_joyOf M m (Int32.ofNat v) = some (jy D set v) := by
  unfold f_X9_joyOf
  refine it_s (k := fun a => some a) (cn D 1) _ h.n.m1 (fun rec i a hi => ?_) (fun rec a => ?_)
  · unfold bd_X9_joyOf_4
    have e : hs (D 10 i) (Int32.ofNat v) = sp D v i := by rw [hT.1, hs_bk h.n hv]
    simp only [h.g6, bs, ile_n hi h.n.l1, h.s.gi, hs_, f_has9, b2i_ite, h.s.c, m_sp h hv hi, m_wo h hi, is_, ltq, i_succ, e]
  · unfold bd_X9_joyOf_4
    simp only [h.g6, bs, ile_e]
theorem hs_us (hG : Gd D) (hT : Tl D) (set : Int32) {v : Nat} (hv : v < cn D 2) : hs (us D set) (Int32.ofNat v) = true ↔ ∀ p, p < cn D 1 → hs set (Int32.ofNat p) = true → ¬ sp D v p = true := by
  have l1 := hG.n.2.2.1
  have l2 := hG.n.2.2.2
  have key : ∀ n, n ≤ cn D 1 → (hs (fo (fun p a => if hs set (Int32.ofNat p) = true then a &&& (D 10 p ^^^ (-1)) else a) n (bt (cn D 2) - 1)) (Int32.ofNat v) = true ↔ ∀ p, p < n → hs set (Int32.ofNat p) = true → ¬ sp D v p = true) := by
    intro n
    induction n with
    | zero =>
      intro _
      refine ⟨fun _ p hp => absurd hp (Nat.not_lt_zero p), fun _ => ?_⟩
      show hs (bt (cn D 2) - 1) _ = true
      have pos : 0 < 2 ^ cn D 2 := Nat.two_pow_pos _
      rw [bt_N _ (by omega), show (1 : Int32) = Int32.ofNat 1 from rfl, i_sub (by omega), hs_N _ (by omega), Nat.testBit_two_pow_sub_one]
      exact decide_eq_true hv
    | succ n ih =>
      intro hn
      have ih := ih (by omega)
      show hs (if hs set (Int32.ofNat n) = true then fo (fun p a => if hs set (Int32.ofNat p) = true then a &&& (D 10 p ^^^ (-1)) else a) n (bt (cn D 2) - 1) &&& (D 10 n ^^^ (-1)) else fo (fun p a => if hs set (Int32.ofNat p) = true then a &&& (D 10 p ^^^ (-1)) else a) n (bt (cn D 2) - 1)) _ = true ↔ _
      by_cases c : hs set (Int32.ofNat n) = true
      · rw [if_pos c, hs_and (by omega), hs_not (by omega), hT.1, hs_bk hG.n hv, Bool.and_eq_true, ih]
        constructor
        · rintro ⟨a, b⟩ p hp hb
          by_cases e : p = n
          · subst e
            intro z
            rw [z] at b
            exact Bool.noConfusion b
          · exact a p (by omega) hb
        · intro a
          refine ⟨fun p hp hb => a p (by omega) hb, ?_⟩
          have := a n (by omega) c
          rw [Bool.not_eq_true] at this
          rw [this]; rfl
      · rw [if_neg c, ih]
        constructor
        · intro a p hp hb
          by_cases e : p = n
          · subst e; exact absurd hb c
          · exact a p (by omega) hb
        · exact fun a p hp hb => a p (by omega) hb
  exact key _ (Nat.le_refl _)
theorem us_hi (hG : Gd D) (set : Int32) {v : Nat} (hv : cn D 2 ≤ v) (hv2 : v < 32) : hs (us D set) (Int32.ofNat v) = false := by
  have l2 := hG.n.2.2.2
  have key : ∀ n, hs (fo (fun p a => if hs set (Int32.ofNat p) = true then a &&& (D 10 p ^^^ (-1)) else a) n (bt (cn D 2) - 1)) (Int32.ofNat v) = false := by
    intro n
    induction n with
    | zero =>
      show hs (bt (cn D 2) - 1) _ = false
      have pos : 0 < 2 ^ cn D 2 := Nat.two_pow_pos _
      rw [bt_N _ (by omega), show (1 : Int32) = Int32.ofNat 1 from rfl, i_sub (by omega), hs_N _ (by omega), Nat.testBit_two_pow_sub_one]
      exact decide_eq_false (by omega)
    | succ n ih =>
      show hs (if hs set (Int32.ofNat n) = true then fo (fun p a => if hs set (Int32.ofNat p) = true then a &&& (D 10 p ^^^ (-1)) else a) n (bt (cn D 2) - 1) &&& (D 10 n ^^^ (-1)) else fo (fun p a => if hs set (Int32.ofNat p) = true then a &&& (D 10 p ^^^ (-1)) else a) n (bt (cn D 2) - 1)) _ = false
      split
      · rw [hs_and hv2, ih]; rfl
      · exact ih
  exact key _
theorem m_lo (h : IsM M m D) (hG : Gd D) (hT : Tl D) {set : Int32} (hs_ : mI M m 30 = set) {v : Nat} (hv : v < cn D 2) : f_X9_isLeftOut M m (Int32.ofNat v) = some (b2i (hs (us D set) (Int32.ofNat v))) := by
  refine eq_ok ?_
  unfold f_X9_isLeftOut
  refine it_r (I := fun p (u : Int32) => u = Int32.ofNat p ∧ ∀ o, o < p → hs set (Int32.ofNat o) = true → ¬ sp D v o = true) (cn D 1) ⟨rfl, fun o ho => absurd ho (Nat.not_lt_zero o)⟩ h.n.m1 ?_ ?_
  · rintro rec p u hp ⟨rfl, hz⟩ hrec
    unfold bd_X9_isLeftOut_2
    simp only [h.g6, bs, ile_n hp h.n.l1, h.s.gi, hs_, f_has9, b2i_ite, h.s.c, m_sp h hv hp, i_succ]
    refine ok.ite (fun c => ?_) (fun c => ?_)
    · refine ok.ite (fun c2 => ?_) (fun c2 => ?_)
      · rw [isB0]
        refine ok.pure ?_
        have : ¬ hs (us D set) (Int32.ofNat v) = true := fun z => (hs_us hG hT set hv).mp z p hp c c2
        rw [Bool.not_eq_true] at this
        rw [this]
      · exact hrec _ ⟨rfl, fun o ho hb => by
          by_cases e : o = p
          · subst e; exact c2
          · exact hz o (by omega) hb⟩
    · exact hrec _ ⟨rfl, fun o ho hb => by
        by_cases e : o = p
        · subst e; exact absurd hb c
        · exact hz o (by omega) hb⟩
  · rintro rec u ⟨rfl, hz⟩
    unfold bd_X9_isLeftOut_2
    simp only [h.g6, bs, ile_e, isB1]
    refine ok.pure ?_
    rw [(hs_us hG hT set hv).mpr hz]
theorem or_ite (c : Prop) [Decidable c] (a x : Int32) : a ||| (if c then x else 0) = if c then a ||| x else a := by split <;> simp
theorem m_leftO {α : Type} (h : IsM M m D) (hG : Gd D) (hT : Tl D) {set : Int32} (hs_ : mI M m 30 = set) (y : Int32) (kk : Int32 × Int32 → Option α) : it_ (bd_X9_leftOut_20 m (y, M) kk) FU (0, 0) = kk (us D set, Int32.ofNat (cn D 2)) := by
  have l2 := hG.n.2.2.2
  have e : us D set = fo (fun v a => if hs (us D set) (Int32.ofNat v) = true then a ||| bt v else a) (cn D 2) 0 := by
    refine hs_ext fun i hi => ?_
    rw [hs_fo (fun v => hs (us D set) (Int32.ofNat v)) (by omega) hi]
    by_cases c : i < cn D 2
    · rw [decide_eq_true c]; rfl
    · rw [decide_eq_false c, us_hi hG set (by omega) hi]; rfl
  rw [e]
  refine it_c (k := fun a => kk (a, Int32.ofNat (cn D 2))) (cn D 2) _ 0 h.n.m2 (fun rec i hi => ?_) (fun rec => ?_)
  · unfold bd_X9_leftOut_20
    simp only [h.g7, bs, ile_n hi h.n.l2, h.s.c, m_lo h hG hT hs_ hi, b2i_ite, is_, ltq, or_ite, i_succ]
    rfl
  · unfold bd_X9_leftOut_20
    simp only [h.g7, bs, ile_e]
theorem m_claim (h : IsM M m D) (hG : Gd D) (hT : Tl D) {set : Int32} (hs_ : mI M m 30 = set) {p : Nat} (hp : p < cn D 1) : f_X9_claimNow M m (Int32.ofNat p) = some (cl D set p) := by
  have l0 := hG.n.2.1
  have l2 := hG.n.2.2.2
  have e : cl D set p = sm (cn D 2) (fun v => if sp D v p = true then (if hs (us D set) (Int32.ofNat v) = true then fm D v (D 5 p) else 0) else 0) := by
    unfold cl
    by_cases c : hs set (Int32.ofNat p) = true
    · rw [if_pos c]
      have : (sm (cn D 2) fun v => if sp D v p = true then (if hs (us D set) (Int32.ofNat v) = true then fm D v (D 5 p) else 0) else 0) = sm 0 (fun v => if sp D v p = true then (if hs (us D set) (Int32.ofNat v) = true then fm D v (D 5 p) else 0) else 0) := sm_ext _ (Nat.zero_le _) fun v _ hv => by
        by_cases c2 : sp D v p = true
        · rw [if_pos c2, if_neg (fun z => (hs_us hG hT set hv).mp z p hp c c2)]
        · rw [if_neg c2]
      rw [this]; rfl
    · rw [if_neg c]
      refine sm_c fun v hv => ?_
      rw [hs_and (by omega), hT.1, hs_bk hG.n hv]
      by_cases c2 : sp D v p = true
      · rw [c2, if_pos rfl, Bool.true_and]
      · rw [Bool.not_eq_true] at c2
        rw [c2]; rfl
  rw [e]
  unfold f_X9_claimNow
  refine it_s (k := fun a => some a) (cn D 2) _ h.n.m2 (fun rec i a hi => ?_) (fun rec a => ?_)
  · have inner : it_ (bd_X9_claimNow_35 M m (Int32.ofNat p) (a, Int32.ofNat i) fun (e10 : Int32 × Int32) => some e10.1) FU (a, 0) = some (a + fm D i (D 5 p)) := by
      have key := it_c (F := bd_X9_claimNow_35 M m (Int32.ofNat p) (a, Int32.ofNat i) fun (e10 : Int32 × Int32) => some e10.1) (k := fun a => some a) (cn D 0) (fun d z => z + if hs (D 5 p) (Int32.ofNat d) = true then fp D i d else 0) a h.n.m0 (fun rec d hd => ?_) (fun rec => ?_)
      · rw [key, fo_sm]
        rfl
      · unfold bd_X9_claimNow_35
        simp only [h.g5, bs, ile_n hd h.n.l0, h.s.r10, h.d5 hp, f_has9, b2i_ite, h.s.c, m_fp h hG hi hd, is_, ltq, i_succ]
        rfl
      · unfold bd_X9_claimNow_35
        simp only [h.g5, bs, ile_e]
    unfold bd_X9_claimNow_4
    simp only [h.g7, bs, ile_n hi h.n.l2, h.s.c, m_sp h hi hp, b2i_ite, m_lo h hG hT hs_ hi, inner, is_, i_succ]
    refine congrArg (fun z => rec (z, Int32.ofNat (i + 1))) ?_
    by_cases c1 : sp D i p = true
    · by_cases c2 : hs (us D set) (Int32.ofNat i) = true
      · simp [c1, c2]
      · simp [c1, c2]
    · simp [c1]
  · unfold bd_X9_claimNow_4
    simp only [h.g7, bs, ile_e]
theorem m_many (h : IsM M m D) (set : Int32) : f_X9_many M m set = some (Int32.ofNat (ctB set (cn D 1))) := by
  unfold f_X9_many
  have e : Int32.ofNat (ctB set (cn D 1)) = sm (cn D 1) fun p => if hs set (Int32.ofNat p) = true then 1 else 0 := (sm_N fun p hp => by split <;> rfl).symm
  rw [e]
  refine it_s (k := fun a => some a) (cn D 1) _ h.n.m1 (fun rec i a hi => ?_) (fun rec a => ?_)
  · unfold bd_X9_many_4
    simp only [h.g6, bs, ile_n hi h.n.l1, f_has9, b2i_ite, is_, ltq, i_succ]
  · unfold bd_X9_many_4
    simp only [h.g6, bs, ile_e]
end
