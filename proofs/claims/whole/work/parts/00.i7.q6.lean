/-! ===== questions of the rules, the reference's side and more ===== -/
section
variable {M M' : Mem} {x m bb sb : Nat} {D : Bl}
theorem ctB_rm {w : Int32} {n p : Nat} (hn : n ≤ 32) (hp : p < n) (h : hs w (Int32.ofNat p) = true) : ctB (w &&& (bt p ^^^ (-1))) n + 1 = ctB w n := by
  have h1 : ¬ hs (w &&& (bt p ^^^ (-1))) (Int32.ofNat p) = true := by
    rw [hs_rm (by omega) (by omega), decide_eq_true rfl]
    simp
  have e := ctB_or (n := n) hn (show p < 32 by omega) h1
  rw [if_pos hp] at e
  rw [← e]
  refine sN_c fun i hi => ?_
  have : hs ((w &&& (bt p ^^^ (-1))) ||| bt p) (Int32.ofNat i) = hs w (Int32.ofNat i) := by
    rw [hs_ad (by omega) (by omega), hs_rm (by omega) (by omega)]
    by_cases c : i = p
    · subst c
      rw [h, decide_eq_true rfl]; rfl
    · rw [decide_eq_false c]; simp
  rw [this]
theorem ctB_dj {a b : Int32} {n : Nat} (h : ∀ i, i < n → hs a (Int32.ofNat i) = true → ¬ hs b (Int32.ofNat i) = true) : ctB a n + ctB b n ≤ n := by
  induction n with
  | zero => exact Nat.le_refl _
  | succ n ih =>
    have ih := ih (fun i hi => h i (by omega))
    have ea : ctB a (n + 1) = ctB a n + if hs a (Int32.ofNat n) = true then 1 else 0 := rfl
    have eb : ctB b (n + 1) = ctB b n + if hs b (Int32.ofNat n) = true then 1 else 0 := rfl
    have := h n (by omega)
    by_cases c : hs a (Int32.ofNat n) = true
    · rw [if_pos c] at ea
      rw [if_neg (this c)] at eb
      omega
    · rw [if_neg c] at ea
      split at eb <;> omega
theorem tk_ct (hD : Cn D) (w : Int32) (s : Gst) (n : Nat) : gc (tk D w s n).2 + ctB (tk D w s n).1 (cn D 1) ≤ gc s + ctB w (cn D 1) := by
  have l1 := hD.2.2.1
  induction n with
  | zero => exact Nat.le_refl _
  | succ n ih =>
    rw [tk_s]
    unfold tkS
    rcases fst_in hD (tk D w s n).1 with e | ⟨p, hp, e, hw⟩
    · rw [if_pos (by rw [e]; exact m1_neg)]; exact ih
    · rw [e, if_neg (o_nneg (by omega)), ix_o (by omega)]
      have := ctB_rm (show cn D 1 ≤ 32 by omega) hp hw
      dsimp only
      split
      · omega
      · show gc (tk D w s n).2 + 1 + _ ≤ _
        omega
theorem two_gc (hG : Gd D) : sc (eqs D) + gc (cmp D) ≤ 12 := by
  have l1 := hG.n.2.2.1
  have hI := (eqs_ok hG).1
  have e1 : sc (eqs D) = ctB (sh_ (eqs D)) (cn D 1) := hI.2.1
  unfold cmp
  split
  · have := tk_ct hG.n (vo D &&& (sh_ (eqs D) ^^^ (-1))) (g0 (cpL D (eqs D))) (cn D 1)
    have e : gc (g0 (cpL D (eqs D))) = 0 := rfl
    have d : ctB (vo D &&& (sh_ (eqs D) ^^^ (-1))) (cn D 1) + ctB (sh_ (eqs D)) (cn D 1) ≤ cn D 1 := ctB_dj fun i hi z => by
      rw [hs_and (by omega), hs_not (by omega), Bool.and_eq_true] at z
      intro y
      rw [y] at z
      exact Bool.noConfusion z.2
    omega
  · have e : gc (g0 (cpL D (eqs D))) = 0 := rfl
    have := ctB_le (sh_ (eqs D)) (cn D 1)
    omega
theorem q_fundedAt (h : IsM M m D) (hG : Gd D) (hT : Tl D) (hL : mI M m 37 = 12) (r k : Int32) : ok (f_X9_fundedAt M m r k) (RetM m M (fat D r k)) := by
  classical
  have g1 := grd_gc hG.n
  have g2 := cmp_gc hG.n
  have l1 := hG.n.2.2.1
  obtain ⟨-, -, -, -, hc⟩ := eqs_ok hG
  have h1 : IsM (sI M m 4 0) m D := h.sIo (by omega) _
  unfold f_X9_fundedAt fat
  rw [h.s.p, bs, h1.s.c, bs]
  by_cases hr : isR r
  · refine q_rule h1 hG hT (L4 hL 0) hr fun M1 F1 h2 e e0 e1 e2 => ?_
    rw [if_neg (show ¬ (1 : Int32) = 0 by decide)]
    dsimp only
    rcases hr with z | z | z
    · subst z
      have E := (e0 rfl).2.2.2.1
      have hn : sc (eqs D) + gc (cmp D) ≤ 24 := by omega
      have n12 := two_gc hG
      rw [q_at h2 hn E.2.2.2.1 n12 E.2.2.1, if_pos rfl]
      exact ok.pure ⟨rfl, F1⟩
    · subst z
      have E := e1 rfl
      have sz : sc s00 + gc (grd D) = gc (grd D) := Nat.zero_add _
      have E31 := E.2.2.2.1
      have EQ := E.2.2.1
      rw [sz] at E31 EQ
      have EQ' : ∀ k, k < gc (grd D) → mI M1 (m + 12) k = gQ (grd D) k := fun k hk => by
        rw [EQ k hk]
        have s0 : sc s00 = 0 := rfl
        rw [s0, if_neg (by omega), Nat.sub_zero]
      rw [q_at h2 (by omega) E31 g1 EQ', if_neg (show ¬ (1 : Int32) = 0 by decide), if_pos rfl]
      exact ok.pure ⟨rfl, F1⟩
    · subst z
      have E := e2 rfl
      have b12 := ctB_le (bst D 0) (cn D 1)
      have EQ : ∀ k, k < ctB (bst D 0) (cn D 1) → mI M1 (m + 12) k = eat (bst D 0) (Int32.ofNat k) := fun k hk => by
        obtain ⟨p, p1, p2, p3⟩ := ctB_fd _ hk
        have := E.2.2 p p1 p2
        rw [p3] at this
        rw [this, eat_at (show p < 12 by omega) p2 (by rw [p3])]
      rw [q_at h2 (by omega) E.2.1 (by omega) EQ, if_neg (show ¬ (2 : Int32) = 0 by decide), if_neg (show ¬ (2 : Int32) = 1 by decide), if_pos rfl, eat_ct hG k]
      refine ok.pure ⟨?_, F1⟩
      dsimp only
      by_cases c : inx k (ctB (bst D 0) (cn D 1))
      · obtain ⟨q, hq, rfl⟩ := ix_of (by omega) c
        rw [if_pos c, if_pos c, ix_o (by omega)]
      · rw [if_neg c, if_neg c]
  · rw [m_runN _ _ hr, bs, if_pos rfl, if_neg (fun z => hr (Or.inl z)), if_neg (fun z => hr (Or.inr (Or.inl z))), if_neg (fun z => hr (Or.inr (Or.inr z)))]
    exact ok.pure ⟨rfl, Mq.rf⟩
/-! the one with the least joy, the first of them -/
def ami (g : Nat → Int32) (n : Nat) : Int32 := fo (fun v f => if f < 0 then Int32.ofNat v else if g (ix f) ≤ g v then f else Int32.ofNat v) n (-1)
theorem ami_s (g : Nat → Int32) (n : Nat) : ami g (n + 1) = if ami g n < 0 then Int32.ofNat n else if g (ix (ami g n)) ≤ g n then ami g n else Int32.ofNat n := rfl
theorem ami_in (g : Nat → Int32) (n : Nat) : ami g n = -1 ∨ ∃ q, q < n ∧ ami g n = Int32.ofNat q := by
  induction n with
  | zero => exact Or.inl rfl
  | succ n ih =>
    rw [ami_s]
    have old : ami g n = -1 ∨ ∃ q, q < n + 1 ∧ ami g n = Int32.ofNat q := ih.imp id (fun ⟨q, a, b⟩ => ⟨q, by omega, b⟩)
    split
    · exact Or.inr ⟨n, by omega, rfl⟩
    · split
      · exact old
      · exact Or.inr ⟨n, by omega, rfl⟩
noncomputable def wrs (D : Bl) (r : Int32) : Int32 := if isR r then ami (jy D (SS D r)) (cn D 2) else -2
theorem c_worstOff (h : CQ M x bb sb D) (hG : Gd D) (hT : Tl D) (r : Int32) : ok (f_X8_worstOff M x r) (RetC x bb sb D M (wrs D r)) := by
  have l2 := h.2.1.n.2.2.2
  unfold f_X8_worstOff wrs
  rw [f_isR, bs, b2i_ite]
  by_cases hr : isR r
  · rw [if_pos (dR hr), if_pos hr, h.1.c, bs]
    refine c_rule h hG hT hr fun M1 C1 h1 => ?_
    rw [ltq]
    refine it_r (I := fun i (u : Int32 × Int32 × Int32) => u.1 = ami (jy D (SS D r)) i ∧ (¬ u.1 < 0 → u.2.1 = jy D (SS D r) (ix u.1)) ∧ u.2.2 = Int32.ofNat i) (cn D 2) ⟨rfl, fun z => absurd m1_neg z, rfl⟩ h.2.1.n.m2 ?_ ?_
    · rintro rec i ⟨a, b, c⟩ hi ⟨ha, hb, rfl⟩ hrec
      dsimp only at ha hb
      unfold bd_X8_worstOff_24
      simp only [h1.1.r8, bs, h1.2.1.g2, ile_n hi h1.2.1.n.l2, h1.2.1.c, f_jy h1.2.1, i_succ]
      subst ha
      refine ok.bind (ok.ite (fun c => ?_) (fun c => ?_))
      · refine ok.pure (hrec _ ⟨?_, fun _ => ?_, rfl⟩)
        · rw [ami_s, if_pos c]
        · rw [ix_o (by omega)]
      · rw [hb c]
        refine ok.ite (fun c2 => ?_) (fun c2 => ?_)
        · refine ok.pure (hrec _ ⟨?_, fun _ => rfl, rfl⟩)
          rw [ami_s, if_neg c, if_pos c2]
        · refine ok.pure (hrec _ ⟨?_, fun _ => ?_, rfl⟩)
          · rw [ami_s, if_neg c, if_neg c2]
          · rw [ix_o (by omega)]
    · rintro rec ⟨a, b, c⟩ ⟨rfl, hb, rfl⟩
      unfold bd_X8_worstOff_24
      simp only [h1.1.r8, bs, h1.2.1.g2, ile_e]
      exact ok.pure ⟨rfl, C1, h1⟩
  · rw [if_neg (dN hr), if_neg hr]
    exact ok.pure ⟨rfl, Cq.rf, h⟩
theorem q_worstOff (h : IsM M m D) (hG : Gd D) (hT : Tl D) (hL : mI M m 37 = 12) (r : Int32) : ok (f_X9_worstOff M m r) (RetM m M (wrs D r)) := by
  have l2 := h.n.2.2.2
  have h1 : IsM (sI M m 4 0) m D := h.sIo (by omega) _
  unfold f_X9_worstOff wrs
  rw [h.s.p, bs, h1.s.c, bs]
  by_cases hr : isR r
  · refine q_rule h1 hG hT (L4 hL 0) hr fun M1 F1 h2 e _ _ _ => ?_
    rw [if_pos hr, if_neg (show ¬ (1 : Int32) = 0 by decide), ltq]
    refine it_r (I := fun i (u : Int32 × Int32) => u.1 = ami (jy D (SS D r)) i ∧ u.2 = Int32.ofNat i) (cn D 2) ⟨rfl, rfl⟩ h.n.m2 ?_ ?_
    · rintro rec i ⟨a, c⟩ hi ⟨rfl, rfl⟩ hrec
      unfold bd_X9_worstOff_20
      simp only [h2.g7, bs, ile_n hi h2.n.l2, h2.s.c, m_joy h2 hT e hi, i_succ]
      refine ok.bind ?_
      by_cases c : ami (jy D (SS D r)) i < 0
      · rw [if_pos c]
        refine ok.pure (hrec _ ⟨?_, rfl⟩)
        rw [ami_s, if_pos c]
      · rw [if_neg c]
        rcases ami_in (jy D (SS D r)) i with z | ⟨q, hq, z⟩
        · exact absurd (by rw [z]; exact m1_neg) c
        · have := ami_s (jy D (SS D r)) i
          rw [if_neg c, z, ix_o (by omega)] at this
          rw [z, m_joy h2 hT e (show q < cn D 2 by omega), bs]
          refine ok.ite (fun c2 => ?_) (fun c2 => ?_)
          · refine ok.pure (hrec _ ⟨?_, rfl⟩)
            rw [this, if_pos c2]
          · refine ok.pure (hrec _ ⟨?_, rfl⟩)
            rw [this, if_neg c2]
    · rintro rec ⟨a, c⟩ ⟨rfl, rfl⟩
      unfold bd_X9_worstOff_20
      simp only [h2.g7, bs, ile_e]
      exact ok.pure ⟨rfl, F1⟩
  · rw [m_runN _ _ hr, bs, if_pos rfl, if_neg hr]
    exact ok.pure ⟨rfl, Mq.rf⟩
/-! the widest gap between two joys -/
theorem jy_nn (hG : Gd D) (set : Int32) (v : Nat) : ∃ k, k ≤ 1200000 ∧ jy D set v = Int32.ofNat k := by
  have l1 := hG.n.2.2.1
  classical
  let f : Nat → Nat := fun p => if h : ∃ k, k ≤ 100000 ∧ (if hs set (Int32.ofNat p) = true then (if hs (D 10 p) (Int32.ofNat v) = true then wo D p else 0) else 0) = Int32.ofNat k then Classical.choose h else 0
  have hf : ∀ p, p < cn D 1 → f p ≤ 100000 ∧ (if hs set (Int32.ofNat p) = true then (if hs (D 10 p) (Int32.ofNat v) = true then wo D p else 0) else 0) = Int32.ofNat (f p) := fun p hp => by
    have hx : ∃ k, k ≤ 100000 ∧ (if hs set (Int32.ofNat p) = true then (if hs (D 10 p) (Int32.ofNat v) = true then wo D p else 0) else 0) = Int32.ofNat k := by
      obtain ⟨k, k1, k2⟩ := wo_N hG hp
      split
      · split
        · exact ⟨k, k1, k2⟩
        · exact ⟨0, by omega, rfl⟩
      · exact ⟨0, by omega, rfl⟩
    have e : f p = Classical.choose hx := dif_pos hx
    rw [e]
    exact Classical.choose_spec hx
  have b := sN_bd (n := cn D 1) (f := f) (c := 100000) (fun i hi => (hf i hi).1)
  refine ⟨sN (cn D 1) f, ?_, sm_N fun p hp => (hf p hp).2⟩
  have : cn D 1 * 100000 ≤ 12 * 100000 := Nat.mul_le_mul_right _ l1
  omega
def lo_ (g : Nat → Int32) (n : Nat) : Int32 := fo (fun v a => if v = 0 then g v else if g v < a then g v else a) n 0
def hi_ (g : Nat → Int32) (n : Nat) : Int32 := fo (fun v a => if a < g v then g v else a) n 0
noncomputable def spr (D : Bl) (r : Int32) : Int32 := if isR r then hi_ (jy D (SS D r)) (cn D 2) - lo_ (jy D (SS D r)) (cn D 2) else -2
theorem i0 {i : Nat} (hi : i < 2147483648) : Int32.ofNat i = 0 ↔ i = 0 := i_inj (b := 0) hi (by omega)
theorem c_spread (h : CQ M x bb sb D) (hG : Gd D) (hT : Tl D) (r : Int32) : ok (f_X8_spread M x r) (RetC x bb sb D M (spr D r)) := by
  have l2 := h.2.1.n.2.2.2
  unfold f_X8_spread spr
  rw [f_isR, bs, b2i_ite]
  by_cases hr : isR r
  · rw [if_pos (dR hr), if_pos hr, h.1.c, bs]
    refine c_rule h hG hT hr fun M1 C1 h1 => ?_
    refine it_r (I := fun i (u : Int32 × Int32 × Int32) => u = (lo_ (jy D (SS D r)) i, hi_ (jy D (SS D r)) i, Int32.ofNat i)) (cn D 2) rfl h.2.1.n.m2 ?_ ?_
    · rintro rec i _ hi rfl hrec
      unfold bd_X8_spread_24
      simp only [h1.1.r8, bs, h1.2.1.g2, ile_n hi h1.2.1.n.l2, h1.2.1.c, f_jy h1.2.1, i_succ, is_, ltq, i0 (show i < 2147483648 by omega)]
      exact hrec _ rfl
    · rintro rec _ rfl
      unfold bd_X8_spread_24
      simp only [h1.1.r8, bs, h1.2.1.g2, ile_e]
      exact ok.pure ⟨rfl, C1, h1⟩
  · rw [if_neg (dN hr), if_neg hr]
    exact ok.pure ⟨rfl, Cq.rf, h⟩
theorem q_spread (h : IsM M m D) (hG : Gd D) (hT : Tl D) (hL : mI M m 37 = 12) (r : Int32) : ok (f_X9_spread M m r) (RetM m M (spr D r)) := by
  have l2 := h.n.2.2.2
  have h1 : IsM (sI M m 4 0) m D := h.sIo (by omega) _
  unfold f_X9_spread spr
  rw [h.s.p, bs, h1.s.c, bs]
  by_cases hr : isR r
  · refine q_rule h1 hG hT (L4 hL 0) hr fun M1 F1 h2 e _ _ _ => ?_
    rw [if_pos hr, if_neg (show ¬ (1 : Int32) = 0 by decide)]
    refine it_r (I := fun i (u : Int32 × Int32 × Int32) => u = (hi_ (jy D (SS D r)) i, lo_ (jy D (SS D r)) i, Int32.ofNat i)) (cn D 2) rfl h.n.m2 ?_ ?_
    · rintro rec i _ hi rfl hrec
      unfold bd_X9_spread_23
      simp only [h2.g7, bs, ile_n hi h2.n.l2, h2.s.c, m_joy h2 hT e hi, i_succ, is_, i0 (show i < 2147483648 by omega)]
      refine hrec _ ?_
      have q : ∀ n, hi_ (jy D (SS D r)) (n + 1) = if hi_ (jy D (SS D r)) n < jy D (SS D r) n then jy D (SS D r) n else hi_ (jy D (SS D r)) n := fun n => rfl
      have q2 : ∀ n, lo_ (jy D (SS D r)) (n + 1) = if n = 0 then jy D (SS D r) n else if jy D (SS D r) n < lo_ (jy D (SS D r)) n then jy D (SS D r) n else lo_ (jy D (SS D r)) n := fun n => rfl
      rw [q, q2]
      refine Prod.ext ?_ (Prod.ext ?_ rfl)
      · dsimp only
        by_cases z : i = 0
        · subst z
          rw [if_pos rfl]
          have q0 : hi_ (jy D (SS D r)) 0 = 0 := rfl
          obtain ⟨k, k1, k2⟩ := jy_nn hG (SS D r) 0
          rw [q0]
          by_cases c : (0 : Int32) < jy D (SS D r) 0
          · rw [if_pos c]
          · rw [if_neg c, eq_i]
            rw [lt_i] at c
            rw [k2, i_toInt (by omega)] at c ⊢
            have z0 : (0 : Int32).toInt = 0 := rfl
            omega
        · rw [if_neg z]
          by_cases c : hi_ (jy D (SS D r)) i < jy D (SS D r) i
          · rw [if_pos c, if_neg (by rw [le_i]; rw [lt_i] at c; omega)]
          · rw [if_neg c, if_pos (by rw [le_i]; rw [lt_i] at c; omega)]
      · dsimp only
        by_cases z : i = 0
        · rw [if_pos z, if_pos z]
        · rw [if_neg z, if_neg z]
          by_cases c : jy D (SS D r) i < lo_ (jy D (SS D r)) i
          · rw [if_pos c, if_neg (by rw [le_i]; rw [lt_i] at c; omega)]
          · rw [if_neg c, if_pos (by rw [le_i]; rw [lt_i] at c; omega)]
    · rintro rec _ rfl
      unfold bd_X9_spread_23
      simp only [h2.g7, bs, ile_e]
      exact ok.pure ⟨rfl, F1⟩
  · rw [m_runN _ _ hr, bs, if_pos rfl, if_neg hr]
    exact ok.pure ⟨rfl, Mq.rf⟩
end
