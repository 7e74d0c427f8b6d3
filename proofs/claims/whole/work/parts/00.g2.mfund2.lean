/-! ===== the reference funds a project, all of it ===== -/
section
variable {M : Mem} {m : Nat} {D : Bl}
theorem m_note (h : IsMo M m) {p c : Nat} {ch : Int32} (hc : mI M m 31 = Int32.ofNat c) (hch : mI M m 30 = ch) (hc2 : c < 12) : f_X9_note M m (Int32.ofNat p) = some (sI (sI (sI M m 30 (ch ||| bt p)) (m + 12) c (Int32.ofNat p)) m 31 (Int32.ofNat (c + 1))) := by
  unfold f_X9_note
  have h1 : IsMo (sI M m 30 (ch ||| bt p)) m := h
  have e1 : mI (sI M m 30 (ch ||| bt p)) m 31 = Int32.ofNat c := by rw [i_sI, if_neg (by omega)]; exact hc
  have h2 : IsMo (sI (sI M m 30 (ch ||| bt p)) (m + 12) c (Int32.ofNat p)) m := h
  have e2 : mI (sI (sI M m 30 (ch ||| bt p)) (m + 12) c (Int32.ofNat p)) m 31 = Int32.ofNat c := by rw [i_sI, if_neg (by omega)]; exact e1
  rw [show (1 : Int32) <<< (Int32.ofNat p &&& 31) = bt p from rfl]
  simp only [h.gi, bs, hch, h.p, h1.r32, h1.gi, e1, h1.w32 hc2, h2.gi, e2, i_succ, h2.p]
/-- nothing is paid or taken for what isn't funded -/
def Zs (s : Rst) : Prop := ∀ o, o < 12 → ¬ hs (sh_ s) (Int32.ofNat o) = true → (∀ v, sP s o v = 0) ∧ ∀ d, sT s o d = 0
theorem Zs_fu {s : Rst} (h : Zs s) {p : Nat} (hp : p < 12) (q : Int32) : Zs (fu D s p q) := by
  intro o ho hn
  have e : ¬ (hs (sh_ s) (Int32.ofNat o) || decide (o = p)) = true := fun z => hn (by
    show hs (sh_ s ||| bt p) _ = true
    rw [hs_or (by omega)]
    unfold bt
    rw [hs_one (by omega) (by omega)]
    exact z)
  have e1 : o ≠ p := fun z => e (by rw [decide_eq_true z, Bool.or_true])
  have e2 : ¬ hs (sh_ s) (Int32.ofNat o) = true := fun z => e (by rw [z]; rfl)
  obtain ⟨a, b⟩ := h o ho e2
  exact ⟨fun v => by
    show (if o = p then _ else _) = _
    rw [if_neg e1]; exact a v, fun d => by
    show (if o = p then _ else _) = _
    rw [if_neg e1]; exact b d⟩
theorem rk_Z (hG : Gd D) {r : Nat} (hr : r ≤ 60000) (k : Nat) : Zs (rk D (Int32.ofNat r) k) := by
  induction k with
  | zero => exact fun o _ _ => ⟨fun _ => rfl, fun _ => rfl⟩
  | succ k ih =>
    rw [rk_s]
    unfold stp
    rcases nxp_ok hG (rk_Iv hG hr k) with h | ⟨p, q, hp, h, -⟩
    · rw [if_pos (by rw [h]; exact m1_neg)]; exact ih
    · have := hG.n.2.2.1
      rw [h, if_neg (o_nneg (by omega)), ix_o (by omega)]
      exact Zs_fu ih (by omega) _
theorem les_0 {H : Nat → Nat → Int32} {v p e : Nat} (hs_ : ¬ sp D v p = true) (q : Int32) (he : e < 2147483648) : les D H p q v (Int32.ofNat e) = 0 := by
  unfold les
  rw [shr_0 hs_, shr_0 hs_, Int32.sub_zero]
  have := mi_N (x := 0) (y := e) (by omega) he
  rw [Nat.zero_min] at this
  exact this
theorem sm_up (n : Nat) {f g : Nat → Int32} {p : Nat} {x : Int32} (hp : p < n) (h1 : f p = g p + x) (h2 : ∀ i, i < n → i ≠ p → f i = g i) : sm n f = sm n g + x := by
  induction n with
  | zero => omega
  | succ n ih =>
    rw [sm_s, sm_s]
    by_cases e : p = n
    · subst e
      rw [h1, sm_c (fun i hi => h2 i (by omega) (by omega)), Int32.add_assoc]
    · rw [ih (by omega) (fun i hi => h2 i (by omega)), h2 n (by omega) (by omega), Int32.add_assoc, Int32.add_comm x, Int32.add_assoc]
theorem m_fund (h : IsM M m D) (hG : Gd D) (hT : Tl D) {s : Rst} {pm : Nat → Int32} (hR : MRC M m D s pm) (hB : HB D (sH s)) (hZ : Zs s) {p q : Nat} (hp : p < cn D 1) (hn : ¬ hs (sh_ s) (Int32.ofNat p) = true) (hQ : OkQ D (sH s) p q) (hc : sc s < 12) : ok (f_X9_fund M m (Int32.ofNat p) (Int32.ofNat q)) (fun M' => Mf m M M' ∧ MRC M' m D (fu D s p (Int32.ofNat q)) (fun o => if o = p then Int32.ofNat q else pm o)) := by
  have l0 := hG.n.2.1
  have l1 := hG.n.2.2.1
  have l2 := hG.n.2.2.2
  obtain ⟨RH, RP, RT, RS, RQ, Rc, Rch, Rp⟩ := hR
  unfold f_X9_fund
  simp only [h.s.c, bs, m_note h.s Rc Rch hc]
  have hM1 : IsM (sI (sI (sI M m 30 (sh_ s ||| bt p)) (m + 12) (sc s) (Int32.ofNat p)) m 31 (Int32.ofNat (sc s + 1))) m D := ((h.sIo (Or.inr (by omega)) _).fi (Fi.sI ⟨Nat.le_refl (m + 12), Nat.lt_succ_self _⟩) (by omega)).sIo (Or.inr (by omega)) _
  have i1 : ∀ x j, x ≠ m → x ≠ m + 12 → mI (sI (sI (sI M m 30 (sh_ s ||| bt p)) (m + 12) (sc s) (Int32.ofNat p)) m 31 (Int32.ofNat (sc s + 1))) x j = mI M x j := fun x j z1 z2 => by
    rw [i_sI, if_neg (by omega), i_sI, if_neg (by omega), i_sI, if_neg (by omega)]
  have i31 : mI (sI (sI (sI M m 30 (sh_ s ||| bt p)) (m + 12) (sc s) (Int32.ofNat p)) m 31 (Int32.ofNat (sc s + 1))) m 31 = Int32.ofNat (sc s + 1) := by rw [i_sI, if_pos ⟨rfl, rfl⟩]
  have i30 : mI (sI (sI (sI M m 30 (sh_ s ||| bt p)) (m + 12) (sc s) (Int32.ofNat p)) m 31 (Int32.ofNat (sc s + 1))) m 30 = sh_ s ||| bt p := by rw [i_sI, if_neg (by omega), i_sI, if_neg (by omega), i_sI, if_pos ⟨rfl, rfl⟩]
  have i12 : ∀ k, k < sc s + 1 → mI (sI (sI (sI M m 30 (sh_ s ||| bt p)) (m + 12) (sc s) (Int32.ofNat p)) m 31 (Int32.ofNat (sc s + 1))) (m + 12) k = if k = sc s then Int32.ofNat p else sQ s k := fun k hk => by
    rw [i_sI, if_neg (by omega), i_sI]
    by_cases e : k = sc s
    · rw [if_pos ⟨rfl, e⟩, if_pos e]
    · rw [if_neg (by omega), if_neg e, i_sI, if_neg (by omega)]; exact RQ k (by omega)
  have F1 : Mf m M (sI (sI (sI M m 30 (sh_ s ||| bt p)) (m + 12) (sc s) (Int32.ofNat p)) m 31 (Int32.ofNat (sc s + 1))) := (Mf.sI _ (by omega)).trans ((Mf.sIr _ (by omega) (by omega)).trans (Mf.sI _ (by omega)))
  generalize sI (sI (sI M m 30 (sh_ s ||| bt p)) (m + 12) (sc s) (Int32.ofNat p)) m 31 (Int32.ofNat (sc s + 1)) = M1 at *
  have F2 : Fi (m + 13) (m + 14) M1 (sI M1 (m + 13) p (Int32.ofNat q)) := Fi.sI ⟨by omega, by omega⟩
  have hM2 := hM1.fi F2 (by omega)
  have i13 : ∀ o, o < 12 → mI (sI M1 (m + 13) p (Int32.ofNat q)) (m + 13) o = if o = p then Int32.ofNat q else pm o := fun o ho => by
    rw [i_sI]
    by_cases e : o = p
    · rw [if_pos ⟨rfl, e⟩, if_pos e]
    · rw [if_neg (by omega), if_neg e, i1 _ _ (by omega) (by omega)]; exact Rp o ho
  simp only [hM1.s.r33, bs, hM1.s.w33 (show p < 12 by omega)]
  generalize sI M1 (m + 13) p (Int32.ofNat q) = M2 at *
  have H2 : MH M2 m D (sH s) := fun v hv d hd => by rw [F2.i (by omega), i1 _ _ (by omega) (by omega)]; exact RH v hv d hd
  simp only [hM2.s.c, bs, m_shares hM2 H2 hp, hM2.s.r0, hM2.d4 hp, ltq, hM2.g7]
  rw [show sm (cn D 2) (shr D (sH s) p (Int32.ofNat q)) - D 4 p = ex0 D (sH s) p (Int32.ofNat q) from rfl]
  have hexc := exc_N hB hG hp hQ
  -- who pays how much
  refine it_r (I := fun j (u : Int32 × Int32 × Mem) => u.1 = exc D (sH s) p (Int32.ofNat q) j ∧ u.2.1 = Int32.ofNat (cn D 2 - j) - 1 ∧ Fi (m + 14) (m + 15) M2 u.2.2 ∧ ∀ o, o < 12 → ∀ v, v < cn D 2 → mI u.2.2 (m + 14) (24 * o + v) = if o = p ∧ cn D 2 - j ≤ v then amt D (sH s) p (Int32.ofNat q) v else sP s o v) (cn D 2) ⟨rfl, rfl, Fi.rf, fun o ho v hv => by rw [if_neg (by omega), F2.i (by omega), i1 _ _ (by omega) (by omega)]; exact RP o ho v hv⟩ hG.n.m2 ?_ ?_
  · rintro rec j ⟨x, y, M3⟩ hj ⟨rfl, rfl, F3, z⟩ hrec
    dsimp only at F3 z
    have hM3 := hM2.fi F3 (by omega)
    have H3 : MH M3 m D (sH s) := fun v hv d hd => by rw [F3.i (by omega)]; exact H2 v hv d hd
    have ei : Int32.ofNat (cn D 2 - j) - 1 = Int32.ofNat (cn D 2 - 1 - j) := by
      rw [show (1 : Int32) = Int32.ofNat 1 from rfl, i_sub (by omega)]
      congr 1
      omega
    have e3 : Int32.ofNat (cn D 2 - 1 - j) + -1 = Int32.ofNat (cn D 2 - (j + 1)) - 1 := by
      rw [Int32.sub_eq_add_neg]
      congr 2
      omega
    have hvn : cn D 2 - 1 - j < cn D 2 := by omega
    have hexs : exc D (sH s) p (Int32.ofNat q) (j + 1) = exc D (sH s) p (Int32.ofNat q) j - les D (sH s) p (Int32.ofNat q) (cn D 2 - 1 - j) (exc D (sH s) p (Int32.ofNat q) j) := rfl
    obtain ⟨ex, hx1, hx2⟩ := hexc j (by omega)
    rw [ei]
    generalize hv : cn D 2 - 1 - j = v at *
    have ha : shr D (sH s) p (Int32.ofNat q) v - les D (sH s) p (Int32.ofNat q) v (exc D (sH s) p (Int32.ofNat q) j) = amt D (sH s) p (Int32.ofNat q) v := by
      unfold amt
      rw [show cn D 2 - 1 - v = j by omega]
    unfold bd_X9_fund_37
    have mm : ∀ x y : Int32, (if y ≤ x then y else x) = mi x y := fun x y => by
      unfold mi
      by_cases c : x < y
      · rw [if_pos c, if_neg (by rw [le_i]; rw [lt_i] at c; omega)]
      · rw [if_neg c, if_pos (by rw [le_i]; rw [lt_i] at c; omega)]
    by_cases cs : sp D v p = true
    · simp only [if_neg (o_nneg (show v < 2147483648 by omega)), hM3.s.c, bs, m_sp hM3 hvn hp, b2i_ite, cs, if_true, m_share hM3 H3 hvn hp cs, ltq, is_, mm]
      rw [show mi (shr D (sH s) p (Int32.ofNat q) v - shr D (sH s) p (Int32.ofNat q - 1) v) (exc D (sH s) p (Int32.ofNat q) j) = les D (sH s) p (Int32.ofNat q) v (exc D (sH s) p (Int32.ofNat q) j) from rfl, ha, ← hexs]
      simp only [hM3.s.r34, bs, ml24, hM3.s.w34 (show 24 * p + v < 288 by omega), e3]
      refine hrec _ ⟨rfl, rfl, F3.trans (Fi.sI ⟨by omega, by omega⟩), fun o ho w hw => ?_⟩
      show mI (sI M3 _ _ _) (m + 14) (24 * o + w) = _
      rw [i_sI]
      by_cases e : o = p ∧ w = v
      · obtain ⟨rfl, rfl⟩ := e
        rw [if_pos ⟨rfl, rfl⟩, if_pos (by omega)]
      · rw [if_neg (by omega), z o ho w hw]
        by_cases e2 : o = p ∧ cn D 2 - j ≤ w
        · rw [if_pos e2, if_pos (by omega)]
        · rw [if_neg e2, if_neg (by omega)]
    · have e0 : les D (sH s) p (Int32.ofNat q) v (exc D (sH s) p (Int32.ofNat q) j) = 0 := by rw [hx2]; exact les_0 cs _ (by omega)
      have ea : amt D (sH s) p (Int32.ofNat q) v = 0 := by rw [← ha, e0, shr_0 cs, Int32.sub_zero]
      rw [e0, Int32.sub_zero] at hexs
      simp only [if_neg (o_nneg (show v < 2147483648 by omega)), hM3.s.c, bs, m_sp hM3 hvn hp, b2i_ite, cs, e3]
      rw [← hexs]
      refine hrec _ ⟨rfl, rfl, F3, fun o ho w hw => ?_⟩
      show mI M3 (m + 14) (24 * o + w) = _
      rw [z o ho w hw]
      by_cases e2 : o = p ∧ cn D 2 - j ≤ w
      · rw [if_pos e2, if_pos (by omega)]
      · rw [if_neg e2]
        by_cases e3 : o = p ∧ cn D 2 - (j + 1) ≤ w
        · rw [if_pos e3]
          have : w = v := by omega
          rw [this, ea, e3.1]
          exact (hZ p (by omega) hn).1 v
        · rw [if_neg e3]
  · rintro rec ⟨x, y, M3⟩ ⟨rfl, rfl, F3, z⟩
    dsimp only at F3 z
    have hM3 := hM2.fi F3 (by omega)
    unfold bd_X9_fund_37
    dsimp only
    rw [if_pos (by rw [Nat.sub_self]; decide)]
    have FF : Mf m M M3 := F1.trans ((Mf.of F2 (by omega) (by omega)).trans (Mf.of F3 (by omega) (by omega)))
    -- they pay
    refine it_r (I := fun i (u : Int32 × Mem) => u.1 = Int32.ofNat i ∧ Fi (m + 11) (m + 17) M3 u.2 ∧ (∀ x, x ≠ m + 11 → x ≠ m + 15 → x ≠ m + 16 → ∀ k, mI u.2 x k = mI M3 x k) ∧ (∀ v, v < cn D 2 → ∀ d, d < cn D 0 → mI u.2 (m + 11) (4 * v + d) = if v < i then sH s v d - ptd D (sH s) p (Int32.ofNat q) v d else sH s v d) ∧ (∀ o, o < 12 → ∀ d, d < 4 → mI u.2 (m + 15) (4 * o + d) = if o = p then sT s p d + sm i (fun v => ptd D (sH s) p (Int32.ofNat q) v d) else sT s o d) ∧ ∀ d, d < 4 → mI u.2 (m + 16) d = sm 12 (fun o => sT s o d) + sm i (fun v => ptd D (sH s) p (Int32.ofNat q) v d)) (cn D 2) ⟨rfl, Fi.rf, fun _ _ _ _ _ => rfl, fun v hv d hd => by rw [if_neg (by omega), F3.i (by omega)]; exact H2 v hv d hd, fun o ho d hd => ?_, fun d hd => ?_⟩ hG.n.m2 ?_ ?_
    · show mI M3 (m + 15) (4 * o + d) = _
      rw [F3.i (by omega), F2.i (by omega), i1 _ _ (by omega) (by omega), RT o ho d hd]
      by_cases e : o = p
      · subst e
        rw [if_pos rfl]
        exact (Int32.add_zero _).symm
      · rw [if_neg e]
    · show mI M3 (m + 16) d = _
      rw [F3.i (by omega), F2.i (by omega), i1 _ _ (by omega) (by omega), RS d hd]
      exact (Int32.add_zero _).symm
    · rintro rec2 i ⟨y, M4⟩ hi ⟨rfl, F4, zx, z11, z15, z16⟩ hrec2
      dsimp only at F4 zx z11 z15 z16
      have hM4 := hM3.fi F4 (by omega)
      have g := hM4.s.a34 (i := 24 * p + i) (by omega)
      rw [zx _ (by omega) (by omega) (by omega), z p (by omega) i hi, if_pos ⟨rfl, by omega⟩] at g
      have hrow : ∀ d, d < cn D 0 → mI M4 (m + 11) (4 * i + d) = sH s i d := fun d hd => by rw [z11 i hi d hd, if_neg (by omega)]
      have hpt : ∀ d, d < 32 → pt (D 5 p) (fun d => mI M4 (m + 11) (4 * i + d)) (amt D (sH s) p (Int32.ofNat q) i) d = ptd D (sH s) p (Int32.ofNat q) i d := fun d hd => pt_c hrow (hG.2.2.1 p hp).2 hd
      unfold bd_X9_fund_125
      simp only [hM4.g7, bs, ile_n hi hG.n.l2, hM4.s.r34, ml24, g, hM4.s.c, m_take hM4 hi hp, i_succ]
      generalize hM5 : sW M4 (tkF M4 m i p (D 5 p) (amt D (sH s) p (Int32.ofNat q) i) (cn D 0)) = M5
      have f5 : ∀ x k, mI M5 x k = tkF M4 m i p (D 5 p) (amt D (sH s) p (Int32.ofNat q) i) (cn D 0) x k := fun x k => by rw [← hM5]; rfl
      have F5 : Fi (m + 11) (m + 17) M4 M5 := by
        rw [← hM5]
        exact Fi.W fun x hx => by
          funext k
          unfold tkF
          rw [if_neg (show ¬ (x = m + 11 ∧ 4 * i ≤ k ∧ k < 4 * i + cn D 0) by omega), if_neg (show ¬ (x = m + 15 ∧ 4 * p ≤ k ∧ k < 4 * p + cn D 0) by omega), if_neg (show ¬ (x = m + 16 ∧ k < cn D 0) by omega)]
      have pz : ∀ d, cn D 0 ≤ d → d < 32 → ptd D (sH s) p (Int32.ofNat q) i d = 0 := fun d h1 h2 => by
        unfold ptd pt
        rw [(hG.2.2.1 p hp).2 d h1 h2]
        rfl
      refine hrec2 _ ⟨rfl, F4.trans F5, fun x q1 q2 q3 k => ?_, fun v hv d hd => ?_, fun o ho d hd => ?_, fun d hd => ?_⟩
      · show mI M5 x k = _
        rw [← zx x q1 q2 q3 k, f5]
        unfold tkF
        rw [if_neg (show ¬ (x = m + 11 ∧ 4 * i ≤ k ∧ k < 4 * i + cn D 0) by omega), if_neg (show ¬ (x = m + 15 ∧ 4 * p ≤ k ∧ k < 4 * p + cn D 0) by omega), if_neg (show ¬ (x = m + 16 ∧ k < cn D 0) by omega)]
      · show mI M5 (m + 11) (4 * v + d) = _
        rw [f5]
        unfold tkF
        by_cases e : v = i
        · subst e
          rw [if_pos (show m + 11 = m + 11 ∧ 4 * v ≤ 4 * v + d ∧ 4 * v + d < 4 * v + cn D 0 by omega), Nat.add_sub_cancel_left, hpt d (by omega), hrow d hd, if_pos (by omega)]
        · rw [if_neg (show ¬ (m + 11 = m + 11 ∧ 4 * i ≤ 4 * v + d ∧ 4 * v + d < 4 * i + cn D 0) by omega), if_neg (show ¬ (m + 11 = m + 15 ∧ 4 * p ≤ 4 * v + d ∧ 4 * v + d < 4 * p + cn D 0) by omega), if_neg (show ¬ (m + 11 = m + 16 ∧ 4 * v + d < cn D 0) by omega), z11 v hv d hd]
          by_cases e2 : v < i
          · rw [if_pos e2, if_pos (by omega)]
          · rw [if_neg e2, if_neg (by omega)]
      · show mI M5 (m + 15) (4 * o + d) = _
        rw [f5]
        unfold tkF
        rw [if_neg (show ¬ (m + 15 = m + 11 ∧ 4 * i ≤ 4 * o + d ∧ 4 * o + d < 4 * i + cn D 0) by omega)]
        by_cases e : o = p
        · subst e
          rw [if_pos rfl, sm_s, ← Int32.add_assoc]
          by_cases e2 : d < cn D 0
          · rw [if_pos (show m + 15 = m + 15 ∧ 4 * o ≤ 4 * o + d ∧ 4 * o + d < 4 * o + cn D 0 by omega), Nat.add_sub_cancel_left, hpt d (by omega), z15 o ho d hd, if_pos rfl]
          · rw [if_neg (show ¬ (m + 15 = m + 15 ∧ 4 * o ≤ 4 * o + d ∧ 4 * o + d < 4 * o + cn D 0) by omega), if_neg (show ¬ (m + 15 = m + 16 ∧ 4 * o + d < cn D 0) by omega), z15 o ho d hd, if_pos rfl, pz d (by omega) (by omega), Int32.add_zero]
        · rw [if_neg (show ¬ (m + 15 = m + 15 ∧ 4 * p ≤ 4 * o + d ∧ 4 * o + d < 4 * p + cn D 0) by omega), if_neg (show ¬ (m + 15 = m + 16 ∧ 4 * o + d < cn D 0) by omega), z15 o ho d hd, if_neg e, if_neg e]
      · show mI M5 (m + 16) d = _
        rw [f5]
        unfold tkF
        rw [if_neg (show ¬ (m + 16 = m + 11 ∧ 4 * i ≤ d ∧ d < 4 * i + cn D 0) by omega), if_neg (show ¬ (m + 16 = m + 15 ∧ 4 * p ≤ d ∧ d < 4 * p + cn D 0) by omega), sm_s i, ← Int32.add_assoc]
        by_cases e2 : d < cn D 0
        · rw [if_pos (show m + 16 = m + 16 ∧ d < cn D 0 by omega), hpt d (by omega), z16 d hd]
        · rw [if_neg (show ¬ (m + 16 = m + 16 ∧ d < cn D 0) by omega), z16 d hd, pz d (by omega) (by omega), Int32.add_zero]
    · rintro rec2 ⟨y, M4⟩ ⟨rfl, F4, zx, z11, z15, z16⟩
      dsimp only at F4 zx z11 z15 z16
      have hM4 := hM3.fi F4 (by omega)
      unfold bd_X9_fund_125
      simp only [hM4.g7, bs, ile_e]
      have em : ∀ j, mI M4 m j = mI M1 m j := fun j => by rw [F4.i (by omega), F3.i (by omega), F2.i (by omega)]
      refine ok.pure ⟨FF.trans (Mf.of F4 (by omega) (by omega)), ⟨fun v hv d hd => by rw [z11 v hv d hd, if_pos hv]; rfl, fun o ho v hv => ?_, fun o ho d hd => z15 o ho d hd, fun d hd => ?_, fun k hk => ?_, ?_, ?_, fun o ho => ?_⟩⟩
      · rw [zx _ (by omega) (by omega) (by omega), z o ho v hv]
        show _ = if o = p then _ else _
        by_cases e : o = p
        · rw [if_pos ⟨e, by omega⟩, if_pos e]
        · rw [if_neg (by omega), if_neg e]
      · rw [z16 d hd]
        refine (sm_up 12 (p := p) (by omega) ?_ (fun i hi hne => ?_)).symm
        · show (if p = p then _ else _) = _
          rw [if_pos rfl]
        · show (if i = p then _ else _) = _
          rw [if_neg hne]
      · rw [zx _ (by omega) (by omega) (by omega), F3.i (by omega), F2.i (by omega), i12 k hk]
        rfl
      · rw [em]; exact i31
      · rw [em]; exact i30
      · rw [zx _ (by omega) (by omega) (by omega), F3.i (by omega)]; exact i13 o ho
end
