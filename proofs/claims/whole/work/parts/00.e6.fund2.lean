/-! ===== a project is funded ===== -/
section
variable {M : Mem} {r b : Nat} {D : Bl}
theorem f_fu_in {α : Type} (h : IsRs M r) (hBl : IsB M b D) {H : Nat → Nat → Int32} {p : Nat} (hst : ∀ v, v < cn D 2 → mI M (r + 66) v = stk D p v ∧ mI M (r + 67) v = amn D H p v) (q w x : Int32) (kk : Int32 × Int32 → Option α) : it_ (bd_X6_fund_19 r b q (w, M) kk) FU (x, 0) = kk (x + sm (cn D 2) (shr D H p q), Int32.ofNat (cn D 2)) := by
  have l2 := hBl.n.2.2.2
  rw [← fo_sm]
  refine it_c (k := fun a => kk (a, Int32.ofNat (cn D 2))) (cn D 2) (fun v a => a + shr D H p q v) x hBl.n.m2 (fun rec v hv => ?_) (fun rec => ?_)
  · have e5 := h.a5 (v := v) (by omega)
    have e6 := h.a6 (v := v) (by omega)
    rw [(hst v hv).1] at e5
    rw [(hst v hv).2] at e6
    unfold bd_X6_fund_19
    simp only [hBl.g2, bs, ile_n hv hBl.n.l2, h.r6, e6, h.r5, e5, ltq, i_succ]
    rfl
  · unfold bd_X6_fund_19
    simp only [hBl.g2, bs, ile_e]
/-- what the loop over the voters leaves, j of them done -/
def FuI (M4 M' : Mem) (r p : Nat) (D : Bl) (H : Nat → Nat → Int32) (q : Int32) (j : Nat) : Prop := Fi r (r + 68) M4 M' ∧ (∀ a, a ≠ r + 27 + p → a ≠ r + 40 + p → (a < r + 2 ∨ r + 26 ≤ a) → mI M' a = mI M4 a) ∧ (∀ v, v < 24 → ∀ i, mI M' (r + 2 + v) i = if cn D 2 - j ≤ v ∧ v < cn D 2 ∧ i < 4 then mI M4 (r + 2 + v) i - pt (D 5 p) (mI M4 (r + 2 + v)) (amt D H p q v) i else mI M4 (r + 2 + v) i) ∧ (∀ i, mI M' (r + 27 + p) i = if cn D 2 - j ≤ i ∧ i < cn D 2 then amt D H p q i else mI M4 (r + 27 + p) i) ∧ ∀ i, i < 4 → mI M' (r + 40 + p) i = mI M4 (r + 40 + p) i + sm j (fun k => pt (D 5 p) (mI M4 (r + 2 + (cn D 2 - 1 - k))) (amt D H p q (cn D 2 - 1 - k)) i)
theorem FuI.s {M4 M' : Mem} {p : Nat} {H : Nat → Nat → Int32} {q : Int32} {j : Nat} (hp : p < 12) (h2 : cn D 2 ≤ 24) (hj : j < cn D 2) (h : FuI M4 M' r p D H q j) : FuI M4 (sW M' (payF M' r p (cn D 2 - 1 - j) (D 5 p) (amt D H p q (cn D 2 - 1 - j)) 4)) r p D H q (j + 1) := by
  obtain ⟨hF, hA, hB, hC, hT⟩ := h
  have hrow : mI M' (r + 2 + (cn D 2 - 1 - j)) = mI M4 (r + 2 + (cn D 2 - 1 - j)) := by
    funext i
    rw [hB _ (by omega) i, if_neg (by omega)]
  generalize hv : cn D 2 - 1 - j = v at *
  refine ⟨hF.trans (Fi.W fun a ha => ?_), fun a h1 h3 h4 => ?_, fun w hw i => ?_, fun i => ?_, fun i hi => ?_⟩
  · funext i
    unfold payF
    rw [if_neg (show ¬ (a = r + 27 + p ∧ i = v) by omega), if_neg (show ¬ (a = r + 2 + v ∧ i < 4) by omega), if_neg (show ¬ (a = r + 40 + p ∧ i < 4) by omega)]
  · rw [← hA a h1 h3 h4]
    funext i
    show payF M' r p v _ _ 4 a i = _
    unfold payF
    rw [if_neg (show ¬ (a = r + 27 + p ∧ i = v) by omega), if_neg (show ¬ (a = r + 2 + v ∧ i < 4) by omega), if_neg (show ¬ (a = r + 40 + p ∧ i < 4) by omega)]
  · show payF M' r p v _ _ 4 (r + 2 + w) i = _
    unfold payF
    rw [if_neg (show ¬ (r + 2 + w = r + 27 + p ∧ i = v) by omega), hrow]
    by_cases c : w = v ∧ i < 4
    · obtain ⟨rfl, hi⟩ := c
      rw [if_pos (show r + 2 + w = r + 2 + w ∧ i < 4 from ⟨rfl, hi⟩), if_pos (show cn D 2 - (j + 1) ≤ w ∧ w < cn D 2 ∧ i < 4 by omega), hrow]
    · rw [if_neg (show ¬ (r + 2 + w = r + 2 + v ∧ i < 4) by omega), if_neg (show ¬ (r + 2 + w = r + 40 + p ∧ i < 4) by omega), hB w hw i]
      by_cases c2 : cn D 2 - j ≤ w ∧ w < cn D 2 ∧ i < 4
      · rw [if_pos c2, if_pos (show cn D 2 - (j + 1) ≤ w ∧ w < cn D 2 ∧ i < 4 by omega)]
      · rw [if_neg c2, if_neg (show ¬ (cn D 2 - (j + 1) ≤ w ∧ w < cn D 2 ∧ i < 4) by omega)]
  · show payF M' r p v _ _ 4 (r + 27 + p) i = _
    unfold payF
    by_cases c : i = v
    · subst c
      rw [if_pos (show r + 27 + p = r + 27 + p ∧ i = i from ⟨rfl, rfl⟩), if_pos (show cn D 2 - (j + 1) ≤ i ∧ i < cn D 2 by omega)]
    · rw [if_neg (show ¬ (r + 27 + p = r + 27 + p ∧ i = v) by omega), if_neg (show ¬ (r + 27 + p = r + 2 + v ∧ i < 4) by omega), if_neg (show ¬ (r + 27 + p = r + 40 + p ∧ i < 4) by omega), hC i]
      by_cases c2 : cn D 2 - j ≤ i ∧ i < cn D 2
      · rw [if_pos c2, if_pos (show cn D 2 - (j + 1) ≤ i ∧ i < cn D 2 by omega)]
      · rw [if_neg c2, if_neg (show ¬ (cn D 2 - (j + 1) ≤ i ∧ i < cn D 2) by omega)]
  · show payF M' r p v _ _ 4 (r + 40 + p) i = _
    unfold payF
    rw [if_neg (show ¬ (r + 40 + p = r + 27 + p ∧ i = v) by omega), if_neg (show ¬ (r + 40 + p = r + 2 + v ∧ i < 4) by omega), if_pos (show r + 40 + p = r + 40 + p ∧ i < 4 from ⟨rfl, hi⟩), hT i hi, hrow, sm_s, hv, Int32.add_assoc]
theorem f_fund (h : IsRs M r) (hBl : IsB M b D) (hb : b + 12 ≤ r ∨ r + 68 ≤ b) (hG : Gd D) (hT : Tl D) {s : Rst} (hR : RC M r D s) {p : Nat} (hp : p < cn D 1) (hc : sc s < 12) (q : Int32) : ok (f_X6_fund M r b (Int32.ofNat p) q) (fun M' => Fi r (r + 68) M M' ∧ RC M' r D (fu D s p q) ∧ ∀ o, o < 12 → mI M' (r + 53 + o) = mI M (r + 53 + o)) := by
  have l1 := hG.n.2.2.1
  have l2 := hG.n.2.2.2
  have l0 := hG.n.2.1
  obtain ⟨RH, RP, RT, RQ, Rc, Rch⟩ := hR
  unfold f_X6_fund
  simp only [hBl.s.r4, bs, hBl.a4 hp, ltq, h.c]
  refine ok.seq (f_weigh h hBl hb hG hT RH hp) ?_
  rintro ⟨w, M4⟩ ⟨-, F4, hst⟩
  dsimp only at F4 hst
  have h4 := h.fi F4
  have hBl4 := hBl.fi F4 (by omega)
  rw [f_fu_in h4 hBl4 hst]
  dsimp only
  simp only [hBl4.g2, bs]
  rw [show -(D 4 p) + sm (cn D 2) (shr D (sH s) p q) = ex0 D (sH s) p q by unfold ex0; rw [Int32.add_comm, Int32.sub_eq_add_neg]]
  refine it_r (I := fun j (u : Int32 × Int32 × Mem) => u.1 = exc D (sH s) p q j ∧ u.2.1 = Int32.ofNat (cn D 2 - j) - 1 ∧ FuI M4 u.2.2 r p D (sH s) q j) (cn D 2) ⟨rfl, rfl, Fi.rf, fun _ _ _ _ => rfl, fun v _ i => by rw [if_neg (show ¬ (cn D 2 - 0 ≤ v ∧ v < cn D 2 ∧ i < 4) by omega)], fun i => by rw [if_neg (show ¬ (cn D 2 - 0 ≤ i ∧ i < cn D 2) by omega)], fun i _ => by
    show mI M4 (r + 40 + p) i = mI M4 (r + 40 + p) i + 0
    rw [Int32.add_zero]⟩ hG.n.m2 ?_ ?_
  · rintro rec j ⟨x, y, M'⟩ hj ⟨rfl, rfl, hI⟩ hrec
    dsimp only at hI
    have hF := hI.1
    have h1 := h4.fi hF
    have hBl1 := hBl4.fi hF (by omega)
    have e66 : mI M' (r + 66) = mI M4 (r + 66) := hI.2.1 _ (by omega) (by omega) (by omega)
    have e67 : mI M' (r + 67) = mI M4 (r + 67) := hI.2.1 _ (by omega) (by omega) (by omega)
    have ei : Int32.ofNat (cn D 2 - j) - 1 = Int32.ofNat (cn D 2 - 1 - j) := by
      rw [show (1 : Int32) = Int32.ofNat 1 from rfl, i_sub (by omega)]
      congr 1
      omega
    have hs' := hI.s (by omega) l2 hj
    have e3 : Int32.ofNat (cn D 2 - 1 - j) + -1 = Int32.ofNat (cn D 2 - (j + 1)) - 1 := by
      rw [Int32.sub_eq_add_neg]
      congr 2
      omega
    rw [ei]
    have hvn : cn D 2 - 1 - j < cn D 2 := by omega
    generalize hv : cn D 2 - 1 - j = v at *
    have e5 := h1.a5 (v := v) (by omega)
    have e6 := h1.a6 (v := v) (by omega)
    rw [e66, (hst v hvn).1] at e5
    rw [e67, (hst v hvn).2] at e6
    unfold bd_X6_fund_66
    have hexs : exc D (sH s) p q (j + 1) = exc D (sH s) p q j - les D (sH s) p q v (exc D (sH s) p q j) := by
      rw [← hv]
      rfl
    have ha : shr D (sH s) p q v - les D (sH s) p q v (exc D (sH s) p q j) = amt D (sH s) p q v := by
      unfold amt
      rw [show cn D 2 - 1 - v = j by omega]
    simp only [if_neg (o_nneg (show v < 2147483648 by omega)), h1.r6, bs, e6, h1.r5, e5, ltq, hBl1.s.r5, hBl1.a5 hp, h1.c]
    rw [show (if q * stk D p v < amn D (sH s) p v then q * stk D p v else amn D (sH s) p v) = shr D (sH s) p q v from rfl, show (if (q - 1) * stk D p v < amn D (sH s) p v then (q - 1) * stk D p v else amn D (sH s) p v) = shr D (sH s) p (q - 1) v from rfl, show (if shr D (sH s) p q v - shr D (sH s) p (q - 1) v < exc D (sH s) p q j then shr D (sH s) p q v - shr D (sH s) p (q - 1) v else exc D (sH s) p q j) = les D (sH s) p q v (exc D (sH s) p q j) from rfl, ha, f_pay h1 (by omega) (by omega), bs, ← hexs, e3]
    exact hrec _ ⟨rfl, rfl, hs'⟩
  · rintro rec ⟨x, y, M'⟩ ⟨rfl, rfl, hI⟩
    dsimp only at hI
    obtain ⟨hF, hA, hB, hC, hTT⟩ := hI
    have h1 := h4.fi hF
    have eA : ∀ a, a ≠ r + 27 + p → a ≠ r + 40 + p → (a < r + 2 ∨ r + 26 ≤ a) → ∀ k, mI M' a k = mI M4 a k := fun a z1 z2 z3 k => congrFun (hA a z1 z2 z3) k
    have e7 : mI M' r 7 = Int32.ofNat (sc s) := by
      rw [eA r (by omega) (by omega) (by omega), F4.i (by omega)]; exact Rc
    have e8 : mI M' r 8 = sh_ s := by
      rw [eA r (by omega) (by omega) (by omega), F4.i (by omega)]; exact Rch
    unfold bd_X6_fund_66
    dsimp only
    rw [if_pos (by rw [Nat.sub_self]; decide)]
    have h2 : IsRs (sI M' (r + 65) (sc s) (Int32.ofNat p)) r := h1
    have e72 : mI (sI M' (r + 65) (sc s) (Int32.ofNat p)) r 7 = Int32.ofNat (sc s) := by
      rw [i_sI, if_neg (by omega)]; exact e7
    have h3 : IsRs (sI (sI M' (r + 65) (sc s) (Int32.ofNat p)) r 7 (Int32.ofNat (sc s + 1))) r := h1
    have e82 : mI (sI (sI M' (r + 65) (sc s) (Int32.ofNat p)) r 7 (Int32.ofNat (sc s + 1))) r 8 = sh_ s := by
      rw [i_sI, if_neg (by omega), i_sI, if_neg (by omega)]; exact e8
    simp only [h1.r4, bs, h1.g, e7, h1.w4 hc, h2.g, e72, i_succ, h2.p, h3.g, e82, h3.p]
    rw [show (1 : Int32) <<< (Int32.ofNat p &&& 31) = bt p from rfl]
    have g : ∀ a, a ≠ r → a ≠ r + 65 → ∀ k, mI (sI (sI (sI M' (r + 65) (sc s) (Int32.ofNat p)) r 7 (Int32.ofNat (sc s + 1))) r 8 (sh_ s ||| bt p)) a k = mI M' a k := fun a z1 z2 k => by
      rw [i_sI, if_neg (by omega), i_sI, if_neg (by omega), i_sI, if_neg (by omega)]
    refine ok.pure ⟨(F4.wide (by omega) (by omega)).trans (hF.trans ((Fi.sI ⟨by omega, by omega⟩).trans ((Fi.sI ⟨by omega, by omega⟩).trans (Fi.sI ⟨by omega, by omega⟩)))), ⟨fun v hv d hd => ?_, fun o ho v hv => ?_, fun o ho d hd => ?_, fun k hk => ?_, ?_, ?_⟩, fun o ho => ?_⟩
    · have hrow : ∀ d, d < cn D 0 → mI M4 (r + 2 + v) d = sH s v d := fun d hd => by rw [F4.i (by omega)]; exact RH v hv d hd
      rw [g _ (by omega) (by omega), hB v (by omega) d, if_pos (by omega), hrow d hd, pt_c hrow (hG.2.2.1 p hp).2 (show d < 32 by omega)]
      rfl
    · rw [g _ (by omega) (by omega)]
      by_cases e : o = p
      · subst e
        rw [hC v, if_pos (by omega)]
        show _ = if o = o then _ else _
        rw [if_pos rfl]
      · rw [eA _ (by omega) (by omega) (by omega), F4.i (by omega), RP o ho v hv]
        show _ = if o = p then _ else _
        rw [if_neg e]
    · rw [g _ (by omega) (by omega)]
      by_cases e : o = p
      · subst e
        rw [hTT d hd, F4.i (by omega), RT o ho d hd]
        show _ = if o = o then _ else _
        rw [if_pos rfl]
        congr 1
        rw [sm_rev (cn D 2) (fun v => pt (D 5 o) (mI M4 (r + 2 + v)) (amt D (sH s) o q v) d)]
        exact sm_c fun v hv => pt_c (fun d hd => by rw [F4.i (by omega)]; exact RH v hv d hd) (hG.2.2.1 o hp).2 (show d < 32 by omega)
      · rw [eA _ (by omega) (by omega) (by omega), F4.i (by omega), RT o ho d hd]
        show _ = if o = p then _ else _
        rw [if_neg e]
    · have hk' : k < sc s + 1 := hk
      rw [i_sI, if_neg (by omega), i_sI, if_neg (by omega), i_sI]
      show _ = if k = sc s then _ else _
      by_cases e : k = sc s
      · rw [if_pos ⟨rfl, e⟩, if_pos e]
      · rw [if_neg (by omega), if_neg e, eA _ (by omega) (by omega) (by omega), F4.i (by omega)]
        exact RQ k (by omega)
    · rw [i_sI, if_neg (by omega), i_sI, if_pos ⟨rfl, rfl⟩]; rfl
    · rw [i_sI, if_pos ⟨rfl, rfl⟩]; rfl
    · funext k
      rw [g _ (by omega) (by omega), eA _ (by omega) (by omega) (by omega), F4.i (by omega)]
end
