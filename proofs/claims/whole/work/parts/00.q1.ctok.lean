/-! ===== the class reads a token ===== -/
section
variable {M M' M1 M2 : Mem} {t : Nat → Int32} {n p T : Nat} {P : Int32 → Bool}
theorem rn_out : ∀ k p, rn P t k p < p + k → P (t (rn P t k p)) = false := by
  intro k
  induction k with
  | zero => intro p h; exact absurd h (by show ¬ p < p + 0; omega)
  | succ k ih =>
    intro p h
    have h3 : (if P (t p) = true then rn P t k (p + 1) else p) < p + (k + 1) := h
    show P (t (if P (t p) = true then rn P t k (p + 1) else p)) = false
    by_cases z : P (t p) = true
    · rw [if_pos z] at h3 ⊢
      exact ih (p + 1) (by omega)
    · rw [if_neg z]
      exact Bool.eq_false_iff.mpr z
theorem ru_out (h : p ≤ n) (h2 : ru P t n p < n) : P (t (ru P t n p)) = false := rn_out _ _ (by unfold ru at h2; omega)
/-- the text's numbers alone change -/
def Ft (T : Nat) (M M' : Mem) : Prop := mK M' = mK M ∧ mL M' = mL M ∧ mR M' = mR M ∧ mN M' = mN M ∧ ∀ a j, ¬ (a = T ∧ 2 ≤ j ∧ j ≠ 4) → mI M' a j = mI M a j
theorem Ft.rf : Ft T M M := ⟨rfl, rfl, rfl, rfl, fun _ _ _ => rfl⟩
theorem Ft.trans (h1 : Ft T M M1) (h2 : Ft T M1 M2) : Ft T M M2 := ⟨h2.1.trans h1.1, h2.2.1.trans h1.2.1, h2.2.2.1.trans h1.2.2.1, h2.2.2.2.1.trans h1.2.2.2.1, fun a j z => (h2.2.2.2.2 a j z).trans (h1.2.2.2.2 a j z)⟩
theorem Ft.sI {j : Nat} (hj : 2 ≤ j ∧ j ≠ 4) (y : Int32) : Ft T M (sI M T j y) := ⟨rfl, rfl, rfl, rfl, fun a k z => by rw [i_sI, if_neg (fun w => z ⟨w.1, by omega⟩)]⟩
theorem Ft.fq (h : Ft T M M') : Fq T (T + 1) M M' := ⟨h.1, h.2.2.2.1, fun a ha => ⟨funext fun j => h.2.2.2.2 a j (by omega), by rw [h.2.1], by rw [h.2.2.1]⟩⟩
/-- the text at T is t up to n -/
def TB (M : Mem) (T : Nat) (t : Nat → Int32) (n : Nat) : Prop := IsT M T ∧ mI M T 4 = Int32.ofNat n ∧ n ≤ 1200 ∧ ∀ j, j < n → mI M (T + 1) j = t j
theorem TB.ft (h : TB M T t n) (hF : Ft T M M') : TB M' T t n := ⟨⟨by rw [hF.1]; exact h.1.1, by rw [hF.2.2.1]; exact h.1.2.1, by rw [hF.1]; exact h.1.2.2⟩, by rw [hF.2.2.2.2 _ _ (by omega)]; exact h.2.1, h.2.2.1, fun j hj => by rw [hF.2.2.2.2 _ _ (by omega)]; exact h.2.2.2 j hj⟩
theorem TB.fq {lo hi : Nat} (h : TB M T t n) (hF : Fq lo hi M M') (hb : T + 2 ≤ lo ∨ hi ≤ T) : TB M' T t n := ⟨⟨by rw [hF.1]; exact h.1.1, by rw [hF.r (by omega)]; exact h.1.2.1, by rw [hF.1]; exact h.1.2.2⟩, by rw [hF.i (by omega)]; exact h.2.1, h.2.2.1, fun j hj => by rw [hF.i (by omega)]; exact h.2.2.2 j hj⟩
theorem TB.gi (h : TB M T t n) (j : Nat) : gFI M T 7 j = some (mI M T j) := gFI_e h.1.1
theorem TB.pf (h : TB M T t n) (j : Nat) (y : Int32) : pFI M T 7 j y = some (sI M T j y) := pFI_e h.1.1
theorem TB.c (h : TB M T t n) : ck M T 7 = some () := ck_e h.1.1
theorem TB.r0 (h : TB M T t n) : gFR M T 7 0 = some (T + 1) := gFR_e h.1.1 h.1.2.1
theorem TB.a (h : TB M T t n) {i : Nat} (hi : i < n) : aB M (T + 1) (Int32.ofNat i) = some (t i) := by have l := h.2.2.1; rw [aB_e h.1.2.2 (by omega) (by omega), h.2.2.2 i hi]
/-- a token is to be read from p on -/
def TO (M : Mem) (T : Nat) (t : Nat → Int32) (n p : Nat) : Prop := TB M T t n ∧ mI M T 5 = Int32.ofNat p ∧ p ≤ n
/-- the token read from p on is at hand -/
def TC (M : Mem) (T : Nat) (t : Nat → Int32) (n p : Nat) : Prop := TB M T t n ∧ mI M T 3 = Int32.ofNat (tS t n p) ∧ mI M T 5 = Int32.ofNat (tE t n p) ∧ mI M T 2 = Int32.ofNat (tK t n p) ∧ p ≤ n
theorem TC.o (h : TC M T t n p) : TO M T t n (tE t n p) := ⟨h.1, h.2.2.1, tE_le h.2.2.2.2⟩
theorem TC.k (h : TC M T t n p) : gFI M T 7 2 = some (Int32.ofNat (tK t n p)) := by rw [h.1.gi, h.2.2.2.1]
theorem TC.fq {lo hi : Nat} (h : TC M T t n p) (hF : Fq lo hi M M') (hb : T + 2 ≤ lo ∨ hi ≤ T) : TC M' T t n p := ⟨h.1.fq hF hb, by rw [hF.i (by omega)]; exact h.2.1, by rw [hF.i (by omega)]; exact h.2.2.1, by rw [hF.i (by omega)]; exact h.2.2.2.1, h.2.2.2.2⟩
theorem l_run {α : Type} {F : (Mem → Option α) → Mem → Option α} {kk : Mem → Option α} {Q : α → Prop} (P : Int32 → Bool) (h : TO M T t n p) (hs : ∀ (rec : Mem → Option α) (u : Mem) (q : Nat), TO u T t n q → q < n → P (t q) = true → F rec u = rec (sI u T 5 (Int32.ofNat (q + 1)))) (he : ∀ (rec : Mem → Option α) (u : Mem) (q : Nat), TO u T t n q → (q < n → P (t q) = false) → F rec u = kk u) (hk : ∀ M', Ft T M M' → TO M' T t n (ru P t n p) → (∀ j, j ≠ 5 → mI M' T j = mI M T j) → ok (kk M') Q) : ok (it_ F FU M) Q := by
  have l := h.1.2.2.1
  have g1 := ru_ge (P := P) (t := t) (n := n) p
  have g2 := ru_le (P := P) (t := t) h.2.2
  refine it_r (I := fun i u => Ft T M u ∧ TO u T t n (p + i) ∧ ∀ j, j ≠ 5 → mI u T j = mI M T j) (ru P t n p - p) ⟨Ft.rf, h, fun _ _ => rfl⟩ (by omega) ?_ ?_
  · rintro rec i u hi ⟨a, b, c⟩ hrec
    rw [hs rec u (p + i) b (by omega) (ru_in (p := p) (n := n) (by omega) (by omega))]
    refine hrec _ ⟨a.trans (Ft.sI (by omega) _), ⟨b.1.ft (Ft.sI (by omega) _), ?_, by omega⟩, fun j hj => ?_⟩
    · rw [i_sI, if_pos ⟨rfl, rfl⟩]; rfl
    · rw [i_sI, if_neg (fun z => hj z.2)]; exact c j hj
  · rintro rec u ⟨a, b, c⟩
    rw [show p + (ru P t n p - p) = ru P t n p by omega] at b
    rw [he rec u _ b (fun z => ru_out h.2.2 z)]
    exact hk u a b c
theorem TO.lt (h : TO M T t n p) : n ≤ 1200 ∧ p ≤ n := ⟨h.1.2.2.1, h.2.2⟩
theorem TO.g5 (h : TO M T t n p) : gFI M T 7 5 = some (Int32.ofNat p) := by rw [h.1.gi, h.2.1]
theorem TB.g4 (h : TB M T t n) : gFI M T 7 4 = some (Int32.ofNat n) := by rw [h.gi, h.2.1]
theorem l_sp {α : Type} {kk : Mem → Option α} {Q : α → Prop} (h : TO M T t n p) (hk : ∀ M', Ft T M M' → TO M' T t n (ru isS t n p) → ok (kk M') Q) : ok (it_ (bd_X7_next_0 T kk) FU M) Q := by
  refine l_run (kk := kk) isS h ?_ ?_ fun M' a b _ => hk M' a b
  · intro rec u q hu hq hP
    have l := hu.lt
    unfold isS at hP
    rw [Bool.or_eq_true, decide_eq_true_eq, decide_eq_true_eq] at hP
    unfold bd_X7_next_0
    simp only [hu.g5, bs, hu.1.g4, ile_n hq (show n < 2147483648 by omega), hu.1.r0, hu.1.a hq, hu.1.pf, i_succ]
    by_cases c : t q = 32
    · rw [if_pos c]
    · rw [if_neg c, if_pos (hP.resolve_left c)]
  · intro rec u q hu hq
    have l := hu.lt
    unfold bd_X7_next_0
    rw [hu.g5, bs, hu.1.g4, bs]
    by_cases c : q < n
    · have hP := hq c
      unfold isS at hP
      rw [Bool.or_eq_false_iff, decide_eq_false_iff_not, decide_eq_false_iff_not] at hP
      simp only [ile_n c (show n < 2147483648 by omega), hu.1.r0, bs, hu.1.a c, hu.g5, if_neg hP.1, if_neg hP.2]
    · rw [show q = n by omega, ile_e]
theorem l_le {α : Type} {kk : Mem → Option α} {Q : α → Prop} (h : TO M T t n p) (hk : ∀ M', Ft T M M' → TO M' T t n (ru isL t n p) → (∀ j, j ≠ 5 → mI M' T j = mI M T j) → ok (kk M') Q) : ok (it_ (bd_X7_next_94 T kk) FU M) Q := by
  refine l_run (kk := kk) isL h ?_ ?_ hk
  · intro rec u q hu hq hP
    have l := hu.lt
    unfold bd_X7_next_94
    rw [hu.g5, bs, hu.1.g4, bs, ile_n hq (by omega), hu.1.r0, bs, bs, hu.1.a hq, bs, f_isL, bs, b2i_ite, if_pos hP, bs, hu.1.pf, bs, i_succ]
  · intro rec u q hu hq
    have l := hu.lt
    unfold bd_X7_next_94
    rw [hu.g5, bs, hu.1.g4, bs]
    by_cases c : q < n
    · rw [ile_n c (by omega), hu.1.r0, bs, bs, hu.1.a c, bs, f_isL, bs, b2i_ite, if_neg (by rw [hq c]; decide)]
    · rw [show q = n by omega, ile_e]
theorem l_di {α : Type} {kk : Mem → Option α} {Q : α → Prop} (h : TO M T t n p) (hk : ∀ M', Ft T M M' → TO M' T t n (ru isD t n p) → (∀ j, j ≠ 5 → mI M' T j = mI M T j) → ok (kk M') Q) : ok (it_ (bd_X7_next_159 T kk) FU M) Q := by
  refine l_run (kk := kk) isD h ?_ ?_ hk
  · intro rec u q hu hq hP
    have l := hu.lt
    unfold bd_X7_next_159
    rw [hu.g5, bs, hu.1.g4, bs, ile_n hq (by omega), hu.1.r0, bs, bs, hu.1.a hq, bs, f_isD, bs, b2i_ite, if_pos hP, bs, hu.1.pf, bs, i_succ]
  · intro rec u q hu hq
    have l := hu.lt
    unfold bd_X7_next_159
    rw [hu.g5, bs, hu.1.g4, bs]
    by_cases c : q < n
    · rw [ile_n c (by omega), hu.1.r0, bs, bs, hu.1.a c, bs, f_isD, bs, b2i_ite, if_neg (by rw [hq c]; decide)]
    · rw [show q = n by omega, ile_e]
/-! a word's kind -/
theorem sLen_e {a j : Nat} (h : sIx M a = some j) : sLen M a = some (Int32.ofNat (lle j)) := by
  unfold sLen
  rw [h]
  rfl
theorem sCh_e {a j i : Nat} (h : sIx M a = some j) (hj : j < 10) (hi : i < lle j) : sCh M a (Int32.ofNat i) = some (Int32.ofNat (lit j i)) := by
  have l := lle_r j hj
  unfold sCh
  rw [h]
  show (if Int32.ofNat i < 0 ∨ lle j ≤ (Int32.ofNat i).toNatClampNeg then none else some (Int32.ofNat (lit j (Int32.ofNat i).toNatClampNeg))) = _
  rw [if_neg (vin_e hi (by omega)), i_idx (by omega)]
theorem f_isW {a j s e : Nat} (h : TB M T t n) (h3 : mI M T 3 = Int32.ofNat s) (h5 : mI M T 5 = Int32.ofNat e) (hse : s ≤ e) (he : e ≤ n) (ha : sIx M a = some j) (hj : j < 10) : f_X7_isWord M T a = some (b2i (isW t j s e)) := by
  have l := h.2.2.1
  have l2 := lle_r j hj
  refine eq_ok ?_
  unfold f_X7_isWord
  rw [h.gi, bs, h5, h.gi, bs, h3, sLen_e ha, bs, i_sub hse]
  by_cases c : e - s = lle j
  · rw [if_pos (by rw [c])]
    refine it_r (I := fun i (u : Int32) => u = Int32.ofNat i ∧ ∀ k, k < i → t (s + k) = Int32.ofNat (lit j k)) (lle j) ⟨rfl, fun k hk => absurd hk (Nat.not_lt_zero k)⟩ (by omega) ?_ ?_
    · rintro rec i u hi ⟨rfl, g⟩ hrec
      unfold bd_X7_isWord_20
      rw [sLen_e ha, bs, ile_n hi (by omega), h.r0, bs, h.gi, bs, h3, i_add, h.a (by omega), bs, sCh_e ha hj hi, bs]
      by_cases z : t (s + i) = Int32.ofNat (lit j i)
      · rw [if_pos z, i_succ]
        refine hrec _ ⟨rfl, fun k hk => ?_⟩
        by_cases y : k = i
        · rw [y]; exact z
        · exact g k (by omega)
      · rw [if_neg z]
        refine ok.pure ?_
        unfold isW
        rw [decide_eq_false (fun y => z (y.2 i hi))]
        rfl
    · rintro rec u ⟨rfl, g⟩
      unfold bd_X7_isWord_20
      rw [sLen_e ha, bs, ile_e]
      refine ok.pure ?_
      unfold isW
      rw [decide_eq_true ⟨c, g⟩]
      rfl
  · rw [if_neg (fun z => c ((i_inj (by omega) (by omega)).mp z))]
    refine ok.pure ?_
    unfold isW
    rw [decide_eq_false (fun y => c y.1)]
    rfl
theorem f_wk {lim s e : Nat} (h : TB M T t n) (hS : Sta M lim) (h3 : mI M T 3 = Int32.ofNat s) (h5 : mI M T 5 = Int32.ofNat e) (hse : s ≤ e) (he : e ≤ n) (hl : ∀ i, s ≤ i → i < e → isL (t i) = true) : f_X7_wordKind M T = some (Int32.ofNat (wkn (wd t s e) (e - s))) := by
  have l := h.2.2.1
  have key : ∀ j, j < 10 → ∃ a, gST M (10 + j) = some a ∧ f_X7_isWord M T a = some (b2i (decide (wd t s e = cW j))) := fun j hj => by
    obtain ⟨a, a1, a2⟩ := hS.2.1 j hj
    exact ⟨a, a1, by rw [f_isW h h3 h5 hse he a2 hj, isW_w hj hl]⟩
  obtain ⟨a0, x0, y0⟩ := key 0 (by omega)
  obtain ⟨a1, x1, y1⟩ := key 1 (by omega)
  obtain ⟨a2, x2, y2⟩ := key 2 (by omega)
  obtain ⟨a3, x3, y3⟩ := key 3 (by omega)
  obtain ⟨a4, x4, y4⟩ := key 4 (by omega)
  obtain ⟨a5, x5, y5⟩ := key 5 (by omega)
  obtain ⟨a6, x6, y6⟩ := key 6 (by omega)
  obtain ⟨a7, x7, y7⟩ := key 7 (by omega)
  obtain ⟨a8, x8, y8⟩ := key 8 (by omega)
  obtain ⟨a9, x9, y9⟩ := key 9 (by omega)
  unfold f_X7_wordKind wkn
  rw [x0, bs, h.c, bs, y0, bs, b2i_ite]
  by_cases c0 : wd t s e = cW 0
  · rw [if_pos (decide_eq_true c0), if_pos c0]; rfl
  rw [if_neg (by rw [decide_eq_false c0]; decide), if_neg c0, x1, bs, bs, y1, bs, b2i_ite]
  by_cases c1 : wd t s e = cW 1
  · rw [if_pos (decide_eq_true c1), if_pos c1]; rfl
  rw [if_neg (by rw [decide_eq_false c1]; decide), if_neg c1, x2, bs, bs, y2, bs, b2i_ite]
  by_cases c2 : wd t s e = cW 2
  · rw [if_pos (decide_eq_true c2), if_pos c2]; rfl
  rw [if_neg (by rw [decide_eq_false c2]; decide), if_neg c2, x3, bs, bs, y3, bs, b2i_ite]
  by_cases c3 : wd t s e = cW 3
  · rw [if_pos (decide_eq_true c3), if_pos c3]; rfl
  rw [if_neg (by rw [decide_eq_false c3]; decide), if_neg c3, x4, bs, bs, y4, bs, b2i_ite]
  by_cases c4 : wd t s e = cW 4
  · rw [if_pos (decide_eq_true c4), if_pos c4]; rfl
  rw [if_neg (by rw [decide_eq_false c4]; decide), if_neg c4, x5, bs, bs, y5, bs, b2i_ite]
  by_cases c5 : wd t s e = cW 5
  · rw [if_pos (decide_eq_true c5), if_pos c5]; rfl
  rw [if_neg (by rw [decide_eq_false c5]; decide), if_neg c5, x6, bs, bs, y6, bs, b2i_ite]
  by_cases c6 : wd t s e = cW 6
  · rw [if_pos (decide_eq_true c6), if_pos c6]; rfl
  rw [if_neg (by rw [decide_eq_false c6]; decide), if_neg c6, x7, bs, bs, y7, bs, b2i_ite]
  by_cases c7 : wd t s e = cW 7
  · rw [if_pos (decide_eq_true c7), if_pos c7]; rfl
  rw [if_neg (by rw [decide_eq_false c7]; decide), if_neg c7, x8, bs, bs, y8, bs, b2i_ite]
  by_cases c8 : wd t s e = cW 8
  · rw [if_pos (decide_eq_true c8), if_pos c8]; rfl
  rw [if_neg (by rw [decide_eq_false c8]; decide), if_neg c8, x9, bs, bs, y9, bs, b2i_ite]
  by_cases c9 : wd t s e = cW 9
  · rw [if_pos (decide_eq_true c9), if_pos c9]; rfl
  rw [if_neg (by rw [decide_eq_false c9]; decide), if_neg c9, h.gi, bs, h5, h.gi, bs, h3, i_sub hse]
  by_cases z : e - s ≤ 6
  · rw [if_neg (by rw [show (6 : Int32) = Int32.ofNat 6 from rfl, i_lt (by omega) (by omega)]; omega), if_pos z]; rfl
  · rw [if_pos (by rw [show (6 : Int32) = Int32.ofNat 6 from rfl, i_lt (by omega) (by omega)]; omega), if_neg z]; rfl
theorem ok.bid {α : Type} {X : Option α} {Q : α → Prop} (h : ok X Q) : ok (X >>= fun (j : α) => some j) Q := ok.bind (h.mono fun _ z => ok.pure z)
theorem c_next {lim : Nat} (h : TO M T t n p) (hS : Sta M lim) (hT : lim ≤ T) : ok (f_X7_next M T) (fun M' => Ft T M M' ∧ TC M' T t n p) := by
  unfold f_X7_next
  refine l_sp h fun M1 F1 O1 => ?_
  have l := h.lt
  obtain ⟨s, es⟩ : ∃ s, s = ru isS t n p := ⟨_, rfl⟩
  have es2 : tS t n p = s := es.symm
  rw [← es] at O1
  have ls : s ≤ n := O1.2.2
  rw [O1.g5, bs, O1.1.pf, bs]
  obtain ⟨M2, q2⟩ : ∃ z, z = sI M1 T 3 (Int32.ofNat s) := ⟨_, rfl⟩
  rw [← q2]
  have F2 : Ft T M1 M2 := by rw [q2]; exact Ft.sI (by omega) _
  have B2 : TB M2 T t n := O1.1.ft F2
  have v3 : mI M2 T 3 = Int32.ofNat s := by rw [q2, i_sI, if_pos ⟨rfl, rfl⟩]
  have v5 : mI M2 T 5 = Int32.ofNat s := by rw [q2, i_sI, if_neg (by omega)]; exact O1.2.1
  have O2 : TO M2 T t n s := ⟨B2, v5, ls⟩
  have fin : ∀ M3 e k, Ft T M2 M3 → mI M3 T 3 = Int32.ofNat s → mI M3 T 5 = Int32.ofNat e → mI M3 T 2 = Int32.ofNat k → tE t n p = e → tK t n p = k → Ft T M M3 ∧ TC M3 T t n p := fun M3 e k a b c d e1 e2 => ⟨F1.trans (F2.trans a), B2.ft a, by rw [es2]; exact b, by rw [e1]; exact c, by rw [e2]; exact d, l.2⟩
  rw [B2.gi, bs, v3, B2.g4, bs]
  refine ok.bid ?_
  by_cases c : s < n
  · have c' : ¬ n ≤ tS t n p := by omega
    rw [if_pos ((i_lt (by omega) (by omega)).mpr c), B2.r0, bs, bs, B2.a c, bs, f_isL, bs, b2i_ite]
    by_cases c1 : isL (t s) = true
    · rw [if_pos c1]
      refine l_le O2 fun M3 F3 O3 K3 => ?_
      have w3 : mI M3 T 3 = Int32.ofNat s := by rw [K3 3 (by omega)]; exact v3
      have eE : tE t n p = ru isL t n s := by
        unfold tE
        rw [if_neg c', es2, if_pos c1]
      rw [O3.1.c, bs, f_wk O3.1 (hS.fq (F1.trans (F2.trans F3)).fq hT) w3 O3.2.1 (ru_ge _) O3.2.2 (fun i h1 h2 => ru_in h1 h2), bs, O3.1.pf, bs]
      refine ok.pure (fin _ (ru isL t n s) (wkn (wd t s (ru isL t n s)) (ru isL t n s - s)) (F3.trans (Ft.sI (by omega) _)) ?_ ?_ ?_ eE ?_)
      · rw [i_sI, if_neg (by omega)]; exact w3
      · rw [i_sI, if_neg (by omega)]; exact O3.2.1
      · rw [i_sI, if_pos ⟨rfl, rfl⟩]
      · unfold tK
        rw [if_neg c', eE, es2, if_pos c1]
    · rw [if_neg c1, bs, bs, B2.a c, bs, f_isD, bs, b2i_ite]
      by_cases c2 : isD (t s) = true
      · rw [if_pos c2]
        refine l_di O2 fun M3 F3 O3 K3 => ?_
        have eE : tE t n p = ru isD t n s := by
          unfold tE
          rw [if_neg c', es2, if_neg c1, if_pos c2]
        rw [O3.1.pf, bs]
        refine ok.pure (fin _ (ru isD t n s) 2 (F3.trans (Ft.sI (by omega) _)) ?_ ?_ ?_ eE ?_)
        · rw [i_sI, if_neg (by omega), K3 3 (by omega)]; exact v3
        · rw [i_sI, if_neg (by omega)]; exact O3.2.1
        · rw [i_sI, if_pos ⟨rfl, rfl⟩]; rfl
        · unfold tK
          rw [if_neg c', es2, if_neg c1, if_pos c2]
      · have eE : tE t n p = s + 1 := by
          unfold tE
          rw [if_neg c', es2, if_neg c1, if_neg c2]
        rw [if_neg c2, O2.g5, bs, B2.pf, bs, i_succ]
        obtain ⟨M3, q3⟩ : ∃ z, z = sI M2 T 5 (Int32.ofNat (s + 1)) := ⟨_, rfl⟩
        rw [← q3]
        have F3 : Ft T M2 M3 := by rw [q3]; exact Ft.sI (by omega) _
        have B3 := B2.ft F3
        have w3 : mI M3 T 3 = Int32.ofNat s := by rw [q3, i_sI, if_neg (by omega)]; exact v3
        rw [B3.r0, bs, B3.gi, bs, w3, B3.a c, bs, is_, bs, B3.pf, bs]
        refine ok.pure (fin _ (s + 1) (if t s = 59 then 3 else 4) (F3.trans (Ft.sI (by omega) _)) ?_ ?_ ?_ eE ?_)
        · rw [i_sI, if_neg (by omega)]; exact w3
        · rw [i_sI, if_neg (by omega), q3, i_sI, if_pos ⟨rfl, rfl⟩]
        · rw [i_sI, if_pos ⟨rfl, rfl⟩]
          split <;> rfl
        · unfold tK
          rw [if_neg c', es2, if_neg c1, if_neg c2]
  · have c' : n ≤ tS t n p := by omega
    have eE : tE t n p = s := by
      unfold tE
      rw [if_pos c', es2]
    rw [if_neg (fun z => c ((i_lt (by omega) (by omega)).mp z)), B2.pf, bs]
    refine ok.pure (fin _ s 0 (Ft.sI (by omega) _) ?_ ?_ ?_ eE ?_)
    · rw [i_sI, if_neg (by omega)]; exact v3
    · rw [i_sI, if_neg (by omega)]; exact v5
    · rw [i_sI, if_pos ⟨rfl, rfl⟩]; rfl
    · unfold tK
      rw [if_pos c']
end
