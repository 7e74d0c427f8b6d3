/-! ===== the class reads names, numbers, lists ===== -/
section
variable {M M' M1 M2 : Mem} {t : Nat → Int32} {n p q T b : Nat} {D : Bl}
theorem sh5 (v : Nat) {d : Nat} (hd : d < 32) : (Int32.ofNat v <<< (5 &&& 31)) ||| Int32.ofNat d = Int32.ofNat (v * 32 + d) := by
  refine hs_ext fun i hi => ?_
  rw [hs_or hi, hs_bi hi, show ((5 : Int32) &&& 31) = (nI 5 &&& 31) from rfl, b_shl 5 (by omega) _ hi, hs_N _ hi, hs_N _ hi, Nat.mul_comm, show (32 : Nat) = 2 ^ 5 from rfl, Nat.testBit_two_pow_mul_add _ hd]
  by_cases c : i < 5
  · rw [if_pos c, decide_eq_false (by omega)]; rfl
  · have e : 2 ^ 5 ≤ 2 ^ i := Nat.pow_le_pow_right (by omega) (by omega)
    rw [if_neg c, decide_eq_true (by omega), ← hs_bi (by omega), hs_N _ (by omega), Nat.testBit_lt_two_pow (x := d) (by omega)]
    simp
theorem dg_i {c : Int32} (h : isL c = true) : c - 97 + 1 = Int32.ofNat (dg c) := by
  have h1 := isL_i h
  have h2 := dg_l h
  have e1 : (97 : Int32).toInt = 97 := rfl
  have e2 : (1 : Int32).toInt = 1 := rfl
  have e3 : (c - 97).toInt = c.toInt - 97 := by rw [fb_subI] <;> rw [e1] <;> omega
  rw [eq_i, i_toInt (by omega), fb_addI] <;> rw [e2, e3] <;> omega
theorem dgx_lt (h : ∀ i, q ≤ i → i < p → isL (t i) = true) (i : Nat) : dgx t q p i < 32 := by
  unfold dgx
  split
  · rename_i z
    exact (dg_l (h (q + i) (by omega) z)).2.1
  · omega
theorem f_let (h : TC M T t n p) (hk : tK t n p = 1) : f_X7_letters M T = some (tL t n p) := by
  obtain ⟨c1, -, c6⟩ := tK_1.mp hk
  obtain ⟨sn, -, hl⟩ := tC_L c1
  have en := tE_le (t := t) h.2.2.2.2
  have l := h.1.2.2.1
  refine eq_ok ?_
  unfold f_X7_letters tL
  rw [h.1.gi, bs, h.2.1]
  have h5 := h.2.2.1
  have h3 := h.2.1
  refine it_r (I := fun i (u : Int32 × Int32) => u = (Int32.ofNat (v32 (dgx t (tS t n p) (tE t n p)) i), Int32.ofNat (tS t n p + i))) 6 rfl (by omega) ?_ ?_
  · rintro rec i _ hi rfl hrec
    unfold bd_X7_letters_7
    rw [h.1.gi, bs, h3, show (6 : Int32) = Int32.ofNat 6 from rfl, i_add, ile_n (by omega) (by omega), h.1.gi, bs, h5]
    have key : (if Int32.ofNat (tE t n p) ≤ Int32.ofNat (tS t n p + i) then some (0 : Int32) else gFR M T 7 0 >>= fun (r10 : Nat) => aB M r10 (Int32.ofNat (tS t n p + i)) >>= fun (x11 : Int32) => some ((x11 - 97) + 1)) = some (Int32.ofNat (dgx t (tS t n p) (tE t n p) i)) := by
      unfold dgx
      by_cases c : tS t n p + i < tE t n p
      · rw [ile_n c (by omega), if_pos c, h.1.r0, bs, h.1.a (by omega), bs, dg_i (hl _ (by omega) c)]
      · rw [if_neg c, if_pos (by rw [i_le (by omega) (by omega)]; omega)]; rfl
    rw [key, bs, ltq, sh5 _ (dgx_lt hl i), i_succ]
    exact hrec _ rfl
  · rintro rec _ rfl
    unfold bd_X7_letters_7
    rw [h.1.gi, bs, h3, show (6 : Int32) = Int32.ofNat 6 from rfl, i_add, ile_e]
    exact ok.pure rfl
theorem dn_l {c : Int32} (h : isD c = true) : dn c < 10 ∧ (dn c : Int) = c.toInt - 48 := by
  have := isD_i h
  unfold dn
  omega
theorem dn_i {c : Int32} (h : isD c = true) {v : Nat} (hv : v ≤ 100001) : Int32.ofNat v * 10 + c - 48 = Int32.ofNat (v * 10 + dn c) := by
  have h1 := isD_i h
  have h2 := dn_l h
  have e1 : (48 : Int32).toInt = 48 := rfl
  rw [show (10 : Int32) = Int32.ofNat 10 from rfl, i_mul]
  have e2 : (Int32.ofNat (v * 10)).toInt = ((v * 10 : Nat) : Int) := i_toInt (by omega)
  have e3 : (Int32.ofNat (v * 10) + c).toInt = (Int32.ofNat (v * 10)).toInt + c.toInt := by
    rw [fb_addI] <;> rw [e2] <;> omega
  rw [eq_i, i_toInt (by omega), fb_subI] <;> rw [e1, e3, e2] <;> omega
theorem f_num (h : TC M T t n p) (hk : tK t n p = 2) : f_X7_number M T = some (Int32.ofNat (min (tV t n p) 100001)) := by
  obtain ⟨sn, -, hl⟩ := tC_D ((tK_o (Or.inr (Or.inl rfl))).mp hk)
  have en := tE_le (t := t) h.2.2.2.2
  have eg := tE_ge (t := t) (n := n) p
  have l := h.1.2.2.1
  refine eq_ok ?_
  unfold f_X7_number
  rw [h.1.gi, bs, h.2.1]
  have h5 := h.2.2.1
  refine it_r (I := fun i (u : Int32 × Int32) => u = (Int32.ofNat (min (nv t (tS t n p) i) 100001), Int32.ofNat (tS t n p + i))) (tE t n p - tS t n p) rfl (by omega) ?_ ?_
  · rintro rec i _ hi rfl hrec
    have dl := hl (tS t n p + i) (by omega) (by omega)
    have d2 := dn_l dl
    have es : nv t (tS t n p) (i + 1) = nv t (tS t n p) i * 10 + dn (t (tS t n p + i)) := rfl
    unfold bd_X7_number_7
    rw [h.1.gi, bs, h5, ile_n (by omega) (by omega), h.1.r0, bs, h.1.a (by omega), bs, ltq]
    dsimp only
    rw [dn_i dl (by omega), show (100001 : Int32) = Int32.ofNat 100001 from rfl]
    have e : (if Int32.ofNat 100001 < Int32.ofNat (min (nv t (tS t n p) i) 100001 * 10 + dn (t (tS t n p + i))) then Int32.ofNat 100001 else Int32.ofNat (min (nv t (tS t n p) i) 100001 * 10 + dn (t (tS t n p + i)))) = Int32.ofNat (min (nv t (tS t n p) (i + 1)) 100001) := by
      rw [es]
      by_cases c : 100001 < min (nv t (tS t n p) i) 100001 * 10 + dn (t (tS t n p + i))
      · rw [if_pos ((i_lt (by omega) (by omega)).mpr c)]
        congr 1
        omega
      · rw [if_neg (fun z => c ((i_lt (by omega) (by omega)).mp z))]
        congr 1
        omega
    rw [e, i_succ]
    exact hrec _ rfl
  · rintro rec _ rfl
    unfold bd_X7_number_7
    rw [h.1.gi, bs, h5, show tS t n p + (tE t n p - tS t n p) = tE t n p by omega, ile_e]
    exact ok.pure rfl
/-! what is read, plainly -/
/-- a new name -/
def nN (t : Nat → Int32) (n : Nat) (D : Bl) (q : Nat) : Int32 := if tK t n q = 1 then (if plN (D 1) (tL t n q) (cn D 0) < 0 ∧ plN (D 3) (tL t n q) (cn D 1) < 0 then tL t n q else -14) else -11
def nI_ (t : Nat → Int32) (n lo hi q : Nat) : Int32 := if tK t n q = 2 then (if lo ≤ tV t n q ∧ tV t n q ≤ hi then Int32.ofNat (tV t n q) else -12) else -11
/-- a list of names -/
def lst (t : Nat → Int32) (n : Nat) (r : Nat → Int32) (c : Nat) : Nat → Int32 → Nat → Int32 × Nat
  | 0, s, q => (s, q)
  | f + 1, s, q => if tK t n q = 1 then (if plN r (tL t n q) c < 0 then (-13, q) else if hs s (plN r (tL t n q) c) = true then (-14, q) else lst t n r c f (s ||| ((1 : Int32) <<< (plN r (tL t n q) c &&& 31))) (tE t n q)) else ((if s = 0 then -11 else s), q)
theorem lst_s {r : Nat → Int32} {c f : Nat} {s : Int32} : lst t n r c (f + 1) s q = if tK t n q = 1 then (if plN r (tL t n q) c < 0 then (-13, q) else if hs s (plN r (tL t n q) c) = true then (-14, q) else lst t n r c f (s ||| ((1 : Int32) <<< (plN r (tL t n q) c &&& 31))) (tE t n q)) else ((if s = 0 then -11 else s), q) := rfl
/-- how many places are free -/
def fre (c : Nat) (s : Int32) : Nat := sN c (fun k => if hs s (Int32.ofNat k) = true then 0 else 1)
theorem sN_one {f g : Nat → Nat} {k : Nat} : ∀ c, k < c → f k = 1 → g k = 0 → (∀ j, j ≠ k → f j = g j) → sN c g + 1 = sN c f := by
  intro c
  induction c with
  | zero => intro h; exact absurd h (Nat.not_lt_zero _)
  | succ c ih =>
    intro h h1 h2 h3
    rw [sN_s, sN_s]
    by_cases e : c = k
    · subst e
      rw [h1, h2, sN_c (f := g) (g := f) (fun i hi => (h3 i (by omega)).symm)]
    · rw [h3 c e]
      have := ih (by omega) h1 h2 h3
      omega
theorem fre_s {c k : Nat} {s : Int32} (hk : k < c) (hc : c ≤ 32) (h : hs s (Int32.ofNat k) = false) : fre c (s ||| ((1 : Int32) <<< (Int32.ofNat k &&& 31))) + 1 = fre c s := by
  unfold fre
  have e : sN c (fun j => if hs (s ||| ((1 : Int32) <<< (Int32.ofNat k &&& 31))) (Int32.ofNat j) = true then 0 else 1) = sN c (fun j => if (hs s (Int32.ofNat j) || decide (j = k)) = true then 0 else 1) := sN_c fun j hj => by
    rw [hs_or (by omega), hs_one (by omega) (by omega)]
  rw [e]
  refine sN_one c hk ?_ ?_ fun j hj => ?_
  · rw [h]; rfl
  · rw [decide_eq_true rfl, Bool.or_true]; rfl
  · rw [decide_eq_false hj, Bool.or_false]
theorem fre_0 {c : Nat} (hc : c ≤ 32) : fre c 0 = c := by
  have : ∀ k, k ≤ c → fre k 0 = k := by
    intro k
    induction k with
    | zero => intro _; rfl
    | succ k ih =>
      intro hk
      show fre k 0 + (if hs 0 (Int32.ofNat k) = true then 0 else 1) = k + 1
      rw [ih (by omega), hs_0 (by omega)]; rfl
  exact this c (Nat.le_refl _)
theorem plN_r {r : Nat → Int32} {x : Int32} : ∀ c, c < 2147483648 → ¬ plN r x c < 0 → ∃ k, k < c ∧ plN r x c = Int32.ofNat k := by
  intro c
  induction c with
  | zero => intro _ h; exact absurd m1_neg h
  | succ c ih =>
    intro hc h
    rw [plN_s] at h ⊢
    by_cases z : plN r x c < 0
    · rw [if_pos z] at h ⊢
      by_cases y : r c = x
      · rw [if_pos y]; exact ⟨c, by omega, rfl⟩
      · rw [if_neg y] at h; exact absurd z h
    · rw [if_neg z]
      obtain ⟨k, h1, h2⟩ := ih (by omega) z
      exact ⟨k, by omega, h2⟩
theorem nn_lt (x : Int32) : 0 ≤ x ↔ ¬ x < 0 := by
  have e : (0 : Int32).toInt = 0 := rfl
  rw [le_i, lt_i, e]
  omega
/-! the class -/
theorem c_name {lim : Nat} (h : TO M T t n q) (hS : Sta M lim) (hT : lim ≤ T) (hB : IsB M b D) (hb : T + 2 ≤ b) : ok (f_X5_newName M T b) (fun o => o.1 = nN t n D q ∧ Ft T M o.2 ∧ TC o.2 T t n q) := by
  unfold f_X5_newName
  rw [h.1.c, bs]
  refine ok.seq (c_next h hS hT) ?_
  rintro M1 ⟨F1, C1⟩
  have B1 := hB.fq F1.fq (by omega)
  have l1 := tK_r (t := t) (n := n) q
  rw [C1.k, bs, show (1 : Int32) = Int32.ofNat 1 from rfl]
  unfold nN
  by_cases c : tK t n q = 1
  · rw [if_pos (by rw [c]), if_pos c, C1.1.c, bs, f_let C1 c, bs, B1.s.r1, bs, B1.g0, bs]
    have w1 : f_X8_place M1 (b + 1) (Int32.ofNat (cn D 0)) (tL t n q) = some (plN (D 1) (tL t n q) (cn D 0)) := f_place B1.s.k1 (Or.inl rfl) B1.n.2.1 (by omega) (fun i hi => B1.2.2.2 1 (by omega) (by omega) i hi) _
    have w3 : f_X8_place M1 (b + 3) (Int32.ofNat (cn D 1)) (tL t n q) = some (plN (D 3) (tL t n q) (cn D 1)) := f_place B1.s.k3 (Or.inl rfl) B1.n.2.2.1 (by omega) (fun i hi => B1.2.2.2 3 (by omega) (by omega) i hi) _
    rw [w1, bs, B1.s.r3, bs, B1.g1, bs, w3, bs, is_]
    by_cases c1 : plN (D 1) (tL t n q) (cn D 0) < 0
    · rw [if_neg (fun z => (nn_lt _).mp z c1), bs]
      by_cases c2 : plN (D 3) (tL t n q) (cn D 1) < 0
      · rw [if_pos c2, if_pos rfl, if_pos ⟨c1, c2⟩, bs]
        exact ok.pure ⟨rfl, F1, C1⟩
      · rw [if_neg c2, if_neg (by decide), if_neg (fun z => c2 z.2), bs]
        exact ok.pure ⟨rfl, F1, C1⟩
    · rw [if_pos ((nn_lt _).mpr c1), bs, if_neg (by decide), if_neg (fun z => c1 z.1), bs]
      exact ok.pure ⟨rfl, F1, C1⟩
  · rw [if_neg (fun z => c ((i_inj (by omega) (by omega)).mp z)), if_neg c]
    exact ok.pure ⟨rfl, F1, C1⟩
theorem c_int {lim lo hi : Nat} (h : TO M T t n q) (hS : Sta M lim) (hT : lim ≤ T) (hlo : lo ≤ 100000) (hhi : hi ≤ 100000) : ok (f_X5_integer M T (Int32.ofNat lo) (Int32.ofNat hi)) (fun o => o.1 = nI_ t n lo hi q ∧ Ft T M o.2 ∧ TC o.2 T t n q) := by
  unfold f_X5_integer
  rw [h.1.c, bs]
  refine ok.seq (c_next h hS hT) ?_
  rintro M1 ⟨F1, C1⟩
  have l1 := tK_r (t := t) (n := n) q
  rw [C1.k, bs, show (2 : Int32) = Int32.ofNat 2 from rfl]
  unfold nI_
  by_cases c : tK t n q = 2
  · rw [if_pos (by rw [c]), if_pos c, C1.1.c, bs, f_num C1 c, bs]
    by_cases c1 : lo ≤ tV t n q
    · rw [if_neg (by rw [i_lt (by omega) (by omega)]; omega)]
      by_cases c2 : tV t n q ≤ hi
      · rw [if_pos (by rw [i_le (by omega) (by omega)]; omega), if_pos ⟨c1, c2⟩, bs, show min (tV t n q) 100001 = tV t n q by omega]
        exact ok.pure ⟨rfl, F1, C1⟩
      · rw [if_neg (by rw [i_le (by omega) (by omega)]; omega), if_neg (fun z => c2 z.2), bs]
        exact ok.pure ⟨rfl, F1, C1⟩
    · rw [if_pos (by rw [i_lt (by omega) (by omega)]; omega), if_neg (fun z => c1 z.1), bs]
      exact ok.pure ⟨rfl, F1, C1⟩
  · rw [if_neg (fun z => c ((i_inj (by omega) (by omega)).mp z)), if_neg c]
    exact ok.pure ⟨rfl, F1, C1⟩
theorem c_list {lim a c N : Nat} {r : Nat → Int32} (h : TO M T t n q) (hS : Sta M lim) (hT : lim ≤ T) (ha : T + 2 ≤ a) (hk : mK M a = (20, N)) (hc : c ≤ N) (hN : N ≤ 12) (hr : ∀ i, i < c → mI M a i = r i) : ok (f_X5_list M T a (Int32.ofNat c)) (fun o => o.1 = (lst t n r c (c + 1) 0 q).1 ∧ Ft T M o.2 ∧ TC o.2 T t n (lst t n r c (c + 1) 0 q).2) := by
  unfold f_X5_list
  refine it_r (I := fun i (u : Int32 × Int32 × Mem) => ∃ q', u.2.1 = Int32.ofNat i ∧ lst t n r c (c + 1) 0 q = lst t n r c (c + 1 - i) u.1 q' ∧ fre c u.1 + i = c ∧ Ft T M u.2.2 ∧ TO u.2.2 T t n q') (c + 1) ⟨q, rfl, rfl, by rw [fre_0 (by omega)]; rfl, Ft.rf, h⟩ (by omega) ?_ ?_
  · rintro rec i ⟨s, _, M1⟩ hi ⟨q', rfl, e1, e2, F1, O1⟩ hrec
    dsimp only at e1 e2 F1 O1
    unfold bd_X5_list_5
    dsimp only
    rw [if_neg (by rw [i_lt (by omega) (by omega)]; omega), O1.1.c, bs]
    refine ok.seq (c_next O1 (hS.fq F1.fq hT) hT) ?_
    rintro M2 ⟨F2, C2⟩
    have l1 := tK_r (t := t) (n := n) q'
    have F12 := F1.trans F2
    rw [show c + 1 - i = c - i + 1 by omega, lst_s (s := s) (q := q') (f := c - i)] at e1
    rw [C2.k, bs, show (1 : Int32) = Int32.ofNat 1 from rfl]
    by_cases k1 : tK t n q' = 1
    · have w : f_X8_place M2 a (Int32.ofNat c) (tL t n q') = some (plN r (tL t n q') c) := f_place (by rw [F12.1]; exact hk) (Or.inl rfl) hc (by omega) (fun i hi => by rw [F12.2.2.2.2 _ _ (by omega)]; exact hr i hi) _
      rw [if_pos k1] at e1
      rw [if_pos (by rw [k1]), C2.1.c, bs, f_let C2 k1, bs, w, bs]
      by_cases k2 : plN r (tL t n q') c < 0
      · rw [if_pos k2] at e1
        rw [if_neg (fun z => (nn_lt _).mp z k2), e1]
        exact ok.pure ⟨rfl, F12, C2⟩
      · obtain ⟨k, kc, ke⟩ := plN_r c (by omega) k2
        rw [if_neg k2] at e1
        rw [if_pos ((nn_lt _).mpr k2), f_has8, bs, b2i_ite]
        by_cases k3 : hs s (plN r (tL t n q') c) = true
        · rw [if_pos k3] at e1
          rw [if_pos k3, e1]
          exact ok.pure ⟨rfl, F12, C2⟩
        · rw [if_neg k3] at e1
          rw [if_neg k3, ltq, i_add, show Int32.ofNat 1 = (1 : Int32) from rfl]
          have k4 : hs s (Int32.ofNat k) = false := by rw [← ke]; exact Bool.eq_false_iff.mpr k3
          have k5 := fre_s (s := s) kc (by omega) k4
          refine hrec (_, _, M2) ⟨tE t n q', rfl, ?_, ?_, F12, C2.o⟩
          · dsimp only
            rw [e1, show c + 1 - (i + 1) = c - i by omega]
          · dsimp only
            rw [ke]
            omega
    · rw [if_neg k1] at e1
      rw [if_neg (fun z => k1 ((i_inj (by omega) (by omega)).mp z)), is_, bs, e1]
      exact ok.pure ⟨rfl, F12, C2⟩
  · rintro rec ⟨s, _, M1⟩ ⟨q', rfl, e1, e2, F1, O1⟩
    exfalso
    dsimp only at e2
    omega
end
