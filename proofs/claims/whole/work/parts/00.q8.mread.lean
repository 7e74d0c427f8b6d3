/-! ===== the reference reads names, numbers, lists ===== -/
section
variable {M M' M0 M1 M2 : Mem} {t : Nat → Int32} {n p q m hi : Nat} {D : Bl} {c : Int32}
/-- read well so far: the token read from q on is at hand -/
def GN (m : Nat) (t : Nat → Int32) (n : Nat) (M0 : Mem) (q : Nat) (M : Mem) : Prop := Nt m 27 M0 M ∧ mI M m 25 = 0 ∧ mI M m 26 = -1 ∧ NC M m t n q
/-- an error is found: its code, the token that it is at -/
def BN (m : Nat) (t : Nat → Int32) (n : Nat) (M0 : Mem) (c : Int32) (q : Nat) (M : Mem) : Prop := Nt m 27 M0 M ∧ mI M m 25 = c ∧ c ≠ 0 ∧ mI M m 26 = Int32.ofNat (tS t n q) ∧ NB M m t n
def er (M : Mem) (m : Nat) (c : Int32) : Mem := sI (sI M m 25 c) m 26 (mI M m 21)
theorem ck_1 : f_X9_check M m 1 c = some M := by
  unfold f_X9_check
  rw [if_neg (by decide)]
theorem ck_t {b : Bool} (h : b = true) : f_X9_check M m (b2i b) c = some M := by rw [h]; exact ck_1
theorem GN.s (h : GN m t n M0 q M) : IsMo M m := h.2.2.2.1.1
theorem BN.s (h : BN m t n M0 c q M) : IsMo M m := h.2.2.2.2.1
theorem ck_f {b : Bool} (h : GN m t n M0 q M) (hb : b = false) (hc : c ≠ 0) : ∃ M', f_X9_check M m (b2i b) c = some M' ∧ BN m t n M0 c q M' ∧ ∀ j, j < 25 → mI M' m j = mI M m j := by
  have F : Nt m 27 M (er M m c) := (Nt.sI (by omega) (by omega) _).trans (Nt.sI (by omega) (by omega) _)
  refine ⟨er M m c, ?_, ⟨h.1.trans F, ?_, hc, ?_, h.2.2.2.1.nt F⟩, fun j hj => ?_⟩
  · unfold f_X9_check er
    have s1 : IsMo (sI M m 25 c) m := h.s.e rfl rfl
    rw [hb, if_pos (by rfl), h.s.gi, bs, h.2.1, if_pos rfl, h.s.p, bs, s1.gi, bs, i_sI, if_neg (by omega), s1.p, bs]
  · unfold er
    rw [i_sI, if_neg (by omega), i_sI, if_pos ⟨rfl, rfl⟩]
  · unfold er
    rw [i_sI, if_pos ⟨rfl, rfl⟩]; exact h.2.2.2.2.1
  · unfold er
    rw [i_sI, if_neg (by omega), i_sI, if_neg (by omega)]
theorem ck_e0 {x e : Int32} (h : BN m t n M0 c q M) : f_X9_check M m x e = some M := by
  unfold f_X9_check
  rw [h.s.gi, bs, h.2.1, if_neg h.2.2.1]
  split <;> rfl
theorem aG_e (h : BN m t n M0 c q M) : f_X9_advanceIfGood M m = some M := by
  unfold f_X9_advanceIfGood
  rw [h.s.gi, bs, h.2.1, if_neg h.2.2.1]
  rfl
theorem aG_g (h : GN m t n M0 q M) : ok (f_X9_advanceIfGood M m) (fun M' => GN m t n M0 (tE t n q) M') := by
  unfold f_X9_advanceIfGood
  rw [h.s.gi, bs, h.2.1, if_pos rfl, h.s.c, bs]
  refine ok.bid (ok.bid ((m_adv h.2.2.2.o).mono ?_))
  rintro M' ⟨F, C⟩
  exact ⟨h.1.trans (F.wide (by omega)), by rw [F.i (by omega)]; exact h.2.1, by rw [F.i (by omega)]; exact h.2.2.1, C⟩
/-! words -/
theorem lgW {w k : Nat} (hw : w < 9223372036854775808) (hk : k < 9223372036854775808) : lg_cmp (Int64.ofNat w) (Int64.ofNat k) = 0 ↔ w = k := by
  rw [(lg_lt _ _).1, Int64.toInt_ofNat_of_lt (by omega), Int64.toInt_ofNat_of_lt (by omega)]
  omega
theorem tW_lt : tW t n p < 1152921504606846976 := by
  unfold tW
  by_cases z : tC t n p = 1
  · rw [if_pos z]; exact wd_lt12 (tC_L z).2.2
  · rw [if_neg z]; omega
theorem lg6 (h : NC M m t n p) {k : Nat} (hk : k < 9223372036854775808) : (lg_cmp (mL M m 23) (Int64.ofNat k) = 0) ↔ tW t n p = k := by
  have := tW_lt (t := t) (n := n) (p := p)
  rw [h.2.2.2.2.1]
  exact lgW (by omega) hk
theorem m_isW (h : GN m t n M0 p M) (j : Nat) (hj : j < 10) : f_X9_isWord M m (Int64.ofNat (cW j)) = some (b2i (decide (tK t n p = 5 + j))) := by
  have w := (cW_v j hj).2.2
  have key := lg6 h.2.2.2 (k := cW j) (by omega)
  have lc : tC t n p < 5 := by unfold tC; split; omega; split; omega; split; omega; split <;> omega
  unfold f_X9_isWord
  rw [h.s.gi, bs, h.2.1, if_pos rfl, h.s.gi, bs, h.2.2.2.2.2.2.1, show (1 : Int32) = Int32.ofNat 1 from rfl]
  have jk := tK_j (t := t) (n := n) (p := p) hj
  by_cases c1 : tC t n p = 1
  · rw [if_pos (by rw [c1]), h.s.gl, bs]
    have e : tW t n p = wd t (tS t n p) (tE t n p) := if_pos c1
    by_cases c2 : tW t n p = cW j
    · rw [if_pos (key.mpr c2), decide_eq_true (jk.mpr ⟨c1, by rw [← e]; exact c2⟩)]; rfl
    · rw [if_neg (fun z => c2 (key.mp z)), decide_eq_false (fun z => c2 (by rw [e]; exact (jk.mp z).2))]; rfl
  · rw [if_neg (fun z => c1 ((i_inj (by omega) (by omega)).mp z)), decide_eq_false (fun z => c1 (jk.mp z).1)]; rfl
theorem isW_e (h : BN m t n M0 c q M) (w : Int64) : f_X9_isWord M m w = some 0 := by
  unfold f_X9_isWord
  rw [h.s.gi, bs, h.2.1, if_neg h.2.2.1]
  rfl
theorem m_kw (h : NC M m t n p) : f_X9_isKeyword M m = some (b2i (decide (tW t n p = cW 2 ∨ tW t n p = cW 3 ∨ tW t n p = cW 4 ∨ tW t n p = cW 5 ∨ tW t n p = cW 6 ∨ tW t n p = cW 8 ∨ tW t n p = cW 9))) := by
  have k2 := lg6 h (k := cW 2) (by decide)
  have k3 := lg6 h (k := cW 3) (by decide)
  have k4 := lg6 h (k := cW 4) (by decide)
  have k5 := lg6 h (k := cW 5) (by decide)
  have k6 := lg6 h (k := cW 6) (by decide)
  have k8 := lg6 h (k := cW 8) (by decide)
  have k9 := lg6 h (k := cW 9) (by decide)
  have s := h.1.1
  unfold f_X9_isKeyword
  rw [show (23580850 : Int64) = Int64.ofNat (cW 2) from rfl, show (302 : Int64) = Int64.ofNat (cW 3) from rfl, show (6642 : Int64) = Int64.ofNat (cW 4) from rfl, show (19636 : Int64) = Int64.ofNat (cW 5) from rfl, show (24627848 : Int64) = Int64.ofNat (cW 6) from rfl, show (643248 : Int64) = Int64.ofNat (cW 8) from rfl, show (16322738 : Int64) = Int64.ofNat (cW 9) from rfl]
  simp only [s.gl, bs, k2, k3, k4, k5, k6, k8, k9]
  by_cases c2 : tW t n p = cW 2
  · rw [if_pos c2, decide_eq_true (Or.inl c2)]; rfl
  rw [if_neg c2]
  by_cases c3 : tW t n p = cW 3
  · rw [if_pos c3, decide_eq_true (Or.inr (Or.inl c3))]; rfl
  rw [if_neg c3]
  by_cases c4 : tW t n p = cW 4
  · rw [if_pos c4, decide_eq_true (Or.inr (Or.inr (Or.inl c4)))]; rfl
  rw [if_neg c4]
  by_cases c5 : tW t n p = cW 5
  · rw [if_pos c5, decide_eq_true (Or.inr (Or.inr (Or.inr (Or.inl c5))))]; rfl
  rw [if_neg c5]
  by_cases c6 : tW t n p = cW 6
  · rw [if_pos c6, decide_eq_true (Or.inr (Or.inr (Or.inr (Or.inr (Or.inl c6)))))]; rfl
  rw [if_neg c6]
  by_cases c8 : tW t n p = cW 8
  · rw [if_pos c8, decide_eq_true (Or.inr (Or.inr (Or.inr (Or.inr (Or.inr (Or.inl c8))))))]; rfl
  rw [if_neg c8]
  by_cases c9 : tW t n p = cW 9
  · rw [if_pos c9, decide_eq_true (Or.inr (Or.inr (Or.inr (Or.inr (Or.inr (Or.inr c9))))))]; rfl
  rw [if_neg c9, decide_eq_false (fun z => by
    rcases z with z | z | z | z | z | z | z
    · exact c2 z
    · exact c3 z
    · exact c4 z
    · exact c5 z
    · exact c6 z
    · exact c8 z
    · exact c9 z)]
  rfl
/-- a name at hand, or none -/
theorem m_isN (h : NC M m t n p) : (if mI M m 22 = 1 then (gFI M m 9 20 >>= fun (x14 : Int32) => gFI M m 9 21 >>= fun (x15 : Int32) => if 6 < (x14 - x15) then some (0 : Int32) else (ck M m 9 >>= fun _ => f_X9_isKeyword M m >>= fun (o16 : Int32) => if o16 = 0 then some 1 else some 0)) else some 0) = some (b2i (decide (tK t n p = 1))) := by
  have s := h.1.1
  have ln := h.1.2.2.1
  have eg := tE_ge (t := t) (n := n) p
  have en := tE_le (t := t) h.2.2.2.2.2.2
  have lc : tC t n p < 5 := by unfold tC; split; omega; split; omega; split; omega; split <;> omega
  have k1 := tK_1 (t := t) (n := n) (p := p)
  rw [h.2.2.2.1, show (1 : Int32) = Int32.ofNat 1 from rfl]
  by_cases c1 : tC t n p = 1
  · rw [if_pos (by rw [c1]), s.gi, bs, h.2.2.1, s.gi, bs, h.2.1, i_sub eg, show (6 : Int32) = Int32.ofNat 6 from rfl]
    by_cases c2 : tE t n p - tS t n p ≤ 6
    · rw [if_neg (by rw [i_lt (by omega) (by omega)]; omega), s.c, bs, m_kw h, bs, b2i_ite]
      have e : tW t n p = wd t (tS t n p) (tE t n p) := if_pos c1
      have wl : tW t n p < 1073741824 := by
        rw [e]
        exact Nat.lt_of_lt_of_le (wd_lt (k := 6) c2 (by omega) (tC_L c1).2.2) (by decide)
      have v0 : cW 0 = 147761734772 := rfl
      have v1 : cW 1 = 17799910516 := rfl
      have v7 : cW 7 = 122510055712238 := rfl
      by_cases c3 : tW t n p = cW 2 ∨ tW t n p = cW 3 ∨ tW t n p = cW 4 ∨ tW t n p = cW 5 ∨ tW t n p = cW 6 ∨ tW t n p = cW 8 ∨ tW t n p = cW 9
      · rw [if_pos (decide_eq_true c3), decide_eq_false (fun z => by
          have z1 := (k1.mp z).2.1
          rw [e] at c3
          rcases c3 with w | w | w | w | w | w | w
          · exact z1 2 (by omega) w
          · exact z1 3 (by omega) w
          · exact z1 4 (by omega) w
          · exact z1 5 (by omega) w
          · exact z1 6 (by omega) w
          · exact z1 8 (by omega) w
          · exact z1 9 (by omega) w)]
        rfl
      · rw [if_neg (fun z => c3 (of_decide_eq_true z)), decide_eq_true (k1.mpr ⟨c1, fun i hi w => by
          rw [← e] at w
          rcases (show i = 0 ∨ i = 1 ∨ i = 2 ∨ i = 3 ∨ i = 4 ∨ i = 5 ∨ i = 6 ∨ i = 7 ∨ i = 8 ∨ i = 9 by omega) with z | z | z | z | z | z | z | z | z | z <;> subst z
          · omega
          · omega
          · exact c3 (Or.inl w)
          · exact c3 (Or.inr (Or.inl w))
          · exact c3 (Or.inr (Or.inr (Or.inl w)))
          · exact c3 (Or.inr (Or.inr (Or.inr (Or.inl w))))
          · exact c3 (Or.inr (Or.inr (Or.inr (Or.inr (Or.inl w)))))
          · omega
          · exact c3 (Or.inr (Or.inr (Or.inr (Or.inr (Or.inr (Or.inl w))))))
          · exact c3 (Or.inr (Or.inr (Or.inr (Or.inr (Or.inr (Or.inr w)))))), c2⟩)]
        rfl
    · rw [if_pos (by rw [i_lt (by omega) (by omega)]; omega), decide_eq_false (fun z => c2 (k1.mp z).2.2)]
      rfl
  · rw [if_neg (fun z => c1 ((i_inj (by omega) (by omega)).mp z)), decide_eq_false (fun z => c1 (k1.mp z).1)]
    rfl
theorem dgx_v {s e : Nat} : ∀ k, k ≤ e - s → v32 (dgx t s e) k = v32 (fun i => dg (t (s + i))) k := fun k hk => v32_c k (fun i hi => by
  unfold dgx
  rw [if_pos (by omega)])
theorem dgx_z {s e : Nat} {k : Nat} (hk : e - s ≤ k) : v32 (dgx t s e) (k + 1) = v32 (dgx t s e) k * 32 := by
  show v32 (dgx t s e) k * 32 + dgx t s e k = _
  unfold dgx
  rw [if_neg (by omega)]
  rfl
theorem or_0 (x : Int32) : x ||| 0 = x := by
  refine hs_ext fun i hi => ?_
  rw [hs_or hi, hs_0 hi, Bool.or_false]
/-- letters are shifted -/
theorem lh_l {α : Type} {kk : Int32 × Int32 → Option α} {Q : α → Prop} (f : Nat → Int32) (l : Nat) (hl : l ≤ 1200) (hf : ∀ k, l ≤ k → k < 6 → f k <<< (5 &&& 31) = f (k + 1)) (hk : ok (kk (f (max l 6), Int32.ofNat (max l 6))) Q) : ok (it_ (bd_X9_lettersHere_56 kk) FU (f l, Int32.ofNat l)) Q := by
  refine it_r (I := fun i u => u = (f (l + i), Int32.ofNat (l + i))) (6 - l) rfl (by omega) ?_ ?_
  · rintro rec i _ hi rfl hrec
    unfold bd_X9_lettersHere_56
    dsimp only
    rw [show (6 : Int32) = Int32.ofNat 6 from rfl, ile_n (by omega) (by omega), ltq, hf _ (by omega) (by omega), i_succ]
    exact hrec _ rfl
  · rintro rec _ rfl
    unfold bd_X9_lettersHere_56
    dsimp only
    rw [show (6 : Int32) = Int32.ofNat 6 from rfl, if_pos (by rw [i_le (by omega) (by omega)]; omega), show l + (6 - l) = max l 6 by omega]
    exact hk
end
