/-! ===== memories whose ints are told by a function; tally, clear, copy ===== -/
section
def sW (M : Mem) (f : Nat → Nat → Int32) : Mem := (mK M, f, mL M, mR M, mN M)
theorem sW_mI (M : Mem) : sW M (mI M) = M := rfl
theorem sI_sW (M : Mem) (f : Nat → Nat → Int32) (a j : Nat) (x : Int32) : sI (sW M f) a j x = sW M (up2 f a j x) := rfl
theorem sI_W (M : Mem) (a j : Nat) (x : Int32) : sI M a j x = sW M (up2 (mI M) a j x) := rfl
theorem sW_W (M : Mem) (f g : Nat → Nat → Int32) : sW (sW M f) g = sW M g := rfl
theorem k_sW (M : Mem) (f : Nat → Nat → Int32) : mK (sW M f) = mK M := rfl
theorem r_sW (M : Mem) (f : Nat → Nat → Int32) : mR (sW M f) = mR M := rfl
theorem l_sW (M : Mem) (f : Nat → Nat → Int32) : mL (sW M f) = mL M := rfl
theorem n_sW (M : Mem) (f : Nat → Nat → Int32) : mN (sW M f) = mN M := rfl
theorem i_sW (M : Mem) (f : Nat → Nat → Int32) : mI (sW M f) = f := rfl
theorem Fq.W {lo hi : Nat} {M : Mem} {f : Nat → Nat → Int32} (h : ∀ a, (a < lo ∨ hi ≤ a) → f a = mI M a) : Fq lo hi M (sW M f) := ⟨rfl, rfl, fun a ha => ⟨h a ha, rfl, rfl⟩⟩
section
variable {α : Type}
theorem up2_eq (f : Nat → Nat → α) (a j : Nat) (x : α) : up2 f a j x a j = x := if_pos ⟨rfl, rfl⟩
theorem up2_ne (f : Nat → Nat → α) {a j b k : Nat} (x : α) (h : ¬ (b = a ∧ k = j)) : up2 f a j x b k = f b k := if_neg h
theorem up2_row (f : Nat → Nat → α) {a j b : Nat} (x : α) (h : b ≠ a) : up2 f a j x b = f b := by
  funext k
  exact if_neg (fun z => h z.1)
theorem up2_up2 (f : Nat → Nat → α) (a j : Nat) (x y : α) : up2 (up2 f a j x) a j y = up2 f a j y := by
  funext b k
  unfold up2
  by_cases h : b = a ∧ k = j
  · rw [if_pos h, if_pos h]
  · rw [if_neg h, if_neg h, if_neg h]
theorem up2_comm (f : Nat → Nat → α) {a j c k : Nat} (x y : α) (h : ¬ (a = c ∧ j = k)) : up2 (up2 f a j x) c k y = up2 (up2 f c k y) a j x := by
  funext b i
  unfold up2
  by_cases h1 : b = a ∧ i = j
  · have h2 : ¬ (b = c ∧ i = k) := fun z => h ⟨h1.1.symm.trans z.1, h1.2.symm.trans z.2⟩
    rw [if_neg h2, if_pos h1, if_pos h1]
  · by_cases h2 : b = c ∧ i = k
    · rw [if_pos h2, if_neg h1, if_pos h2]
    · rw [if_neg h2, if_neg h1, if_neg h1, if_neg h2]
end
/-- a voter supports a project -/
def sp (D : Bl) (v p : Nat) : Bool := hs (D 8 v) (Int32.ofNat p) && !decide (D 7 v &&& D 5 p = 0)
def bk (D : Bl) (p : Nat) : Int32 := fo (fun v a => if sp D v p = true then a ||| bt v else a) (cn D 2) 0
def vt (D : Bl) (p : Nat) : Int32 := sm (cn D 2) fun v => if sp D v p = true then D 6 v else 0
/-- a ballot with other rows of supporters and votes -/
def rw_ (D : Bl) (x y : Nat → Int32) : Bl := fun k => if k = 10 then x else if k = 11 then y else D k
def tl (D : Bl) : Bl := rw_ D (bk D) (vt D)
theorem rw_ne {D : Bl} {x y : Nat → Int32} {k : Nat} (h : k < 10) : rw_ D x y k = D k := by
  unfold rw_
  rw [if_neg (by omega), if_neg (by omega)]
theorem rw_10 {D : Bl} {x y : Nat → Int32} : rw_ D x y 10 = x := rfl
theorem rw_11 {D : Bl} {x y : Nat → Int32} : rw_ D x y 11 = y := rfl
theorem rw_0 {D : Bl} {x y : Nat → Int32} : rw_ D x y 0 = D 0 := rfl
theorem rw_5 {D : Bl} {x y : Nat → Int32} : rw_ D x y 5 = D 5 := rfl
theorem rw_6 {D : Bl} {x y : Nat → Int32} : rw_ D x y 6 = D 6 := rfl
theorem rw_7 {D : Bl} {x y : Nat → Int32} : rw_ D x y 7 = D 7 := rfl
theorem rw_8 {D : Bl} {x y : Nat → Int32} : rw_ D x y 8 = D 8 := rfl
theorem tl_rw (D : Bl) (x y : Nat → Int32) : tl (rw_ D x y) = tl D := by
  funext k
  unfold tl
  by_cases h : k = 10
  · subst h; rfl
  · by_cases h2 : k = 11
    · subst h2; rfl
    · unfold rw_
      rw [if_neg h, if_neg h2, if_neg h, if_neg h2, if_neg h, if_neg h2]
theorem tl_c {D D' : Bl} (h : ∀ k, k < 10 → D' k = D k) (h2 : ∀ k, 12 ≤ k → D' k = D k) : tl D' = tl D := by
  have e : D' = rw_ D (D' 10) (D' 11) := by
    funext k
    unfold rw_
    by_cases h3 : k = 10
    · subst h3; rfl
    · by_cases h4 : k = 11
      · subst h4; rfl
      · rw [if_neg h3, if_neg h4]
        by_cases h5 : k < 10
        · exact h k h5
        · exact h2 k (by omega)
  rw [e, tl_rw]
theorem cn_rw (D : Bl) (x y : Nat → Int32) (j : Nat) : cn (rw_ D x y) j = cn D j := rfl
theorem cn_tl (D : Bl) (j : Nat) : cn (tl D) j = cn D j := rfl
theorem bsz_rw (D : Bl) (x y : Nat → Int32) (j : Nat) : bsz (rw_ D x y) j = bsz D j := rfl
theorem Cn.rw {D : Bl} (h : Cn D) (x y : Nat → Int32) : Cn (rw_ D x y) := h
theorem IsB.w {M : Mem} {b : Nat} {D : Bl} (h : IsB M b D) (f : Nat → Nat → Int32) (hf : ∀ k, k < 10 → f (b + k) = mI M (b + k)) : IsB (sW M f) b (rw_ D (f (b + 10)) (f (b + 11))) := by
  refine ⟨h.1, fun j hj => ?_, h.n, fun k h1 h2 i hi => ?_⟩
  · rw [i_sW, show b = b + 0 from rfl, hf 0 (by omega)]; exact h.2.1 j hj
  · rw [bsz_rw] at hi
    by_cases h3 : k < 10
    · rw [i_sW, hf k h3, rw_ne h3]; exact h.2.2.2 k h1 h2 i hi
    · rcases (show k = 10 ∨ k = 11 by omega) with e | e <;> subst e <;> rfl
/-- tally -/
theorem f_tl {M : Mem} {b : Nat} {D : Bl} (h : IsB M b D) : ok (f_X0_tally M b) (fun M' => ∃ f, M' = sW M f ∧ (∀ a, a ≠ b + 10 → a ≠ b + 11 → f a = mI M a) ∧ IsB M' b (tl D)) := by
  unfold f_X0_tally
  refine it_r (I := fun p (u : Int32 × Mem) => u.1 = Int32.ofNat p ∧ ∃ f, u.2 = sW M f ∧ (∀ a, a ≠ b + 10 → a ≠ b + 11 → f a = mI M a) ∧ ∀ k, k < p → f (b + 10) k = bk D k ∧ f (b + 11) k = vt D k) (cn D 1) ⟨rfl, mI M, rfl, fun _ _ _ => rfl, fun k hk => absurd hk (Nat.not_lt_zero k)⟩ h.n.m1 ?_ ?_
  · rintro rec i ⟨x, M'⟩ hi ⟨rfl, f, hM, hf, hk⟩ hrec
    dsimp only at hM
    subst hM
    have l1 := h.n.2.2.1
    have hB := h.w f (fun k hk => hf _ (by omega) (by omega))
    unfold bd_X0_tally_2
    have w1 : wI (sW M f) (b + 10) (Int32.ofNat i) 0 = some (sW M (up2 f (b + 10) i 0)) := wI_e hB.s.k10 (by omega) (by omega)
    have hB1 := h.w (up2 f (b + 10) i 0) (fun k hk => (up2_row f 0 (by omega)).trans (hf _ (by omega) (by omega)))
    have w2 : wI (sW M (up2 f (b + 10) i 0)) (b + 11) (Int32.ofNat i) 0 = some (sW M (up2 (up2 f (b + 10) i 0) (b + 11) i 0)) := wI_e hB1.s.k11 (by omega) (by omega)
    simp only [hB.g1, bs, cn_rw, ile_n hi h.n.l1, hB.s.r10, w1, hB1.s.r11, w2]
    have hl := it_eq (F := bd_X0_tally_26 b (Int32.ofNat i, sW M f) fun (e11 : Int32 × Mem) => rec (Int32.ofNat i + 1, e11.2)) (st := fun v => (Int32.ofNat v, sW M (up2 (up2 f (b + 10) i (fo (fun v a => if sp D v i = true then a ||| bt v else a) v 0)) (b + 11) i (sm v fun v => if sp D v i = true then D 6 v else 0)))) (k := rec (Int32.ofNat i + 1, sW M (up2 (up2 f (b + 10) i (bk D i)) (b + 11) i (vt D i)))) (cn D 2) rfl h.n.m2 ?_ ?_
    · rw [show ((0 : Int32), sW M (up2 (up2 f (b + 10) i 0) (b + 11) i 0)) = (Int32.ofNat 0, sW M (up2 (up2 f (b + 10) i (fo (fun v a => if sp D v i = true then a ||| bt v else a) 0 0)) (b + 11) i (sm 0 fun v => if sp D v i = true then D 6 v else 0))) from rfl, hl, i_succ]
      refine hrec _ ⟨rfl, _, rfl, fun a h1 h2 => ?_, fun k hk2 => ?_⟩
      · rw [up2_row _ _ h2, up2_row _ _ h1]; exact hf a h1 h2
      · by_cases e : k = i
        · subst e
          rw [up2_row _ _ (by omega), up2_eq, up2_eq]
          exact ⟨rfl, rfl⟩
        · rw [up2_row _ _ (by omega), up2_ne _ _ (by omega), up2_ne _ _ (by omega), up2_row _ _ (by omega)]
          exact hk k (by omega)
    · intro rc v hv
      generalize hx : fo (fun v a => if sp D v i = true then a ||| bt v else a) v 0 = x
      generalize hy : (sm v fun v => if sp D v i = true then D 6 v else 0) = y
      have hBv := h.w (up2 (up2 f (b + 10) i x) (b + 11) i y) (fun k hk => (up2_row _ _ (by omega)).trans ((up2_row _ _ (by omega)).trans (hf _ (by omega) (by omega))))
      have hBw := h.w (up2 (up2 f (b + 10) i (x ||| bt v)) (b + 11) i y) (fun k hk => (up2_row _ _ (by omega)).trans ((up2_row _ _ (by omega)).trans (hf _ (by omega) (by omega))))
      have g1 : aI (sW M (up2 (up2 f (b + 10) i x) (b + 11) i y)) (b + 10) (Int32.ofNat i) = some x := by
        rw [aI_e hBv.s.k10 (Or.inl rfl) (by omega) (by omega), i_sW, up2_ne _ _ (by omega), up2_eq]
      have g2 : aI (sW M (up2 (up2 f (b + 10) i (x ||| bt v)) (b + 11) i y)) (b + 11) (Int32.ofNat i) = some y := by
        rw [aI_e hBw.s.k11 (Or.inl rfl) (by omega) (by omega), i_sW, up2_eq]
      have w1 : wI (sW M (up2 (up2 f (b + 10) i x) (b + 11) i y)) (b + 10) (Int32.ofNat i) (x ||| bt v) = some (sW M (up2 (up2 f (b + 10) i (x ||| bt v)) (b + 11) i y)) := by
        rw [wI_e hBv.s.k10 (by omega) (by omega), sI_sW, up2_comm _ _ _ (by omega), up2_up2, up2_comm _ _ _ (by omega)]
      have w2 : wI (sW M (up2 (up2 f (b + 10) i (x ||| bt v)) (b + 11) i y)) (b + 11) (Int32.ofNat i) (y + D 6 v) = some (sW M (up2 (up2 f (b + 10) i (x ||| bt v)) (b + 11) i (y + D 6 v))) := by
        rw [wI_e hBw.s.k11 (by omega) (by omega), sI_sW, up2_up2]
      unfold bd_X0_tally_26
      have e8 := hBv.a8 (i := v) hv
      have e7 := hBv.a7 (i := v) hv
      have e5 := hBv.a5 (i := i) hi
      have e6 := hBw.a6 (i := v) hv
      rw [rw_8] at e8
      rw [rw_7] at e7
      rw [rw_5] at e5
      rw [rw_6] at e6
      rw [show (1 : Int32) <<< (Int32.ofNat v &&& 31) = bt v from rfl]
      simp only [hBv.g2, bs, cn_rw, ile_n hv h.n.l2, hBv.s.r8, e8, f_has8, b2i_ite, hBv.s.r7, e7, hBv.s.r5, e5, hBv.s.r10, g1, w1, hBw.s.r11, g2, hBw.s.r6, e6, w2, is_, i_succ]
      have f1 : fo (fun v a => if sp D v i = true then a ||| bt v else a) (v + 1) 0 = if sp D v i = true then x ||| bt v else x := by rw [← hx]; rfl
      have f2 : (sm (v + 1) fun v => if sp D v i = true then D 6 v else 0) = y + if sp D v i = true then D 6 v else 0 := by rw [← hy]; rfl
      rw [f1, f2]
      by_cases c1 : hs (D 8 v) (Int32.ofNat i) = true
      · by_cases c2 : D 7 v &&& D 5 i = 0
        · simp [sp, c1, c2]
        · simp [sp, c1, c2]
      · simp [sp, c1]
    · intro rc
      have hBv := h.w (up2 (up2 f (b + 10) i (bk D i)) (b + 11) i (vt D i)) (fun k hk => (up2_row _ _ (by omega)).trans ((up2_row _ _ (by omega)).trans (hf _ (by omega) (by omega))))
      unfold bd_X0_tally_26
      have e := hBv.g2
      rw [cn_rw] at e
      rw [show fo (fun v a => if sp D v i = true then a ||| bt v else a) (cn D 2) 0 = bk D i from rfl, show (sm (cn D 2) fun v => if sp D v i = true then D 6 v else 0) = vt D i from rfl]
      simp only [e, bs, ile_e]
  · rintro rec ⟨x, M'⟩ ⟨rfl, f, hM, hf, hk⟩
    dsimp only at hM
    subst hM
    have hB := h.w f (fun k hk => hf _ (by omega) (by omega))
    unfold bd_X0_tally_2
    simp only [hB.g1, bs, cn_rw, ile_e]
    refine ok.pure ⟨f, rfl, hf, hB.1, hB.2.1, h.n, fun k h1 h2 i hi => ?_⟩
    by_cases h3 : k < 10
    · have := hB.2.2.2 k h1 h2 i hi
      rw [rw_ne h3] at this
      rw [this]
      unfold tl
      rw [rw_ne h3]
    · rcases (show k = 10 ∨ k = 11 by omega) with e | e <;> subst e
      · exact (hk i hi).1
      · exact (hk i hi).2
end
