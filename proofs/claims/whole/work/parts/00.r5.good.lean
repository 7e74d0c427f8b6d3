/-! ===== what is read is a ballot ===== -/
section
variable {t : Nat → Int32} {n p q : Nat} {D : Bl} {g : Int32} {r : Nat → Int32}
theorem nI_v {lo hi : Nat} (h : 0 ≤ nI_ t n lo hi q) : ∃ x, lo ≤ x ∧ x ≤ hi ∧ nI_ t n lo hi q = Int32.ofNat x := by
  unfold nI_ at h ⊢
  split at h
  · split at h
    · rename_i z1 z2
      exact ⟨tV t n q, z2.1, z2.2, by rw [if_pos z1, if_pos z2]⟩
    · exact absurd h (by decide)
  · exact absurd h (by decide)
theorem lst_b {c : Nat} (hc : c ≤ 12) : ∀ f s q, 0 ≤ (lst t n r c f s q).1 → (∀ d, c ≤ d → d < 32 → hs s (Int32.ofNat d) = false) → ∀ d, c ≤ d → d < 32 → hs (lst t n r c f s q).1 (Int32.ofNat d) = false := by
  intro f
  induction f with
  | zero => intro s q _ h; exact h
  | succ f ih =>
    intro s q h0 h
    rw [lst_s] at h0 ⊢
    by_cases k1 : tK t n q = 1
    · rw [if_pos k1] at h0 ⊢
      by_cases k2 : plN r (tL t n q) c < 0
      · rw [if_pos k2] at h0
        exact absurd h0 (show ¬ (0 : Int32) ≤ -13 by decide)
      · rw [if_neg k2] at h0 ⊢
        by_cases k3 : hs s (plN r (tL t n q) c) = true
        · rw [if_pos k3] at h0
          exact absurd h0 (show ¬ (0 : Int32) ≤ -14 by decide)
        · rw [if_neg k3] at h0 ⊢
          obtain ⟨k, kc, ke⟩ := plN_r c (by omega) k2
          refine ih _ _ h0 (fun d d1 d2 => ?_)
          rw [ke, hs_or d2, hs_one (by omega) d2, h d d1 d2, decide_eq_false (by omega)]
          rfl
    · rw [if_neg k1] at h0 ⊢
      by_cases z : s = 0
      · rw [if_pos z] at h0
        exact absurd h0 (show ¬ (0 : Int32) ≤ -11 by decide)
      · rw [if_neg z]; exact h
/-- a ballot whose approvals are sets -/
def Ga (D : Bl) : Prop := Gd D ∧ ∀ v, v < cn D 2 → 0 ≤ (D 8 v).toInt
theorem le0 {x : Int32} (h : 0 ≤ x) : 0 ≤ x.toInt := by
  rw [le_i, show (0 : Int32).toInt = 0 from rfl] at h
  exact h
theorem Ga_dD (h : Ga D) (hl : cn D 0 < 4) {w : Int32} {x : Nat} (hx : x ≤ 100000) : Ga (dD D w (Int32.ofNat x)) := by
  obtain ⟨⟨a, b, c, d, e⟩, f⟩ := h
  have hr : Rm D 0 := Or.inl ⟨rfl, hl⟩
  have c0 : ∀ j, cn (dD D w (Int32.ofNat x)) j = if j = 0 then cn D 0 + 1 else cn D j := fun j => cn_ps (by omega)
  have ne : ∀ k i, 1 ≤ k → gk k ≠ 0 → dD D w (Int32.ofNat x) k i = D k i := fun k i h1 h2 => ps_n h1 (Or.inl h2)
  refine ⟨⟨Cn_ps a hr, fun i hi => ?_, fun i hi => ?_, fun i hi => ?_, ?_⟩, fun i hi => ?_⟩
  · rw [c0, if_pos rfl] at hi
    by_cases y : i = cn D 0
    · rw [y, show dD D w (Int32.ofNat x) 2 (cn D 0) = Int32.ofNat x from ps_k (by omega) rfl, i_toInt (by omega)]
      omega
    · rw [show dD D w (Int32.ofNat x) 2 i = D 2 i from ps_n (by omega) (Or.inr y)]
      exact b i (by omega)
  · rw [c0, if_neg (by decide)] at hi
    rw [ne 4 i (by omega) (by decide), ne 5 i (by omega) (by decide), c0, if_pos rfl]
    exact ⟨(c i hi).1, fun d' d1 d2 => (c i hi).2 d' (by omega) d2⟩
  · rw [c0, if_neg (by decide)] at hi
    rw [ne 6 i (by omega) (by decide), ne 7 i (by omega) (by decide), c0, if_pos rfl]
    exact ⟨(d i hi).1, fun d' d1 d2 => (d i hi).2 d' (by omega) d2⟩
  · rw [ne 9 0 (by omega) (by decide), ne 9 1 (by omega) (by decide), ne 9 2 (by omega) (by decide), ne 9 3 (by omega) (by decide)]
    exact e
  · rw [c0, if_neg (by decide)] at hi
    rw [ne 8 i (by omega) (by decide)]
    exact f i hi
theorem Ga_dP (h : Ga D) (hl : cn D 1 < 12) {w s : Int32} {x : Nat} (hx : 1 ≤ x ∧ x ≤ 100000) (hs_ : ∀ d, cn D 0 ≤ d → d < 32 → hs s (Int32.ofNat d) = false) : Ga (dP D w (Int32.ofNat x) s) := by
  obtain ⟨⟨a, b, c, d, e⟩, f⟩ := h
  have hr : Rm D 1 := Or.inr (Or.inl ⟨rfl, hl⟩)
  have c0 : ∀ j, cn (dP D w (Int32.ofNat x) s) j = if j = 1 then cn D 1 + 1 else cn D j := fun j => cn_ps (by omega)
  have ne : ∀ k i, 1 ≤ k → gk k ≠ 1 → dP D w (Int32.ofNat x) s k i = D k i := fun k i h1 h2 => ps_n h1 (Or.inl h2)
  refine ⟨⟨Cn_ps a hr, fun i hi => ?_, fun i hi => ?_, fun i hi => ?_, ?_⟩, fun i hi => ?_⟩
  · rw [c0, if_neg (by decide)] at hi
    rw [ne 2 i (by omega) (by decide)]
    exact b i hi
  · rw [c0, if_pos rfl] at hi
    rw [c0, if_neg (by decide)]
    by_cases y : i = cn D 1
    · rw [y, show dP D w (Int32.ofNat x) s 4 (cn D 1) = Int32.ofNat x from ps_k (by omega) rfl, show dP D w (Int32.ofNat x) s 5 (cn D 1) = s from ps_k (by omega) rfl, i_toInt (by omega)]
      exact ⟨by omega, hs_⟩
    · rw [show dP D w (Int32.ofNat x) s 4 i = D 4 i from ps_n (by omega) (Or.inr y), show dP D w (Int32.ofNat x) s 5 i = D 5 i from ps_n (by omega) (Or.inr y)]
      exact c i (by omega)
  · rw [c0, if_neg (by decide)] at hi
    rw [ne 6 i (by omega) (by decide), ne 7 i (by omega) (by decide), c0, if_neg (by decide)]
    exact d i hi
  · rw [ne 9 0 (by omega) (by decide), ne 9 1 (by omega) (by decide), ne 9 2 (by omega) (by decide), ne 9 3 (by omega) (by decide)]
    exact e
  · rw [c0, if_neg (by decide)] at hi
    rw [ne 8 i (by omega) (by decide)]
    exact f i hi
theorem Ga_dV (h : Ga D) (hl : cn D 2 < 24) {s z : Int32} {x : Nat} (hx : 1 ≤ x ∧ x ≤ 9) (hs_ : ∀ d, cn D 0 ≤ d → d < 32 → hs s (Int32.ofNat d) = false) (hz : 0 ≤ z) : Ga (dV D (Int32.ofNat x) s z) := by
  obtain ⟨⟨a, b, c, d, e⟩, f⟩ := h
  have hr : Rm D 2 := Or.inr (Or.inr ⟨rfl, hl⟩)
  have c0 : ∀ j, cn (dV D (Int32.ofNat x) s z) j = if j = 2 then cn D 2 + 1 else cn D j := fun j => cn_ps (by omega)
  have ne : ∀ k i, 1 ≤ k → gk k ≠ 2 → dV D (Int32.ofNat x) s z k i = D k i := fun k i h1 h2 => ps_n h1 (Or.inl h2)
  refine ⟨⟨Cn_ps a hr, fun i hi => ?_, fun i hi => ?_, fun i hi => ?_, ?_⟩, fun i hi => ?_⟩
  · rw [c0, if_neg (by decide)] at hi
    rw [ne 2 i (by omega) (by decide)]
    exact b i hi
  · rw [c0, if_neg (by decide)] at hi
    rw [ne 4 i (by omega) (by decide), ne 5 i (by omega) (by decide), c0, if_neg (by decide)]
    exact c i hi
  · rw [c0, if_pos rfl] at hi
    rw [c0, if_neg (by decide)]
    by_cases y : i = cn D 2
    · rw [y, show dV D (Int32.ofNat x) s z 6 (cn D 2) = Int32.ofNat x from ps_k (by omega) rfl, show dV D (Int32.ofNat x) s z 7 (cn D 2) = s from ps_k (by omega) rfl, i_toInt (by omega)]
      exact ⟨by omega, hs_⟩
    · rw [show dV D (Int32.ofNat x) s z 6 i = D 6 i from ps_n (by omega) (Or.inr y), show dV D (Int32.ofNat x) s z 7 i = D 7 i from ps_n (by omega) (Or.inr y)]
      exact d i (by omega)
  · rw [ne 9 0 (by omega) (by decide), ne 9 1 (by omega) (by decide), ne 9 2 (by omega) (by decide), ne 9 3 (by omega) (by decide)]
    exact e
  · rw [c0, if_pos rfl] at hi
    by_cases y : i = cn D 2
    · rw [y, show dV D (Int32.ofNat x) s z 8 (cn D 2) = z from ps_k (by omega) rfl]
      exact le0 hz
    · rw [show dV D (Int32.ofNat x) s z 8 i = D 8 i from ps_n (by omega) (Or.inr y)]
      exact f i (by omega)
theorem Ga_s9 (h : Ga D) {k x : Nat} (hk : k < 4) (hx : slo k ≤ x ∧ x ≤ shi k) : Ga (up D 9 k (Int32.ofNat x)) := by
  obtain ⟨⟨a, b, c, d, e1, e2, e3, e4⟩, f⟩ := h
  refine ⟨⟨a, b, c, d, ?_⟩, f⟩
  have u : ∀ i, up D 9 k (Int32.ofNat x) 9 i = if i = k then Int32.ofNat x else D 9 i := fun i => by
    show (if 9 = 9 ∧ i = k then _ else _) = _
    by_cases y : i = k
    · rw [if_pos ⟨rfl, y⟩, if_pos y]
    · rw [if_neg (fun z => y z.2), if_neg y]
  rw [u, u, u, u]
  rcases (show k = 0 ∨ k = 1 ∨ k = 2 ∨ k = 3 by omega) with y | y | y | y <;> subst y
  · have : x = 0 ∨ x = 1 := by have h1 : x ≤ 1 := hx.2; omega
    refine ⟨?_, e2, e3, e4⟩
    rw [if_pos rfl]
    rcases this with z | z <;> subst z
    · exact Or.inl rfl
    · exact Or.inr rfl
  · have : x = 0 ∨ x = 1 ∨ x = 2 := by have h1 : x ≤ 2 := hx.2; omega
    refine ⟨e1, ?_, e3, e4⟩
    rw [if_pos rfl]
    rcases this with z | z | z <;> subst z
    · exact Or.inl rfl
    · exact Or.inr (Or.inl rfl)
    · exact Or.inr (Or.inr rfl)
  · have h1 : 1 ≤ x := hx.1
    have h2 : x ≤ 1000 := hx.2
    refine ⟨e1, e2, ?_, e4⟩
    rw [if_pos rfl, i_toInt (by omega)]
    omega
  · have : x = 0 ∨ x = 1 := by have h1 : x ≤ 1 := hx.2; omega
    refine ⟨e1, e2, e3, ?_⟩
    rw [if_pos rfl]
    rcases this with z | z <;> subst z
    · exact Or.inl rfl
    · exact Or.inr rfl
theorem Ga_stm (h : Ga D) (h0 : 0 ≤ (stm t n D g p).1) : Ga (stm t n D g p).2.1 := by
  have l0 := h.1.1.2.1
  have l1 := h.1.1.2.2.1
  have sb : ∀ r c q, c ≤ 12 → 0 ≤ (lst t n r c (c + 1) 0 q).1 → ∀ d, c ≤ d → d < 32 → hs (lst t n r c (c + 1) 0 q).1 (Int32.ofNat d) = false := fun r c q hc z => lst_b hc _ _ _ z (fun d _ d2 => hs_0 d2)
  unfold stm at h0 ⊢
  split at h0
  · rename_i z
    rw [if_pos z]
    unfold sD at h0 ⊢
    split at h0
    · rename_i c
      rw [if_pos c]
      unfold sD1 at h0 ⊢
      split at h0
      · rename_i c1
        rw [if_pos c1]
        unfold sD2 at h0 ⊢
        split at h0
        · rename_i c2
          rw [if_pos c2]
          obtain ⟨x, x1, x2, x3⟩ := nI_v c2
          rw [x3]
          exact Ga_dD h c x2
        · rename_i c2; exact absurd h0 c2
      · rename_i c1; exact absurd h0 c1
    · exact absurd h0 (show ¬ (0 : Int32) ≤ -15 by decide)
  · rename_i z
    rw [if_neg z]
    split at h0
    · rename_i z
      rw [if_pos z]
      unfold sJ at h0 ⊢
      split at h0
      · rename_i c
        rw [if_pos c]
        unfold sJ1 at h0 ⊢
        split at h0
        · rename_i c1
          rw [if_pos c1]
          unfold sJ2 at h0 ⊢
          split at h0
          · rename_i c2
            rw [if_pos c2]
            unfold sJ3 at h0 ⊢
            split at h0
            · rename_i c3
              rw [if_pos c3]
              obtain ⟨x, x1, x2, x3⟩ := nI_v c2
              rw [x3]
              exact Ga_dP h c ⟨x1, x2⟩ (sb _ _ _ (by omega) c3)
            · rename_i c3; exact absurd h0 c3
          · rename_i c2; exact absurd h0 c2
        · rename_i c1; exact absurd h0 c1
      · exact absurd h0 (show ¬ (0 : Int32) ≤ -15 by decide)
    · rename_i z
      rw [if_neg z]
      split at h0
      · rename_i z
        rw [if_pos z]
        unfold sV at h0 ⊢
        split at h0
        · rename_i c
          rw [if_pos c]
          unfold sV1 at h0 ⊢
          split at h0
          · rename_i c1
            rw [if_pos c1]
            obtain ⟨x, x1, x2, x3⟩ := nI_v c1
            unfold sV2 at h0 ⊢
            split at h0
            · rename_i c2
              rw [if_pos c2]
              unfold sV3 at h0 ⊢
              split at h0
              · rename_i c3
                rw [if_pos c3]
                have bb := sb _ _ _ (by omega) c3
                split at h0
                · rename_i c4
                  rw [if_pos c4]
                  unfold sV4 at h0 ⊢
                  split at h0
                  · rename_i c5
                    rw [if_pos c5, x3]
                    exact Ga_dV h c ⟨x1, x2⟩ bb c5
                  · rename_i c5; exact absurd h0 c5
                · rename_i c4
                  rw [if_neg c4]
                  unfold sV4
                  rw [if_pos nnF, x3]
                  exact Ga_dV h c ⟨x1, x2⟩ bb nnF
              · rename_i c3; exact absurd h0 c3
            · exact absurd h0 (show ¬ (0 : Int32) ≤ -11 by decide)
          · rename_i c1; exact absurd h0 c1
        · exact absurd h0 (show ¬ (0 : Int32) ≤ -15 by decide)
      · rename_i z
        rw [if_neg z]
        split at h0
        · rename_i z
          rw [if_pos z]
          have lk := tK_r (t := t) (n := n) (tE t n p)
          unfold sS at h0 ⊢
          split at h0
          · rename_i c
            rw [if_pos c]
            unfold sS2 at h0 ⊢
            split at h0
            · exact absurd h0 (show ¬ (0 : Int32) ≤ -14 by decide)
            · rename_i c1
              rw [if_neg c1]
              unfold sS3 at h0 ⊢
              split at h0
              · rename_i c2
                rw [if_pos c2]
                obtain ⟨x, x1, x2, x3⟩ := nI_v c2
                rw [x3]
                exact Ga_s9 h (by omega) ⟨x1, x2⟩
              · rename_i c2; exact absurd h0 c2
          · exact absurd h0 (show ¬ (0 : Int32) ≤ -11 by decide)
        · exact absurd h0 (show ¬ (0 : Int32) ≤ -11 by decide)
theorem Ga_rd : ∀ f D g k p, Ga D → 0 ≤ (rd t n f D g k p).1 → Ga (rd t n f D g k p).2.1 := by
  intro f
  induction f with
  | zero => intro D g k p h _; exact h
  | succ f ih =>
    intro D g k p h h0
    rw [rd_s] at h0 ⊢
    split at h0
    · rename_i z
      rw [if_pos z]; exact h
    · rename_i z
      rw [if_neg z]
      split at h0
      · rename_i z1
        rw [if_pos z1]
        split at h0
        · rename_i z2
          rw [if_pos z2]
          exact ih _ _ _ _ (Ga_stm h z1) h0
        · exact absurd h0 (show ¬ (0 : Int32) ≤ -11 by decide)
      · rename_i z1; exact absurd h0 z1
theorem Ga_D0 : Ga D0 := ⟨⟨D0_n, fun d hd => absurd hd (Nat.not_lt_zero d), fun d hd => absurd hd (Nat.not_lt_zero d), fun d hd => absurd hd (Nat.not_lt_zero d), Or.inl rfl, Or.inl rfl, by decide, Or.inl rfl⟩, fun v hv => absurd hv (Nat.not_lt_zero v)⟩
end
