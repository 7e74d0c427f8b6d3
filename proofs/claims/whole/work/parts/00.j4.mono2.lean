/-! ===== the greedy rule: funded at a cost, funded at each smaller one ===== -/
section
variable {D D' : Bl} {p : Nat}
/-- the same but for a cost of p that isn't greater -/
def Lw (D D' : Bl) (p : Nat) : Prop := D' 0 = D 0 ∧ D' 2 = D 2 ∧ D' 5 = D 5 ∧ D' 9 = D 9 ∧ D' 11 = D 11 ∧ (∀ o, o ≠ p → D' 4 o = D 4 o) ∧ KN D' p ≤ KN D p
theorem Lw.cn (h : Lw D D' p) (j : Nat) : cn D' j = cn D j := by unfold _root_.Jvm.Pilot.CParticipatoryBudgetLaw_law_r9116_d19bd8.cn; rw [h.1]
theorem fst_mx (hG : Gd D) (hT : Tl D) {w : Int32} (hp : p < cn D 1) (hw : hs w (Int32.ofNat p) = true) : ∃ q, q < cn D 1 ∧ fst_ D w = Int32.ofNat q ∧ hs w (Int32.ofNat q) = true ∧ ∀ o, o < cn D 1 → hs w (Int32.ofNat o) = true → o ≠ q → nb (D 9 3 = 0) (VN D) (KN D) q o := by
  rcases fsN_mx hG hT w (cn D 1) (Nat.le_refl _) with ⟨-, h⟩ | h
  · exact absurd hw (h p hp)
  · exact h
theorem fst_same (h : Lw D D' p) (hG : Gd D) (hT : Tl D) (hG' : Gd D') (hT' : Tl D') (hp : p < cn D 1) {w : Int32} (hw : hs w (Int32.ofNat p) = true) : ∃ q q', q < cn D 1 ∧ q' < cn D 1 ∧ fst_ D w = Int32.ofNat q ∧ fst_ D' w = Int32.ofNat q' ∧ (q' = p ∨ q' = q) := by
  obtain ⟨q, q1, q2, q3, q4⟩ := fst_mx hG hT hp hw
  obtain ⟨o, o1, o2, o3, o4⟩ := fst_mx hG' hT' (by rw [h.cn]; exact hp) hw
  rw [h.cn] at o1
  refine ⟨q, o, q1, o1, q2, o2, ?_⟩
  by_cases c : o = p
  · exact Or.inl c
  · right
    by_cases c2 : o = q
    · exact c2
    · have a := q4 o o1 o3 c2
      have b := o4 q (by rw [h.cn]; exact q1) q3 (fun z => c2 z.symm)
      have eV : VN D' = VN D := by funext z; unfold VN; rw [h.2.2.2.2.1]
      have eK : ∀ z, z ≠ p → KN D' z = KN D z := fun z hz => by unfold KN; rw [h.2.2.2.2.2.1 z hz]
      rw [h.2.2.2.1, eV] at b
      have le : KN D' q ≤ KN D q := by
        by_cases z : q = p
        · rw [z]; exact h.2.2.2.2.2.2
        · rw [eK q z]; exact Nat.le_refl _
      exact absurd a (nb_as (nb_mono (eK o c) le b))
theorem tkS_same (h : Lw D D' p) {u : Int32 × Gst} {q : Nat} (hq : q < 32) (h1 : fst_ D u.1 = Int32.ofNat q) (h2 : fst_ D' u.1 = Int32.ofNat q) (hne : q ≠ p) : tkS D' u = tkS D u := by
  have el : ∀ L a, lin D' L a = lin D L a := fun L a => by unfold lin; rw [h.cn]
  have eg : gfu D' u.2 q = gfu D u.2 q := by unfold gfu; rw [h.2.2.1, h.2.2.2.2.2.1 q hne]
  unfold tkS
  rw [h1, h2, if_neg (o_nneg (by omega)), if_neg (o_nneg (by omega)), ix_o (by omega), el, eg, h.2.2.1, h.2.2.2.2.2.1 q hne]
def Fk (D : Bl) (w : Int32) (s : Gst) (p k : Nat) : Prop := fst_ D (tk D w s k).1 = Int32.ofNat p ∧ ¬ lin D (gL (tk D w s k).2) (D 5 p) < D 4 p
theorem Fk_of (hD : Cn D) {w : Int32} {s : Gst} (hp : p < cn D 1) (h0 : ¬ hs (gh s) (Int32.ofNat p) = true) : ∀ n, hs (gh (tk D w s n).2) (Int32.ofNat p) = true → ∃ k, k < n ∧ Fk D w s p k := by
  have l1 := hD.2.2.1
  intro n
  induction n with
  | zero => exact fun h => absurd h h0
  | succ n ih =>
    intro h
    rw [tk_s] at h
    unfold tkS at h
    have old : hs (gh (tk D w s n).2) (Int32.ofNat p) = true → ∃ k, k < n + 1 ∧ Fk D w s p k := fun z => by
      obtain ⟨k, k1, k2⟩ := ih z
      exact ⟨k, by omega, k2⟩
    rcases fst_in hD (tk D w s n).1 with e | ⟨q, hq, e, hw⟩
    · rw [if_pos (by rw [e]; exact m1_neg)] at h
      exact old h
    · rw [e, if_neg (o_nneg (by omega)), ix_o (by omega)] at h
      dsimp only at h
      by_cases c : lin D (gL (tk D w s n).2) (D 5 q) < D 4 q
      · rw [if_pos c] at h
        exact old h
      · rw [if_neg c] at h
        have h' : hs (gh (tk D w s n).2 ||| bt q) (Int32.ofNat p) = true := h
        rw [hs_ad (by omega) (by omega), Bool.or_eq_true, decide_eq_true_eq] at h'
        rcases h' with h' | h'
        · exact old h'
        · subst h'
          exact ⟨n, by omega, e, c⟩
theorem gh_up (hD : Cn D) {w : Int32} {s : Gst} (hp : p < cn D 1) {n : Nat} (h : hs (gh (tk D w s n).2) (Int32.ofNat p) = true) : ∀ j, hs (gh (tk D w s (n + j)).2) (Int32.ofNat p) = true := by
  have l1 := hD.2.2.1
  intro j
  induction j with
  | zero => exact h
  | succ j ih =>
    rw [← Nat.add_assoc, tk_s]
    unfold tkS
    rcases fst_in hD (tk D w s (n + j)).1 with e | ⟨q, hq, e, hw⟩
    · rw [if_pos (by rw [e]; exact m1_neg)]; exact ih
    · rw [e, if_neg (o_nneg (by omega)), ix_o (by omega)]
      dsimp only
      split
      · exact ih
      · show hs (gh (tk D w s (n + j)).2 ||| bt q) (Int32.ofNat p) = true
        rw [hs_ad (by omega) (by omega), ih]; rfl
theorem Fk_to (hD : Cn D) {w : Int32} {s : Gst} (hp : p < cn D 1) {k : Nat} (h : Fk D w s p k) {n : Nat} (hn : k < n) : hs (gh (tk D w s n).2) (Int32.ofNat p) = true := by
  have l1 := hD.2.2.1
  have h1 : hs (gh (tk D w s (k + 1)).2) (Int32.ofNat p) = true := by
    rw [tk_s]
    unfold tkS
    rw [h.1, if_neg (o_nneg (by omega)), ix_o (by omega), if_neg h.2]
    show hs (gh (tk D w s k).2 ||| bt p) (Int32.ofNat p) = true
    rw [hs_ad (by omega) (by omega), decide_eq_true rfl, Bool.or_true]
  have := gh_up hD hp h1 (n - (k + 1))
  rw [show k + 1 + (n - (k + 1)) = n by omega] at this
  exact this
theorem w_dn (hD : Cn D) {w : Int32} {s : Gst} (hp : p < cn D 1) {n : Nat} (h : hs (tk D w s (n + 1)).1 (Int32.ofNat p) = true) : hs (tk D w s n).1 (Int32.ofNat p) = true ∧ fst_ D (tk D w s n).1 ≠ Int32.ofNat p := by
  have l1 := hD.2.2.1
  rw [tk_s] at h
  unfold tkS at h
  rcases fst_in hD (tk D w s n).1 with e | ⟨q, hq, e, hw⟩
  · rw [if_pos (by rw [e]; exact m1_neg)] at h
    refine ⟨h, fun z => ?_⟩
    rw [e] at z
    have := o_nneg (show p < 2147483648 by omega)
    rw [← z] at this
    exact this m1_neg
  · rw [e, if_neg (o_nneg (by omega)), ix_o (by omega)] at h
    dsimp only at h
    rw [hs_rm (by omega) (by omega), Bool.and_eq_true] at h
    refine ⟨h.1, fun z => ?_⟩
    rw [e, i_inj (by omega) (by omega)] at z
    subst z
    have := h.2
    rw [decide_eq_true rfl] at this
    exact Bool.noConfusion this
theorem w_dn2 (hD : Cn D) {w : Int32} {s : Gst} (hp : p < cn D 1) (n : Nat) : ∀ j, hs (tk D w s (n + j)).1 (Int32.ofNat p) = true → hs (tk D w s n).1 (Int32.ofNat p) = true := by
  intro j
  induction j with
  | zero => exact fun h => h
  | succ j ih => exact fun h => ih (w_dn hD hp h).1
/-- the runs agree until p comes, and it comes no later -/
theorem Fk_same (h : Lw D D' p) (hG : Gd D) (hT : Tl D) (hG' : Gd D') (hT' : Tl D') (hp : p < cn D 1) {w : Int32} {s : Gst} {k : Nat} (hk : fst_ D (tk D w s k).1 = Int32.ofNat p) : ∃ j, j ≤ k ∧ fst_ D' (tk D' w s j).1 = Int32.ofNat p ∧ tk D' w s j = tk D w s j := by
  have l1 := hG.n.2.2.1
  have hwk : hs (tk D w s k).1 (Int32.ofNat p) = true := by
    rcases fst_in hG.n (tk D w s k).1 with e | ⟨q, hq, e, hw⟩
    · rw [hk] at e
      exact absurd (by rw [e]; exact m1_neg) (o_nneg (show p < 2147483648 by omega))
    · rw [hk, i_inj (by omega) (by omega)] at e
      subst e
      exact hw
  have Q : ∀ j, j ≤ k → (∃ i, i < j ∧ fst_ D' (tk D' w s i).1 = Int32.ofNat p ∧ tk D' w s i = tk D w s i) ∨ tk D' w s j = tk D w s j := by
    intro j
    induction j with
    | zero => exact fun _ => Or.inr (by unfold tk; rw [fo_0, fo_0])
    | succ j ih =>
      intro hj
      rcases ih (by omega) with ⟨i, a, b, c⟩ | e
      · exact Or.inl ⟨i, by omega, b, c⟩
      · have hw1 : hs (tk D w s (j + 1)).1 (Int32.ofNat p) = true := w_dn2 hG.n hp (j + 1) (k - (j + 1)) (by rw [show j + 1 + (k - (j + 1)) = k by omega]; exact hwk)
        obtain ⟨hw0, hne⟩ := w_dn hG.n hp hw1
        obtain ⟨q, q', a1, a2, b1, b2, b3⟩ := fst_same h hG hT hG' hT' hp hw0
        by_cases c : q' = p
        · left
          refine ⟨j, by omega, ?_, e⟩
          rw [e, b2, c]
        · right
          have eq : q' = q := b3.resolve_left c
          subst eq
          rw [tk_s, tk_s, e]
          exact tkS_same h (by omega) b1 b2 c
  rcases Q k (Nat.le_refl _) with ⟨i, a, b, c⟩ | e
  · exact ⟨i, by omega, b, c⟩
  · obtain ⟨q, q', a1, a2, b1, b2, b3⟩ := fst_same h hG hT hG' hT' hp hwk
    have : q = p := by
      rw [hk, i_inj (by omega) (by omega)] at b1
      exact b1.symm
    refine ⟨k, Nat.le_refl _, ?_, e⟩
    rw [e, b2]
    rcases b3 with z | z
    · rw [z]
    · rw [z, this]
end
