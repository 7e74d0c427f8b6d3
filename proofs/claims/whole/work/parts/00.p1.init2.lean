/-! ===== objects that hold arrays alone ===== -/
section
variable {M M' M1 M2 : Mem} {o : Nat} {f : Nat → Int32} {q : Nat → Nat × Nat × Nat}
/-- i arrays made behind o, as q tells (field, kind, length) -/
def Ar (o i : Nat) (q : Nat → Nat × Nat × Nat) (f : Nat → Int32) (M M' : Mem) : Prop := mN M' = some (o + 1 + i) ∧ (∀ b, b ≤ o → mK M' b = mK M b) ∧ (∀ b, b < o → ∀ j, mI M' b j = mI M b j ∧ mL M' b j = mL M b j ∧ mR M' b j = mR M b j) ∧ (∀ j, mI M' o j = f j) ∧ ∀ t, t < i → mR M' o (q t).1 = some (o + 1 + t) ∧ mK M' (o + 1 + t) = ((q t).2.1, (q t).2.2) ∧ ∀ j, mI M' (o + 1 + t) j = 0
theorem Ar.z (hn : mN M = some (o + 1)) (hf : ∀ j, mI M o j = f j) : Ar o 0 q f M M := ⟨hn, fun _ _ => rfl, fun _ _ _ => ⟨rfl, rfl, rfl⟩, hf, fun t ht => absurd ht (Nat.not_lt_zero t)⟩
theorem Ar_s {α : Type} {i ci : Nat} (h : Ar o i q f M M1) (hk : (mK M o).1 = ci) (hne : ∀ t, t < i → (q t).1 ≠ (q i).1) {K : Mem → Option α} {P : α → Prop} (hK : ∀ M2, Ar o (i + 1) q f M M2 → ok (K M2) P) : ok (nwA M1 (q i).2.1 (q i).2.2 >>= fun (o1 : Nat × Mem) => pFR o1.2 o ci (q i).1 o1.1 >>= K) P := by
  obtain ⟨a, b, c, d, e⟩ := h
  rw [st_A a, bs]
  have c0 : (mK (sA M1 (o + 1 + i) ((q i).2.1, (q i).2.2)) o).1 = ci := by rw [k_sA, if_neg (by omega), b o (Nat.le_refl _)]; exact hk
  dsimp only
  rw [pR c0, bs]
  refine hK _ ⟨rfl, fun b' hb => ?_, fun b' hb j => ⟨?_, ?_, ?_⟩, fun j => ?_, fun t ht => ?_⟩
  · rw [k_sR, k_sA, if_neg (by omega)]; exact b b' hb
  · rw [i_sR, i_sA, if_neg (by omega)]; exact (c b' hb j).1
  · rw [l_sR, l_sA, if_neg (by omega)]; exact (c b' hb j).2.1
  · rw [r_sR, if_neg (by omega), r_sA, if_neg (by omega)]; exact (c b' hb j).2.2
  · rw [i_sR, i_sA, if_neg (by omega)]; exact d j
  · by_cases z : t = i
    · subst z
      refine ⟨?_, ?_, fun j => ?_⟩
      · rw [r_sR, if_pos ⟨rfl, rfl⟩]
      · rw [k_sR, k_sA, if_pos rfl]
      · rw [i_sR, i_sA, if_pos rfl]
    · obtain ⟨e1, e2, e3⟩ := e t (by omega)
      refine ⟨?_, ?_, fun j => ?_⟩
      · rw [r_sR, if_neg (fun y => hne t (by omega) y.2), r_sA, if_neg (by omega)]; exact e1
      · rw [k_sR, k_sA, if_neg (by omega)]; exact e2
      · rw [i_sR, i_sA, if_neg (by omega)]; exact e3 j
theorem Ar.sI {i j : Nat} {y : Int32} (h : Ar o i q f M M1) : Ar o i q (fun k => if k = j then y else f k) M (sI M1 o j y) := by
  obtain ⟨a, b, c, d, e⟩ := h
  refine ⟨a, b, fun b' hb k => ⟨?_, (c b' hb k).2.1, (c b' hb k).2.2⟩, fun k => ?_, fun t ht => ⟨(e t ht).1, (e t ht).2.1, fun k => ?_⟩⟩
  · rw [i_sI, if_neg (by omega)]; exact (c b' hb k).1
  · rw [i_sI]
    by_cases z : k = j
    · rw [if_pos ⟨rfl, z⟩]
      exact (if_pos z).symm
    · rw [if_neg (fun y => z y.2)]
      exact (d k).trans (if_neg z).symm
  · rw [i_sI, if_neg (by omega)]; exact (e t ht).2.2 k
def q3 (t : Nat) : Nat × Nat × Nat := [(0, 20, 10), (1, 20, 10), (2, 20, 10)].getD t (0, 0, 0)
theorem n_X3 (h : (mK M o).1 = 3) (hn : mN M = some (o + 1)) : ok (f_X3_init M o) (fun M' => Ar o 3 q3 (mI M o) M M' ∧ IsH M' o) := by
  unfold f_X3_init
  refine Ar_s (i := 0) (q := q3) (Ar.z hn (fun _ => rfl)) h (by decide) fun M1 A1 => ?_
  refine Ar_s (i := 1) (q := q3) A1 h (by decide) fun M2 A2 => ?_
  refine Ar_s (i := 2) (q := q3) A2 h (by decide) fun M3 A3 => ?_
  refine ok.pure ⟨A3, ?_, ⟨(A3.2.2.2.2 0 (by omega)).1, (A3.2.2.2.2 1 (by omega)).1, (A3.2.2.2.2 2 (by omega)).1⟩, (A3.2.2.2.2 0 (by omega)).2.1, (A3.2.2.2.2 1 (by omega)).2.1, (A3.2.2.2.2 2 (by omega)).2.1⟩
  rw [A3.2.1 o (Nat.le_refl _)]; exact h
def q4 (t : Nat) : Nat × Nat × Nat := [(0, 20, 4096), (1, 20, 4096), (2, 20, 16), (3, 20, 16)].getD t (0, 0, 0)
theorem n_X4 (h : (mK M o).1 = 4) (hn : mN M = some (o + 1)) : ok (f_X4_init M o) (fun M' => Ar o 4 q4 (fun k => if k = 5 then 1 else if k = 4 then 1 else mI M o k) M M' ∧ IsOp M' o) := by
  unfold f_X4_init
  refine Ar_s (i := 0) (q := q4) (Ar.z hn (fun _ => rfl)) h (by decide) fun M1 A1 => ?_
  refine Ar_s (i := 1) (q := q4) A1 h (by decide) fun M2 A2 => ?_
  refine Ar_s (i := 2) (q := q4) A2 h (by decide) fun M3 A3 => ?_
  refine Ar_s (i := 3) (q := q4) A3 h (by decide) fun M4 A4 => ?_
  have k4 : (mK M4 o).1 = 4 := by rw [A4.2.1 o (Nat.le_refl _)]; exact h
  have A5 := A4.sI (j := 4) (y := 1)
  have A6 := A5.sI (j := 5) (y := 1)
  have p1 : pFI M4 o 4 4 1 = some (sI M4 o 4 1) := pFI_e k4
  have p2 : pFI (sI M4 o 4 1) o 4 5 1 = some (sI (sI M4 o 4 1) o 5 1) := pFI_e k4
  rw [p1, bs, p2, bs]
  exact ok.pure ⟨A6, k4, ⟨(A6.2.2.2.2 0 (by omega)).1, (A6.2.2.2.2 1 (by omega)).1, (A6.2.2.2.2 2 (by omega)).1, (A6.2.2.2.2 3 (by omega)).1⟩, (A6.2.2.2.2 0 (by omega)).2.1, (A6.2.2.2.2 1 (by omega)).2.1, (A6.2.2.2.2 2 (by omega)).2.1, (A6.2.2.2.2 3 (by omega)).2.1⟩
theorem Ar.nx {i : Nat} (h : Ar o i q f M M1) : Nx o (o + 1 + i) M M1 := ⟨h.1, h.2.1, h.2.2.1⟩
def q0 (t : Nat) : Nat × Nat × Nat := [(3, 20, 4), (4, 20, 4), (5, 20, 12), (6, 20, 12), (7, 20, 12), (8, 20, 24), (9, 20, 24), (10, 20, 24), (11, 20, 4), (12, 20, 12), (13, 20, 12)].getD t (0, 0, 0)
theorem n_X0 {lim : Nat} (h : (mK M o).1 = 0) (hn : mN M = some (o + 1)) (hS : Sta M lim) (hl : lim ≤ o) (h0 : ∀ j, j < 3 → mI M o j = 0) : ok (f_X0_init M o) (fun M' => Nx o (o + 12) M M' ∧ (∀ j, mI M' o j = mI M o j) ∧ IsB M' o D0) := by
  obtain ⟨a, ha, s1, s2, s3⟩ := hS.1 0 (by omega)
  have lp := hS.2.2
  unfold f_X0_init
  have A0 : Ar o 0 q0 (mI M o) M M := Ar.z hn (fun _ => rfl)
  refine Ar_s (i := 0) (q := q0) A0 h (by decide) fun M1 A1 => ?_
  refine Ar_s (i := 1) (q := q0) A1 h (by decide) fun M2 A2 => ?_
  refine Ar_s (i := 2) (q := q0) A2 h (by decide) fun M3 A3 => ?_
  refine Ar_s (i := 3) (q := q0) A3 h (by decide) fun M4 A4 => ?_
  refine Ar_s (i := 4) (q := q0) A4 h (by decide) fun M5 A5 => ?_
  refine Ar_s (i := 5) (q := q0) A5 h (by decide) fun M6 A6 => ?_
  refine Ar_s (i := 6) (q := q0) A6 h (by decide) fun M7 A7 => ?_
  refine Ar_s (i := 7) (q := q0) A7 h (by decide) fun M8 A8 => ?_
  refine Ar_s (i := 8) (q := q0) A8 h (by decide) fun M9 A9 => ?_
  refine Ar_s (i := 9) (q := q0) A9 h (by decide) fun M10 A10 => ?_
  refine Ar_s (i := 10) (q := q0) A10 h (by decide) fun M11 A11 => ?_
  have k0 : (mK M11 o).1 = 0 := by rw [A11.2.1 o (Nat.le_refl _)]; exact h
  have hs : IsBs M11 o := by
    refine ⟨k0, fun k h1 h2 => ?_⟩
    obtain ⟨t, rfl⟩ : ∃ t, k = t + 1 := ⟨k - 1, by omega⟩
    obtain ⟨e1, e2, -⟩ := A11.2.2.2.2 t (by omega)
    rw [show o + 1 + t = o + (t + 1) by omega] at e1 e2
    rcases (show t = 0 ∨ t = 1 ∨ t = 2 ∨ t = 3 ∨ t = 4 ∨ t = 5 ∨ t = 6 ∨ t = 7 ∨ t = 8 ∨ t = 9 ∨ t = 10 by omega) with z | z | z | z | z | z | z | z | z | z | z <;> subst z <;> exact ⟨e1, e2⟩
  have g : gST M11 0 = some a := by
    show mR M11 0 0 = some a
    rw [(A11.2.2.1 0 (by omega) 0).2.2]; exact s1
  have ka : mK M11 a = (25, 4) := by rw [A11.2.1 a (by omega)]; exact s2
  have w : cpI M11 a 0 (o + 9) 0 4 = some (sC M11 a 0 (o + 9) 0 4) := cpI_e (sp := 0) (dp := 0) (k := 4) (n := 4) (m := 4) ka (Or.inr rfl) hs.k9 (by omega) (by omega) (by omega) (by omega)
  rw [g, bs, hs.r9, bs, w, bs]
  refine ok.pure ⟨⟨A11.1, A11.2.1, fun b hb j => ⟨?_, (A11.2.2.1 b hb j).2.1, (A11.2.2.1 b hb j).2.2⟩⟩, fun j => ?_, hs, fun j hj => ?_, D0_n, fun k k1 k2 i hi => ?_⟩
  · rw [i_sC, if_neg (by omega)]; exact (A11.2.2.1 b hb j).1
  · rw [i_sC, if_neg (by omega)]; exact A11.2.2.2.1 j
  · rw [i_sC, if_neg (by omega), A11.2.2.2.1 j, h0 j hj]
    rcases (show j = 0 ∨ j = 1 ∨ j = 2 by omega) with e | e | e <;> subst e <;> rfl
  · by_cases e : k = 9
    · subst e
      have hi4 : i < 4 := hi
      rw [i_sC, if_pos (by omega), show 0 + (i - 0) = i by omega, (A11.2.2.1 a (by omega) i).1]
      exact s3 i hi4
    · unfold bsz at hi
      rw [cn_D0, cn_D0, cn_D0, if_neg e] at hi
      split at hi
      · omega
      · split at hi <;> omega
end
