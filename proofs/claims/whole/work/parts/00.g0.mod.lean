/-! ===== the reference's object at m: its cells ===== -/
section
/-- field j holds the array k places behind m, of a kind and a length -/
def moL : List (Nat × Nat × Nat × Nat) := [(0, 1, 20, 92), (1, 2, 20, 92), (2, 3, 20, 920), (8, 4, 20, 4), (9, 5, 20, 12), (10, 6, 20, 12), (14, 7, 20, 4), (15, 8, 20, 12), (16, 9, 20, 12), (17, 10, 21, 1200), (29, 11, 20, 96), (32, 12, 20, 12), (33, 13, 20, 12), (34, 14, 20, 288), (35, 15, 20, 48), (36, 16, 20, 4), (40, 17, 22, 12), (41, 18, 20, 24)]
def IsMo (M : Mem) (m : Nat) : Prop := (mK M m).1 = 9 ∧ ∀ q, q ∈ moL → mR M m q.1 = some (m + q.2.1) ∧ mK M (m + q.2.1) = (q.2.2.1, q.2.2.2)
theorem IsMo.e {M M' : Mem} {m : Nat} (h : IsMo M m) (hk : mK M' = mK M) (hr : mR M' = mR M) : IsMo M' m := by
  unfold IsMo at h ⊢
  rw [hk, hr]
  exact h
theorem IsMo.fi {M M' : Mem} {m lo hi : Nat} (h : IsMo M m) (hF : Fi lo hi M M') : IsMo M' m := h.e hF.k hF.r
theorem IsMo.fq {M M' : Mem} {m lo hi : Nat} (h : IsMo M m) (hF : Fq lo hi M M') (hb : m + 19 ≤ lo ∨ hi ≤ m) : IsMo M' m := by
  refine ⟨by rw [hF.1]; exact h.1, fun q hq => ?_⟩
  obtain ⟨h1, h2⟩ := h.2 q hq
  exact ⟨by rw [hF.r (by omega)]; exact h1, by rw [hF.1]; exact h2⟩
variable {M : Mem} {m : Nat}
theorem IsMo.c (h : IsMo M m) : ck M m 9 = some () := ck_e h.1
theorem IsMo.gi (h : IsMo M m) (j : Nat) : gFI M m 9 j = some (mI M m j) := gFI_e h.1
theorem IsMo.gl (h : IsMo M m) (j : Nat) : gFL M m 9 j = some (mL M m j) := gFL_e h.1
theorem IsMo.p (h : IsMo M m) (j : Nat) (x : Int32) : pFI M m 9 j x = some (sI M m j x) := pFI_e h.1
theorem IsMo.pl (h : IsMo M m) (j : Nat) (x : Int64) : pFL M m 9 j x = some (sL M m j x) := pFL_e h.1
theorem IsMo.r0 (h : IsMo M m) : gFR M m 9 0 = some (m + 1) := gFR_e h.1 (h.2 (0, 1, 20, 92) (by decide)).1
theorem IsMo.k0 (h : IsMo M m) : mK M (m + 1) = (20, 92) := (h.2 (0, 1, 20, 92) (by decide)).2
theorem IsMo.a0 (h : IsMo M m) {i : Nat} (hi : i < 92) : aI M (m + 1) (Int32.ofNat i) = some (mI M (m + 1) i) := aI_e h.k0 (Or.inl rfl) hi (by omega)
theorem IsMo.w0 (h : IsMo M m) {i : Nat} (hi : i < 92) (x : Int32) : wI M (m + 1) (Int32.ofNat i) x = some (sI M (m + 1) i x) := wI_e h.k0 hi (by omega)
theorem IsMo.r1 (h : IsMo M m) : gFR M m 9 1 = some (m + 2) := gFR_e h.1 (h.2 (1, 2, 20, 92) (by decide)).1
theorem IsMo.k1 (h : IsMo M m) : mK M (m + 2) = (20, 92) := (h.2 (1, 2, 20, 92) (by decide)).2
theorem IsMo.a1 (h : IsMo M m) {i : Nat} (hi : i < 92) : aI M (m + 2) (Int32.ofNat i) = some (mI M (m + 2) i) := aI_e h.k1 (Or.inl rfl) hi (by omega)
theorem IsMo.w1 (h : IsMo M m) {i : Nat} (hi : i < 92) (x : Int32) : wI M (m + 2) (Int32.ofNat i) x = some (sI M (m + 2) i x) := wI_e h.k1 hi (by omega)
theorem IsMo.r2 (h : IsMo M m) : gFR M m 9 2 = some (m + 3) := gFR_e h.1 (h.2 (2, 3, 20, 920) (by decide)).1
theorem IsMo.k2 (h : IsMo M m) : mK M (m + 3) = (20, 920) := (h.2 (2, 3, 20, 920) (by decide)).2
theorem IsMo.a2 (h : IsMo M m) {i : Nat} (hi : i < 920) : aI M (m + 3) (Int32.ofNat i) = some (mI M (m + 3) i) := aI_e h.k2 (Or.inl rfl) hi (by omega)
theorem IsMo.w2 (h : IsMo M m) {i : Nat} (hi : i < 920) (x : Int32) : wI M (m + 3) (Int32.ofNat i) x = some (sI M (m + 3) i x) := wI_e h.k2 hi (by omega)
theorem IsMo.r8 (h : IsMo M m) : gFR M m 9 8 = some (m + 4) := gFR_e h.1 (h.2 (8, 4, 20, 4) (by decide)).1
theorem IsMo.k8 (h : IsMo M m) : mK M (m + 4) = (20, 4) := (h.2 (8, 4, 20, 4) (by decide)).2
theorem IsMo.a8 (h : IsMo M m) {i : Nat} (hi : i < 4) : aI M (m + 4) (Int32.ofNat i) = some (mI M (m + 4) i) := aI_e h.k8 (Or.inl rfl) hi (by omega)
theorem IsMo.w8 (h : IsMo M m) {i : Nat} (hi : i < 4) (x : Int32) : wI M (m + 4) (Int32.ofNat i) x = some (sI M (m + 4) i x) := wI_e h.k8 hi (by omega)
theorem IsMo.r9 (h : IsMo M m) : gFR M m 9 9 = some (m + 5) := gFR_e h.1 (h.2 (9, 5, 20, 12) (by decide)).1
theorem IsMo.k9 (h : IsMo M m) : mK M (m + 5) = (20, 12) := (h.2 (9, 5, 20, 12) (by decide)).2
theorem IsMo.a9 (h : IsMo M m) {i : Nat} (hi : i < 12) : aI M (m + 5) (Int32.ofNat i) = some (mI M (m + 5) i) := aI_e h.k9 (Or.inl rfl) hi (by omega)
theorem IsMo.w9 (h : IsMo M m) {i : Nat} (hi : i < 12) (x : Int32) : wI M (m + 5) (Int32.ofNat i) x = some (sI M (m + 5) i x) := wI_e h.k9 hi (by omega)
theorem IsMo.r10 (h : IsMo M m) : gFR M m 9 10 = some (m + 6) := gFR_e h.1 (h.2 (10, 6, 20, 12) (by decide)).1
theorem IsMo.k10 (h : IsMo M m) : mK M (m + 6) = (20, 12) := (h.2 (10, 6, 20, 12) (by decide)).2
theorem IsMo.a10 (h : IsMo M m) {i : Nat} (hi : i < 12) : aI M (m + 6) (Int32.ofNat i) = some (mI M (m + 6) i) := aI_e h.k10 (Or.inl rfl) hi (by omega)
theorem IsMo.w10 (h : IsMo M m) {i : Nat} (hi : i < 12) (x : Int32) : wI M (m + 6) (Int32.ofNat i) x = some (sI M (m + 6) i x) := wI_e h.k10 hi (by omega)
theorem IsMo.r14 (h : IsMo M m) : gFR M m 9 14 = some (m + 7) := gFR_e h.1 (h.2 (14, 7, 20, 4) (by decide)).1
theorem IsMo.k14 (h : IsMo M m) : mK M (m + 7) = (20, 4) := (h.2 (14, 7, 20, 4) (by decide)).2
theorem IsMo.a14 (h : IsMo M m) {i : Nat} (hi : i < 4) : aI M (m + 7) (Int32.ofNat i) = some (mI M (m + 7) i) := aI_e h.k14 (Or.inl rfl) hi (by omega)
theorem IsMo.w14 (h : IsMo M m) {i : Nat} (hi : i < 4) (x : Int32) : wI M (m + 7) (Int32.ofNat i) x = some (sI M (m + 7) i x) := wI_e h.k14 hi (by omega)
theorem IsMo.r15 (h : IsMo M m) : gFR M m 9 15 = some (m + 8) := gFR_e h.1 (h.2 (15, 8, 20, 12) (by decide)).1
theorem IsMo.k15 (h : IsMo M m) : mK M (m + 8) = (20, 12) := (h.2 (15, 8, 20, 12) (by decide)).2
theorem IsMo.a15 (h : IsMo M m) {i : Nat} (hi : i < 12) : aI M (m + 8) (Int32.ofNat i) = some (mI M (m + 8) i) := aI_e h.k15 (Or.inl rfl) hi (by omega)
theorem IsMo.w15 (h : IsMo M m) {i : Nat} (hi : i < 12) (x : Int32) : wI M (m + 8) (Int32.ofNat i) x = some (sI M (m + 8) i x) := wI_e h.k15 hi (by omega)
theorem IsMo.r16 (h : IsMo M m) : gFR M m 9 16 = some (m + 9) := gFR_e h.1 (h.2 (16, 9, 20, 12) (by decide)).1
theorem IsMo.k16 (h : IsMo M m) : mK M (m + 9) = (20, 12) := (h.2 (16, 9, 20, 12) (by decide)).2
theorem IsMo.a16 (h : IsMo M m) {i : Nat} (hi : i < 12) : aI M (m + 9) (Int32.ofNat i) = some (mI M (m + 9) i) := aI_e h.k16 (Or.inl rfl) hi (by omega)
theorem IsMo.w16 (h : IsMo M m) {i : Nat} (hi : i < 12) (x : Int32) : wI M (m + 9) (Int32.ofNat i) x = some (sI M (m + 9) i x) := wI_e h.k16 hi (by omega)
theorem IsMo.r17 (h : IsMo M m) : gFR M m 9 17 = some (m + 10) := gFR_e h.1 (h.2 (17, 10, 21, 1200) (by decide)).1
theorem IsMo.k17 (h : IsMo M m) : mK M (m + 10) = (21, 1200) := (h.2 (17, 10, 21, 1200) (by decide)).2
theorem IsMo.r29 (h : IsMo M m) : gFR M m 9 29 = some (m + 11) := gFR_e h.1 (h.2 (29, 11, 20, 96) (by decide)).1
theorem IsMo.k29 (h : IsMo M m) : mK M (m + 11) = (20, 96) := (h.2 (29, 11, 20, 96) (by decide)).2
theorem IsMo.a29 (h : IsMo M m) {i : Nat} (hi : i < 96) : aI M (m + 11) (Int32.ofNat i) = some (mI M (m + 11) i) := aI_e h.k29 (Or.inl rfl) hi (by omega)
theorem IsMo.w29 (h : IsMo M m) {i : Nat} (hi : i < 96) (x : Int32) : wI M (m + 11) (Int32.ofNat i) x = some (sI M (m + 11) i x) := wI_e h.k29 hi (by omega)
theorem IsMo.r32 (h : IsMo M m) : gFR M m 9 32 = some (m + 12) := gFR_e h.1 (h.2 (32, 12, 20, 12) (by decide)).1
theorem IsMo.k32 (h : IsMo M m) : mK M (m + 12) = (20, 12) := (h.2 (32, 12, 20, 12) (by decide)).2
theorem IsMo.a32 (h : IsMo M m) {i : Nat} (hi : i < 12) : aI M (m + 12) (Int32.ofNat i) = some (mI M (m + 12) i) := aI_e h.k32 (Or.inl rfl) hi (by omega)
theorem IsMo.w32 (h : IsMo M m) {i : Nat} (hi : i < 12) (x : Int32) : wI M (m + 12) (Int32.ofNat i) x = some (sI M (m + 12) i x) := wI_e h.k32 hi (by omega)
theorem IsMo.r33 (h : IsMo M m) : gFR M m 9 33 = some (m + 13) := gFR_e h.1 (h.2 (33, 13, 20, 12) (by decide)).1
theorem IsMo.k33 (h : IsMo M m) : mK M (m + 13) = (20, 12) := (h.2 (33, 13, 20, 12) (by decide)).2
theorem IsMo.a33 (h : IsMo M m) {i : Nat} (hi : i < 12) : aI M (m + 13) (Int32.ofNat i) = some (mI M (m + 13) i) := aI_e h.k33 (Or.inl rfl) hi (by omega)
theorem IsMo.w33 (h : IsMo M m) {i : Nat} (hi : i < 12) (x : Int32) : wI M (m + 13) (Int32.ofNat i) x = some (sI M (m + 13) i x) := wI_e h.k33 hi (by omega)
theorem IsMo.r34 (h : IsMo M m) : gFR M m 9 34 = some (m + 14) := gFR_e h.1 (h.2 (34, 14, 20, 288) (by decide)).1
theorem IsMo.k34 (h : IsMo M m) : mK M (m + 14) = (20, 288) := (h.2 (34, 14, 20, 288) (by decide)).2
theorem IsMo.a34 (h : IsMo M m) {i : Nat} (hi : i < 288) : aI M (m + 14) (Int32.ofNat i) = some (mI M (m + 14) i) := aI_e h.k34 (Or.inl rfl) hi (by omega)
theorem IsMo.w34 (h : IsMo M m) {i : Nat} (hi : i < 288) (x : Int32) : wI M (m + 14) (Int32.ofNat i) x = some (sI M (m + 14) i x) := wI_e h.k34 hi (by omega)
theorem IsMo.r35 (h : IsMo M m) : gFR M m 9 35 = some (m + 15) := gFR_e h.1 (h.2 (35, 15, 20, 48) (by decide)).1
theorem IsMo.k35 (h : IsMo M m) : mK M (m + 15) = (20, 48) := (h.2 (35, 15, 20, 48) (by decide)).2
theorem IsMo.a35 (h : IsMo M m) {i : Nat} (hi : i < 48) : aI M (m + 15) (Int32.ofNat i) = some (mI M (m + 15) i) := aI_e h.k35 (Or.inl rfl) hi (by omega)
theorem IsMo.w35 (h : IsMo M m) {i : Nat} (hi : i < 48) (x : Int32) : wI M (m + 15) (Int32.ofNat i) x = some (sI M (m + 15) i x) := wI_e h.k35 hi (by omega)
theorem IsMo.r36 (h : IsMo M m) : gFR M m 9 36 = some (m + 16) := gFR_e h.1 (h.2 (36, 16, 20, 4) (by decide)).1
theorem IsMo.k36 (h : IsMo M m) : mK M (m + 16) = (20, 4) := (h.2 (36, 16, 20, 4) (by decide)).2
theorem IsMo.a36 (h : IsMo M m) {i : Nat} (hi : i < 4) : aI M (m + 16) (Int32.ofNat i) = some (mI M (m + 16) i) := aI_e h.k36 (Or.inl rfl) hi (by omega)
theorem IsMo.w36 (h : IsMo M m) {i : Nat} (hi : i < 4) (x : Int32) : wI M (m + 16) (Int32.ofNat i) x = some (sI M (m + 16) i x) := wI_e h.k36 hi (by omega)
theorem IsMo.r40 (h : IsMo M m) : gFR M m 9 40 = some (m + 17) := gFR_e h.1 (h.2 (40, 17, 22, 12) (by decide)).1
theorem IsMo.k40 (h : IsMo M m) : mK M (m + 17) = (22, 12) := (h.2 (40, 17, 22, 12) (by decide)).2
theorem IsMo.r41 (h : IsMo M m) : gFR M m 9 41 = some (m + 18) := gFR_e h.1 (h.2 (41, 18, 20, 24) (by decide)).1
theorem IsMo.k41 (h : IsMo M m) : mK M (m + 18) = (20, 24) := (h.2 (41, 18, 20, 24) (by decide)).2
theorem IsMo.a41 (h : IsMo M m) {i : Nat} (hi : i < 24) : aI M (m + 18) (Int32.ofNat i) = some (mI M (m + 18) i) := aI_e h.k41 (Or.inl rfl) hi (by omega)
theorem IsMo.w41 (h : IsMo M m) {i : Nat} (hi : i < 24) (x : Int32) : wI M (m + 18) (Int32.ofNat i) x = some (sI M (m + 18) i x) := wI_e h.k41 hi (by omega)
end
/-! its ballot -/
section
def IsM (M : Mem) (m : Nat) (D : Bl) : Prop := IsMo M m ∧ (∀ j, j < 3 → mI M m (5 + j) = D 0 j) ∧ Cn D ∧ (∀ d, d < cn D 0 → mI M (m + 4) d = D 1 d ∧ mI M (m + 1) (4 + d) = D 2 d) ∧ (∀ p, p < cn D 1 → mI M (m + 5) p = D 3 p ∧ mI M (m + 1) (8 + p) = D 4 p ∧ mI M (m + 6) p = D 5 p) ∧ (∀ v, v < cn D 2 → mI M (m + 1) (20 + v) = D 6 v ∧ mI M (m + 1) (44 + v) = D 7 v ∧ mI M (m + 1) (68 + v) = D 8 v) ∧ ∀ i, i < 4 → mI M (m + 1) i = D 9 i
theorem IsM.n {M : Mem} {m : Nat} {D : Bl} (h : IsM M m D) : Cn D := h.2.2.1
theorem IsM.s {M : Mem} {m : Nat} {D : Bl} (h : IsM M m D) : IsMo M m := h.1
/-- what keeps it: nothing at the object's counts, its data, its names -/
theorem IsM.up {M M' : Mem} {m : Nat} {D : Bl} (h : IsM M m D) (hk : mK M' = mK M) (hr : mR M' = mR M) (h0 : ∀ j, j < 3 → mI M' m (5 + j) = mI M m (5 + j)) (h1 : ∀ j, mI M' (m + 1) j = mI M (m + 1) j) (h4 : ∀ j, mI M' (m + 4) j = mI M (m + 4) j) (h5 : ∀ j, mI M' (m + 5) j = mI M (m + 5) j) (h6 : ∀ j, mI M' (m + 6) j = mI M (m + 6) j) : IsM M' m D := by
  obtain ⟨a, b, c, d, e, f, g⟩ := h
  exact ⟨a.e hk hr, fun j hj => by rw [h0 j hj]; exact b j hj, c, fun k hk => by rw [h4, h1]; exact d k hk, fun p hp => by rw [h5, h1, h6]; exact e p hp, fun v hv => by rw [h1, h1, h1]; exact f v hv, fun i hi => by rw [h1]; exact g i hi⟩
theorem IsM.fi {M M' : Mem} {m lo hi : Nat} {D : Bl} (h : IsM M m D) (hF : Fi lo hi M M') (hb : m + 7 ≤ lo ∨ hi ≤ m) : IsM M' m D := h.up hF.k hF.r (fun j _ => hF.i (by omega) _) (fun j => hF.i (by omega) _) (fun j => hF.i (by omega) _) (fun j => hF.i (by omega) _) (fun j => hF.i (by omega) _)
theorem IsM.fq {M M' : Mem} {m lo hi : Nat} {D : Bl} (h : IsM M m D) (hF : Fq lo hi M M') (hb : m + 19 ≤ lo ∨ hi ≤ m) : IsM M' m D := by
  obtain ⟨a, b, c, d, e, f, g⟩ := h
  exact ⟨a.fq hF hb, fun j hj => by rw [hF.i (by omega)]; exact b j hj, c, fun k hk => by rw [hF.i (by omega), hF.i (by omega)]; exact d k hk, fun p hp => by rw [hF.i (by omega), hF.i (by omega), hF.i (by omega)]; exact e p hp, fun v hv => by rw [hF.i (by omega), hF.i (by omega), hF.i (by omega)]; exact f v hv, fun i hi => by rw [hF.i (by omega)]; exact g i hi⟩
theorem IsM.sIo {M : Mem} {m : Nat} {D : Bl} (h : IsM M m D) {j : Nat} (hj : j < 5 ∨ 8 ≤ j) (x : Int32) : IsM (sI M m j x) m D := h.up rfl rfl (fun i hi => by rw [i_sI, if_neg (by omega)]) (fun i => by rw [i_sI, if_neg (by omega)]) (fun i => by rw [i_sI, if_neg (by omega)]) (fun i => by rw [i_sI, if_neg (by omega)]) (fun i => by rw [i_sI, if_neg (by omega)])
variable {M : Mem} {m : Nat} {D : Bl}
theorem IsM.g5 (h : IsM M m D) : gFI M m 9 5 = some (Int32.ofNat (cn D 0)) := by rw [h.s.gi, h.2.1 0 (by omega), h.n.1 0 (by omega)]
theorem IsM.g6 (h : IsM M m D) : gFI M m 9 6 = some (Int32.ofNat (cn D 1)) := by rw [h.s.gi, h.2.1 1 (by omega), h.n.1 1 (by omega)]
theorem IsM.g7 (h : IsM M m D) : gFI M m 9 7 = some (Int32.ofNat (cn D 2)) := by rw [h.s.gi, h.2.1 2 (by omega), h.n.1 2 (by omega)]
theorem ad4 (i : Nat) : (4 : Int32) + Int32.ofNat i = Int32.ofNat (4 + i) := i_add 4 i
theorem ad8 (i : Nat) : (8 : Int32) + Int32.ofNat i = Int32.ofNat (8 + i) := i_add 8 i
theorem ad20 (i : Nat) : (20 : Int32) + Int32.ofNat i = Int32.ofNat (20 + i) := i_add 20 i
theorem ad44 (i : Nat) : (44 : Int32) + Int32.ofNat i = Int32.ofNat (44 + i) := i_add 44 i
theorem ad68 (i : Nat) : (68 : Int32) + Int32.ofNat i = Int32.ofNat (68 + i) := i_add 68 i
theorem ml4 (v i : Nat) : (4 : Int32) * Int32.ofNat v + Int32.ofNat i = Int32.ofNat (4 * v + i) := by
  rw [show (4 : Int32) = Int32.ofNat 4 from rfl, i_mul, i_add]
theorem ml24 (v i : Nat) : (24 : Int32) * Int32.ofNat v + Int32.ofNat i = Int32.ofNat (24 * v + i) := by
  rw [show (24 : Int32) = Int32.ofNat 24 from rfl, i_mul, i_add]
theorem IsM.d2 (h : IsM M m D) {d : Nat} (hd : d < cn D 0) : aI M (m + 1) (4 + Int32.ofNat d) = some (D 2 d) := by
  have := h.n.2.1
  rw [ad4, h.s.a0 (by omega), (h.2.2.2.1 d hd).2]
theorem IsM.d4 (h : IsM M m D) {p : Nat} (hp : p < cn D 1) : aI M (m + 1) (8 + Int32.ofNat p) = some (D 4 p) := by
  have := h.n.2.2.1
  rw [ad8, h.s.a0 (by omega), (h.2.2.2.2.1 p hp).2.1]
theorem IsM.d5 (h : IsM M m D) {p : Nat} (hp : p < cn D 1) : aI M (m + 6) (Int32.ofNat p) = some (D 5 p) := by
  have := h.n.2.2.1
  rw [h.s.a10 (by omega), (h.2.2.2.2.1 p hp).2.2]
theorem IsM.d6 (h : IsM M m D) {v : Nat} (hv : v < cn D 2) : aI M (m + 1) (20 + Int32.ofNat v) = some (D 6 v) := by
  have := h.n.2.2.2
  rw [ad20, h.s.a0 (by omega), (h.2.2.2.2.2.1 v hv).1]
theorem IsM.d7 (h : IsM M m D) {v : Nat} (hv : v < cn D 2) : aI M (m + 1) (44 + Int32.ofNat v) = some (D 7 v) := by
  have := h.n.2.2.2
  rw [ad44, h.s.a0 (by omega), (h.2.2.2.2.2.1 v hv).2.1]
theorem IsM.d8 (h : IsM M m D) {v : Nat} (hv : v < cn D 2) : aI M (m + 1) (68 + Int32.ofNat v) = some (D 8 v) := by
  have := h.n.2.2.2
  rw [ad68, h.s.a0 (by omega), (h.2.2.2.2.2.1 v hv).2.2]
theorem IsM.d9 (h : IsM M m D) {i : Nat} (hi : i < 4) : aI M (m + 1) (Int32.ofNat i) = some (D 9 i) := by
  rw [h.s.a0 (by omega), h.2.2.2.2.2.2 i hi]
/-! what its methods answer -/
theorem m_sp (h : IsM M m D) {v p : Nat} (hv : v < cn D 2) (hp : p < cn D 1) : f_X9_supports M m (Int32.ofNat v) (Int32.ofNat p) = some (b2i (sp D v p)) := by
  unfold f_X9_supports sp
  simp only [h.s.r0, bs, h.d8 hv, f_has9, b2i_ite, h.d7 hv, h.s.r10, h.d5 hp, is_, b2i_01]
  by_cases c : hs (D 8 v) (Int32.ofNat p) = true
  · rw [if_pos c, isBb, c, Bool.true_and]
  · rw [if_neg c, isB0, Bool.eq_false_iff.mpr c, Bool.false_and]
theorem m_vt (h : IsM M m D) {p : Nat} (hp : p < cn D 1) : f_X9_votesOf M m (Int32.ofNat p) = some (vt D p) := by
  unfold f_X9_votesOf
  refine it_s (k := fun a => some a) (cn D 2) _ h.n.m2 (fun rec i a hi => ?_) (fun rec a => ?_)
  · unfold bd_X9_votesOf_4
    simp only [h.g7, bs, ile_n hi h.n.l2, h.s.c, m_sp h hi hp, b2i_ite, h.s.r0, h.d6 hi, is_, ltq, i_succ]
  · unfold bd_X9_votesOf_4
    simp only [h.g7, bs, ile_e]
theorem m_wo (h : IsM M m D) {p : Nat} (hp : p < cn D 1) : f_X9_worthOf M m (Int32.ofNat p) = some (wo D p) := by
  have e := h.d9 (i := 0) (by omega)
  unfold f_X9_worthOf wo
  rw [z9]
  simp only [h.s.r0, bs, e, h.d4 hp, is_]
theorem m_fp (h : IsM M m D) (hG : Gd D) {v d : Nat} (hv : v < cn D 2) (hd : d < cn D 0) : f_X9_firstHolding M m (Int32.ofNat v) (Int32.ofNat d) = some (fp D v d) := by
  unfold f_X9_firstHolding
  simp only [h.s.r0, bs, h.d7 hv, f_has9, b2i_ite]
  by_cases c : hs (D 7 v) (Int32.ofNat d) = true
  · rw [if_pos c]
    have key := it_s (F := bd_X9_firstHolding_23 M m (Int32.ofNat d) fun (e5 : Int32 × Int32) => aI M (m + 1) (4 + Int32.ofNat d) >>= fun (x17 : Int32) => aI M (m + 1) (20 + Int32.ofNat v) >>= fun (x19 : Int32) => dv_ (x17 * x19) e5.1 >>= fun (x20 : Int32) => some x20) (k := fun w => dv_ (D 2 d * D 6 v) w >>= fun (x20 : Int32) => some x20) (cn D 2) (fun v => if hs (D 7 v) (Int32.ofNat d) = true then D 6 v else 0) h.n.m2 (fun rec i a hi => ?_) (fun rec a => ?_)
    · rw [key]
      have l2 := hG.n.2.2.2
      have at_ := sN_at (f := fun v => if hs (D 7 v) (Int32.ofNat d) = true then nt (D 6 v) else 0) hv
      rw [if_pos c] at at_
      have bd := sN_bd (n := cn D 2) (f := fun v => if hs (D 7 v) (Int32.ofNat d) = true then nt (D 6 v) else 0) (c := 9) (fun v hv => by
        have := (hG.2.2.2.1 v hv).1
        unfold nt
        split <;> omega)
      have hw := (hG.2.2.2.1 v hv).1
      have hw1 : nt (D 6 v) = (D 6 v).toInt.toNat := rfl
      have e := mw_N hG d
      unfold mw at e
      unfold fp sh mw
      rw [e, if_pos c]
      generalize sN (cn D 2) (fun v => if hs (D 7 v) (Int32.ofNat d) = true then nt (D 6 v) else 0) = W at *
      have n0 : ¬ Int32.ofNat W ≤ 0 := by rw [show (0 : Int32) = Int32.ofNat 0 from rfl, i_le (by omega) (by omega)]; omega
      have n1 : ¬ Int32.ofNat W = 0 := fun z => n0 (by rw [z]; exact Int32.le_refl _)
      rw [if_neg n0]
      unfold dv_
      rw [if_neg n1, bs]
    · unfold bd_X9_firstHolding_23
      simp only [h.g7, bs, ile_n hi h.n.l2, h.s.r0, h.d7 hi, f_has9, b2i_ite, h.d6 hi, is_, ltq, i_succ]
    · unfold bd_X9_firstHolding_23
      simp only [h.g7, bs, ile_e, h.s.r0, h.d2 hd, h.d6 hv]
  · rw [if_neg c]
    unfold fp sh
    rw [if_neg c]
/-- the purses are filled -/
def MH (M : Mem) (m : Nat) (D : Bl) (H : Nat → Nat → Int32) : Prop := ∀ v, v < cn D 2 → ∀ d, d < cn D 0 → mI M (m + 11) (4 * v + d) = H v d
theorem m_fill (h : IsM M m D) (hG : Gd D) (raise : Int32) : ok (f_X9_fillPurses M m raise) (fun M' => Fi (m + 11) (m + 12) M M' ∧ MH M' m D (pu D raise)) := by
  have l0 := h.n.2.1
  have l2 := h.n.2.2.2
  unfold f_X9_fillPurses
  refine it_r (I := fun i (u : Int32 × Mem) => u.1 = Int32.ofNat i ∧ Fi (m + 11) (m + 12) M u.2 ∧ ∀ v, v < i → ∀ d, d < cn D 0 → mI u.2 (m + 11) (4 * v + d) = pu D raise v d) (cn D 2) ⟨rfl, Fi.rf, fun v hv => absurd hv (Nat.not_lt_zero v)⟩ h.n.m2 ?_ ?_
  · rintro rec i ⟨y, M'⟩ hi ⟨rfl, hF, hx⟩ hrec
    dsimp only at hF hx
    have h1 := h.fi hF (by omega)
    unfold bd_X9_fillPurses_2
    simp only [h1.g7, bs, ile_n hi h.n.l2]
    refine it_r (I := fun j (u : Int32 × Mem) => u.1 = Int32.ofNat j ∧ Fi (m + 11) (m + 12) M u.2 ∧ ∀ v, v < cn D 2 → ∀ d, d < cn D 0 → (v < i ∨ (v = i ∧ d < j)) → mI u.2 (m + 11) (4 * v + d) = pu D raise v d) (cn D 0) ⟨rfl, hF, fun v _ d hd hq => hx v (by omega) d hd⟩ h.n.m0 ?_ ?_
    · rintro rec2 d ⟨y, M2⟩ hd ⟨rfl, hF2, hx2⟩ hrec2
      dsimp only at hF2 hx2
      have h2 := h.fi hF2 (by omega)
      unfold bd_X9_fillPurses_12
      have e : (if hs (D 7 i) (Int32.ofNat d) = true then fp D i d + raise else 0) = pu D raise i d := rfl
      simp only [h2.g5, bs, ile_n hd h.n.l0, h2.s.r29, h2.s.r0, h2.d7 hi, f_has9, b2i_ite, h2.s.c, m_fp h2 hG hi hd, is_, e, ml4, h2.s.w29 (show 4 * i + d < 96 by omega), i_succ]
      refine hrec2 _ ⟨rfl, hF2.trans (Fi.sI ⟨by omega, by omega⟩), fun v hv w hw hq => ?_⟩
      show mI (sI M2 _ _ _) (m + 11) (4 * v + w) = _
      rw [i_sI]
      by_cases c : v = i ∧ w = d
      · obtain ⟨rfl, rfl⟩ := c
        rw [if_pos ⟨rfl, rfl⟩]
      · rw [if_neg (by omega)]; exact hx2 v hv w hw (by omega)
    · rintro rec2 ⟨y, M2⟩ ⟨rfl, hF2, hx2⟩
      dsimp only at hF2 hx2
      have h2 := h.fi hF2 (by omega)
      unfold bd_X9_fillPurses_12
      simp only [h2.g5, bs, ile_e, i_succ]
      exact hrec _ ⟨rfl, hF2, fun v hv d hd => hx2 v (by omega) d hd (by omega)⟩
  · rintro rec ⟨y, M'⟩ ⟨rfl, hF, hx⟩
    dsimp only at hF hx
    have h1 := h.fi hF (by omega)
    unfold bd_X9_fillPurses_2
    simp only [h1.g7, bs, ile_e]
    exact ok.pure ⟨hF, hx⟩
variable {H : Nat → Nat → Int32}
theorem m_mn (h : IsM M m D) (hH : MH M m D H) {v p : Nat} (hv : v < cn D 2) (hp : p < cn D 1) : f_X9_meansOf M m (Int32.ofNat v) (Int32.ofNat p) = some (mn D H v (D 5 p)) := by
  have l0 := h.n.2.1
  have l2 := h.n.2.2.2
  unfold f_X9_meansOf
  refine it_s (k := fun a => some a) (cn D 0) _ h.n.m0 (fun rec i a hi => ?_) (fun rec a => ?_)
  · have e := h.s.a29 (i := 4 * v + i) (by omega)
    rw [hH v hv i hi] at e
    unfold bd_X9_meansOf_5
    simp only [h.g5, bs, ile_n hi h.n.l0, h.s.r10, h.d5 hp, f_has9, b2i_ite, h.s.r29, ml4, e, is_, ltq, i_succ]
  · unfold bd_X9_meansOf_5
    simp only [h.g5, bs, ile_e]
theorem m_all (h : IsM M m D) (hH : MH M m D H) {p : Nat} (hp : p < cn D 1) : f_X9_allMeans M m (Int32.ofNat p) = some (allM D H p) := by
  unfold f_X9_allMeans
  refine it_s (k := fun a => some a) (cn D 2) _ h.n.m2 (fun rec i a hi => ?_) (fun rec a => ?_)
  · unfold bd_X9_allMeans_4
    simp only [h.g7, bs, ile_n hi h.n.l2, h.s.c, m_sp h hi hp, b2i_ite, m_mn h hH hi hp, is_, ltq, i_succ]
    rfl
  · unfold bd_X9_allMeans_4
    simp only [h.g7, bs, ile_e]
theorem m_share (h : IsM M m D) (hH : MH M m D H) {v p : Nat} (hv : v < cn D 2) (hp : p < cn D 1) (hs_ : sp D v p = true) (q : Int32) : f_X9_shareOf M m (Int32.ofNat v) (Int32.ofNat p) q = some (shr D H p q v) := by
  unfold f_X9_shareOf shr mi stk amn
  rw [if_pos hs_, if_pos hs_]
  simp only [h.s.c, bs, m_mn h hH hv hp, h.s.r0, h.d6 hv, is_]
  generalize q * D 6 v = x
  generalize mn D H v (D 5 p) = y
  congr 1
  by_cases c : x < y
  · rw [if_pos c, if_pos (by rw [le_i]; rw [lt_i] at c; omega)]
  · by_cases c2 : x ≤ y
    · have : x = y := by rw [eq_i]; rw [le_i] at c2; rw [lt_i] at c; omega
      rw [if_neg c, if_pos c2, this]
    · rw [if_neg c, if_neg c2]
theorem shr_0 {v p : Nat} (hs_ : ¬ sp D v p = true) (q : Int32) : shr D H p q v = 0 := by
  unfold shr mi stk amn
  rw [if_neg hs_, if_neg hs_, Int32.mul_zero]
  rfl
theorem m_shares (h : IsM M m D) (hH : MH M m D H) {p : Nat} (hp : p < cn D 1) (q : Int32) : f_X9_sharesAt M m (Int32.ofNat p) q = some (sm (cn D 2) (shr D H p q)) := by
  unfold f_X9_sharesAt
  refine it_s (k := fun a => some a) (cn D 2) _ h.n.m2 (fun rec i a hi => ?_) (fun rec a => ?_)
  · unfold bd_X9_sharesAt_5
    by_cases c : sp D i p = true
    · simp only [h.g7, bs, ile_n hi h.n.l2, h.s.c, m_sp h hi hp, b2i_ite, c, if_true, m_share h hH hi hp c, ltq, i_succ]
    · simp only [h.g7, bs, ile_n hi h.n.l2, h.s.c, m_sp h hi hp, b2i_ite, c, shr_0 c, ltq, i_succ]
      rfl
  · unfold bd_X9_sharesAt_5
    simp only [h.g7, bs, ile_e]
/-- its price: the least one too -/
theorem m_price (h : IsM M m D) (hG : Gd D) (hB : HB D H) (hH : MH M m D H) {p : Nat} (hp : p < cn D 1) : f_X9_priceNow M m (Int32.ofNat p) = some (pr D H p) := by
  refine eq_ok ?_
  unfold f_X9_priceNow
  simp only [h.s.c, bs, m_all h hH hp, h.s.r0, h.d4 hp]
  refine ok.ite (fun c => ?_) (fun c => ?_)
  · obtain ⟨q, q1, q2, q3, q4, q5⟩ := pr_m1 hB hG hp c
    obtain ⟨c1, c2, c3⟩ := cost_N hG hp
    rw [q3]
    refine ok.itF (fun u : Int32 × Int32 => ∃ lo hi, u = (Int32.ofNat lo, Int32.ofNat hi) ∧ 1 ≤ lo ∧ lo ≤ q ∧ q ≤ hi ∧ hi ≤ 100000) (fun u => nt u.2 - nt u.1) ⟨1, 100000, rfl, Nat.le_refl _, q2, q1, Nat.le_refl _⟩ (by decide) ?_
    rintro rec u ⟨lo, hi, rfl, b1, b2, b3, b4⟩ hrec
    unfold bd_X9_priceNow_24
    dsimp only
    by_cases e : hi ≤ lo
    · rw [if_pos (by rw [i_le (by omega) (by omega)]; exact e)]
      refine ok.pure ?_
      rw [show lo = q by omega]
    · rw [if_neg (by rw [i_le (by omega) (by omega)]; exact e)]
      have dv : dv_ (Int32.ofNat lo + Int32.ofNat hi) 2 = some (Int32.ofNat ((lo + hi) / 2)) := by
        unfold dv_
        rw [if_neg (by decide), i_add, show (2 : Int32) = Int32.ofNat 2 from rfl, i_div (by omega) (by omega) (by omega)]
      generalize hmid : (lo + hi) / 2 = mid at *
      have sN_ := shs_N (p := p) hB hG (show mid ≤ 100000 by omega)
      have bdN := shN_bd (p := p) hB hG mid
      simp only [dv, bs, h.s.c, m_shares h hH hp, h.s.r0, h.d4 hp, ltq, i_succ, is_]
      rw [sN_, c3]
      by_cases cc : shN (cn D 2) (mv D H p) (wv D p) mid < nt (D 4 p)
      · rw [if_pos (by rw [i_lt (by omega) (by omega)]; exact cc)]
        have : mid < q := by
          rcases Nat.lt_or_ge mid q with z | z
          · exact z
          · have := shN_mono (n := cn D 2) (m := mv D H p) (w := wv D p) z
            omega
        refine hrec _ ⟨mid + 1, hi, rfl, by omega, by omega, b3, b4⟩ ?_
        dsimp only
        rw [nt_o (by omega), nt_o (by omega), nt_o (by omega)]
        omega
      · rw [if_neg (by rw [i_lt (by omega) (by omega)]; exact cc)]
        have : q ≤ mid := by
          rcases Nat.lt_or_ge mid q with z | z
          · exact absurd (q5 mid z) cc
          · exact z
        refine hrec _ ⟨lo, mid, rfl, b1, b2, this, by omega⟩ ?_
        dsimp only
        rw [nt_o (by omega), nt_o (by omega), nt_o (by omega)]
        omega
  · unfold pr
    rw [if_neg c]
    exact ok.pure rfl
end
