/-! ===== the state of both, and what holds between two calls ===== -/
section
/-- the text fed; the changes that can be undone: how many, the ballots before them, what they wrote -/
abbrev Tx : Type := Nat × (Nat → Int32)
abbrev Hy : Type := Nat × (Nat → Bl) × (Nat → Nat) × (Nat → Nat)
abbrev St : Type := Bl × Tx × Int32 × Hy
def krow (k : Nat) : Nat := [2, 4, 6, 7, 8, 9].getD k 9
def up (D : Bl) (k i : Nat) (y : Int32) : Bl := fun k' i' => if k' = k ∧ i' = i then y else D k' i'
/-- the kept changes fit the ballot -/
def Hv (D : Bl) (h : Hy) : Prop := h.1 ≤ 10 ∧ h.2.1 h.1 = D ∧ ∀ j, j < h.1 → Gd (h.2.1 j) ∧ h.2.2.1 j < 6 ∧ h.2.2.2 j < bsz (h.2.1 (j + 1)) (krow (h.2.2.1 j)) ∧ h.2.1 j = tl (up (h.2.1 (j + 1)) (krow (h.2.2.1 j)) (h.2.2.2 j) (h.2.1 j (krow (h.2.2.1 j)) (h.2.2.2 j)))
/-- the class's Text at a -/
def IsT (M : Mem) (a : Nat) : Prop := (mK M a).1 = 7 ∧ mR M a 0 = some (a + 1) ∧ mK M (a + 1) = (21, 1200)
def TX (M : Mem) (a : Nat) (t : Tx) : Prop := IsT M a ∧ mI M a 1 = Int32.ofNat t.1 ∧ t.1 ≤ 1200 ∧ ∀ j, j < t.1 → mI M (a + 1) j = t.2 j
/-- its History at a -/
def IsH (M : Mem) (a : Nat) : Prop := (mK M a).1 = 3 ∧ (mR M a 0 = some (a + 1) ∧ mR M a 1 = some (a + 2) ∧ mR M a 2 = some (a + 3)) ∧ mK M (a + 1) = (20, 10) ∧ mK M (a + 2) = (20, 10) ∧ mK M (a + 3) = (20, 10)
def HX (M : Mem) (a : Nat) (h : Hy) : Prop := IsH M a ∧ mI M a 3 = Int32.ofNat h.1 ∧ ∀ j, j < h.1 → mI M (a + 1) j = Int32.ofNat (h.2.2.1 j) ∧ mI M (a + 2) j = Int32.ofNat (h.2.2.2 j) ∧ mI M (a + 3) j = h.2.1 j (krow (h.2.2.1 j)) (h.2.2.2 j)
/-- bytes are small -/
def Tb (t : Tx) : Prop := ∀ j, j < t.1 → -128 ≤ (t.2 j).toInt ∧ (t.2 j).toInt < 128
def CT (M : Mem) (x : Nat) (S : St) : Prop := TX M (x + 1) S.2.1 ∧ (mK M (x + 3)).1 = 5 ∧ HX M (x + 4) S.2.2.2 ∧ mI M x 10 = S.2.2.1
/-- a ballot's data in a row, from a place on -/
def DA (M : Mem) (a o : Nat) (D : Bl) : Prop := (∀ d, d < cn D 0 → mI M a (o + (4 + d)) = D 2 d) ∧ (∀ p, p < cn D 1 → mI M a (o + (8 + p)) = D 4 p) ∧ (∀ v, v < cn D 2 → mI M a (o + (20 + v)) = D 6 v ∧ mI M a (o + (44 + v)) = D 7 v ∧ mI M a (o + (68 + v)) = D 8 v) ∧ ∀ i, i < 4 → mI M a (o + i) = D 9 i
def MT (M : Mem) (m : Nat) (S : St) : Prop := mI M m 37 = 12 ∧ mI M m 18 = Int32.ofNat S.2.1.1 ∧ (∀ j, j < S.2.1.1 → mI M (m + 10) j = S.2.1.2 j) ∧ mI M m 26 = S.2.2.1 ∧ mI M m 3 = Int32.ofNat S.2.2.2.1 ∧ ∀ j, j < S.2.2.2.1 → DA M (m + 3) (92 * j) (S.2.2.2.2.1 j)
/-- approvals are sets -/
def Aps (h : Hy) : Prop := ∀ j, j ≤ h.1 → ∀ v, v < cn (h.2.1 j) 2 → 0 ≤ (h.2.1 j 8 v).toInt
/-- all that holds between two calls -/
def GI (b x : Nat) (L : Nat) (xs : Nat → Int32) (M : Mem) (S : St) : Prop := ((mK M b = (25, L) ∧ L ≤ 3072 ∧ b < x) ∧ (∀ j, j < L → mI M b j = xs j) ∧ Sta M x ∧ mK M (x + 396) = (22, 1)) ∧ (Gd S.1 ∧ Tl S.1 ∧ Hv S.1 S.2.2.2 ∧ Tb S.2.1 ∧ Aps S.2.2.2) ∧ (∃ bb sb, CQ M x bb sb S.1 ∧ CT M x S) ∧ IsM M (x + 377) S.1 ∧ MT M (x + 377) S
variable {M M' : Mem} {x m b L : Nat} {xs : Nat → Int32} {S : St}
theorem CT.cq (h : CT M x S) (hF : Cq x M M') : CT M' x S := by
  obtain ⟨⟨a1, a2, a3, a4⟩, b, ⟨c1, c2, c3⟩, d⟩ := h
  have ff : ∀ a, x < a → a < x + 8 → ∀ j, mI M' a j = mI M a j := fun a h1 h2 j => congrFun (hF.2.2.1 a (by omega) (by omega)).1 j
  have fr : ∀ a, x < a → a < x + 8 → ∀ j, mR M' a j = mR M a j := fun a h1 h2 j => congrFun (hF.2.2.1 a (by omega) (by omega)).2.2 j
  refine ⟨⟨⟨by rw [hF.1]; exact a1.1, by rw [fr _ (by omega) (by omega)]; exact a1.2.1, by rw [hF.1]; exact a1.2.2⟩, by rw [ff _ (by omega) (by omega)]; exact a2, a3, fun j hj => by rw [ff _ (by omega) (by omega)]; exact a4 j hj⟩, by rw [hF.1]; exact b, ⟨⟨by rw [hF.1]; exact c1.1, ⟨?_, ?_, ?_⟩, by rw [hF.1]; exact c1.2.2⟩, by rw [ff _ (by omega) (by omega)]; exact c2, fun j hj => by rw [ff _ (by omega) (by omega), ff _ (by omega) (by omega), ff _ (by omega) (by omega)]; exact c3 j hj⟩, by rw [hF.2.2.2.2 10 (by omega)]; exact d⟩
  · rw [fr _ (by omega) (by omega)]; exact c1.2.1.1
  · rw [fr _ (by omega) (by omega)]; exact c1.2.1.2.1
  · rw [fr _ (by omega) (by omega)]; exact c1.2.1.2.2
theorem CT.fq {lo hi : Nat} (h : CT M x S) (hF : Fq lo hi M M') (hb : x + 8 ≤ lo ∨ hi ≤ x) : CT M' x S := by
  obtain ⟨⟨a1, a2, a3, a4⟩, b, ⟨c1, c2, c3⟩, d⟩ := h
  refine ⟨⟨⟨by rw [hF.1]; exact a1.1, by rw [hF.r (by omega)]; exact a1.2.1, by rw [hF.1]; exact a1.2.2⟩, by rw [hF.i (by omega)]; exact a2, a3, fun j hj => by rw [hF.i (by omega)]; exact a4 j hj⟩, by rw [hF.1]; exact b, ⟨⟨by rw [hF.1]; exact c1.1, ⟨?_, ?_, ?_⟩, by rw [hF.1]; exact c1.2.2⟩, by rw [hF.i (by omega)]; exact c2, fun j hj => by rw [hF.i (by omega), hF.i (by omega), hF.i (by omega)]; exact c3 j hj⟩, by rw [hF.i (by omega)]; exact d⟩
  · rw [hF.r (by omega)]; exact c1.2.1.1
  · rw [hF.r (by omega)]; exact c1.2.1.2.1
  · rw [hF.r (by omega)]; exact c1.2.1.2.2
theorem DA.c {a o : Nat} {D : Bl} (h : DA M a o D) (hI : ∀ j, mI M' a j = mI M a j) : DA M' a o D := ⟨fun d hd => by rw [hI]; exact h.1 d hd, fun p hp => by rw [hI]; exact h.2.1 p hp, fun v hv => by rw [hI, hI, hI]; exact h.2.2.1 v hv, fun i hi => by rw [hI]; exact h.2.2.2 i hi⟩
theorem MT.mq (h : MT M m S) (hF : Mq m M M') : MT M' m S := by
  obtain ⟨a, b, c, d, e, f⟩ := h
  exact ⟨by rw [hF.fld (by omega)]; exact a, by rw [hF.fld (by omega)]; exact b, fun j hj => by rw [hF.row (by omega) (by omega)]; exact c j hj, by rw [hF.fld (by omega)]; exact d, by rw [hF.fld (by omega)]; exact e, fun j hj => (f j hj).c (fun i => hF.row (by omega) (by omega) i)⟩
theorem MT.fq {lo hi : Nat} (h : MT M m S) (hF : Fq lo hi M M') (hb : m + 19 ≤ lo ∨ hi ≤ m) : MT M' m S := by
  obtain ⟨a, b, c, d, e, f⟩ := h
  exact ⟨by rw [hF.i (by omega)]; exact a, by rw [hF.i (by omega)]; exact b, fun j hj => by rw [hF.i (by omega)]; exact c j hj, by rw [hF.i (by omega)]; exact d, by rw [hF.i (by omega)]; exact e, fun j hj => (f j hj).c (fun i => hF.i (by omega) i)⟩
theorem MT.s4 (h : MT M m S) (y : Int32) : MT (sI M m 4 y) m S := by
  obtain ⟨a, b, c, d, e, f⟩ := h
  exact ⟨by rw [i_sI, if_neg (by omega)]; exact a, by rw [i_sI, if_neg (by omega)]; exact b, fun j hj => by rw [i_sI, if_neg (by omega)]; exact c j hj, by rw [i_sI, if_neg (by omega)]; exact d, by rw [i_sI, if_neg (by omega)]; exact e, fun j hj => (f j hj).c (fun i => by rw [i_sI, if_neg (by omega)])⟩
/-- what surrounds both stays -/
def Evr (b x L : Nat) (xs : Nat → Int32) (M : Mem) : Prop := (mK M b = (25, L) ∧ L ≤ 3072 ∧ b < x) ∧ (∀ j, j < L → mI M b j = xs j) ∧ Sta M x ∧ mK M (x + 396) = (22, 1)
theorem Evr.fq {lo hi : Nat} (h : Evr b x L xs M) (hF : Fq lo hi M M') (hl : x ≤ lo) : Evr b x L xs M' := ⟨⟨by rw [hF.1]; exact h.1.1, h.1.2⟩, fun j hj => by rw [hF.i (by have := h.1.2.2; omega)]; exact h.2.1 j hj, h.2.2.1.fq hF hl, by rw [hF.1]; exact h.2.2.2⟩
/-- a question of the class, then one of the reference -/
theorem GI.c (h : GI b x L xs M S) {bb sb : Nat} (hC : CQ M' x bb sb S.1) (hF : Cq x M M') : GI b x L xs M' S := by
  obtain ⟨a, g, ⟨bb', sb', c, d⟩, e, f⟩ := h
  exact ⟨Evr.fq a hF.fq (Nat.le_refl _), g, ⟨bb, sb, hC, d.cq hF⟩, e.fq hF.fq (by omega), f.fq hF.fq (by omega)⟩
theorem GI.mo (h : GI b x L xs M S) {y : Int32} (hF : Mq (x + 377) (sI M (x + 377) 4 y) M') : GI b x L xs M' S := by
  obtain ⟨a, g, ⟨bb, sb, c, d⟩, e, f⟩ := h
  have F4 : Fi (x + 377) (x + 378) M (sI M (x + 377) 4 y) := Fi.sI ⟨by omega, by omega⟩
  exact ⟨(Evr.fq a F4.q (by omega)).fq hF.fq (by omega), g, ⟨bb, sb, (c.out F4.q (by omega)).out hF.fq (by omega), (d.fq F4.q (by omega)).fq hF.fq (by omega)⟩, (e.sIo (by omega) y).mq hF, (f.s4 y).mq hF⟩
theorem GI.sF (h : GI b x L xs M S) : GI b x L xs (sF M) S := h
theorem GI.out (h : GI b x L xs M S) (j : Nat) (y : Int64) : GI b x L xs (sL M (x + 396) j y) S := by
  obtain ⟨a, g, ⟨bb, sb, c, d⟩, e, f⟩ := h
  have F : Fq (x + 396) (x + 397) M (sL M (x + 396) j y) := Fq.sL ⟨by omega, by omega⟩
  exact ⟨Evr.fq a F (by omega), g, ⟨bb, sb, c.out F (by omega), d.fq F (by omega)⟩, e.fq F (by omega), f.fq F (by omega)⟩
end
