/-! ===== what the reference's results leave alone ===== -/
section
/-- of the ints only the results change: the fields 30, 31, the rows 11 to 16 -/
def Mf (m : Nat) (M M' : Mem) : Prop := mK M' = mK M ∧ mL M' = mL M ∧ mR M' = mR M ∧ mN M' = mN M ∧ (∀ a, a ≠ m → (a < m + 11 ∨ m + 17 ≤ a) → mI M' a = mI M a) ∧ ∀ j, j ≠ 30 → j ≠ 31 → mI M' m j = mI M m j
variable {M M' M1 M2 : Mem} {m : Nat} {D : Bl}
theorem Mf.rf : Mf m M M := ⟨rfl, rfl, rfl, rfl, fun _ _ _ => rfl, fun _ _ _ => rfl⟩
theorem Mf.trans (h1 : Mf m M M1) (h2 : Mf m M1 M2) : Mf m M M2 := ⟨h2.1.trans h1.1, h2.2.1.trans h1.2.1, h2.2.2.1.trans h1.2.2.1, h2.2.2.2.1.trans h1.2.2.2.1, fun a h3 h4 => (h2.2.2.2.2.1 a h3 h4).trans (h1.2.2.2.2.1 a h3 h4), fun j a b => (h2.2.2.2.2.2 j a b).trans (h1.2.2.2.2.2 j a b)⟩
theorem Mf.of {lo hi : Nat} (h : Fi lo hi M M') (h1 : m + 11 ≤ lo) (h2 : hi ≤ m + 17) : Mf m M M' := ⟨h.1, h.2.1, h.2.2.1, h.2.2.2.1, fun a _ h4 => h.2.2.2.2 a (by omega), fun j _ _ => h.i (by omega) j⟩
theorem Mf.sIr {x j : Nat} (y : Int32) (h1 : m + 11 ≤ x) (h2 : x < m + 17) : Mf m M (sI M x j y) := Mf.of (lo := x) (hi := x + 1) (Fi.sI ⟨Nat.le_refl _, Nat.lt_succ_self _⟩) h1 (by omega)
theorem Mf.sI {j : Nat} (x : Int32) (hj : j = 30 ∨ j = 31) : Mf m M (sI M m j x) := ⟨rfl, rfl, rfl, rfl, fun a h3 _ => by
  funext k
  rw [i_sI, if_neg (by omega)], fun i a b => by rw [i_sI, if_neg (by omega)]⟩
theorem Mf.fi (h : Mf m M M') : Fi m (m + 17) M M' := ⟨h.1, h.2.1, h.2.2.1, h.2.2.2.1, fun a ha => h.2.2.2.2.1 a (by omega) (by omega)⟩
theorem Mf.row (h : Mf m M M') {x : Nat} (h1 : x ≠ m) (h2 : x < m + 11 ∨ m + 17 ≤ x) (k : Nat) : mI M' x k = mI M x k := congrFun (h.2.2.2.2.1 x h1 h2) k
theorem Mf.fld (h : Mf m M M') {j : Nat} (hj : j ≠ 30 ∧ j ≠ 31) : mI M' m j = mI M m j := h.2.2.2.2.2 j hj.1 hj.2
theorem IsMo.mf (h : IsMo M m) (hF : Mf m M M') : IsMo M' m := h.e hF.1 hF.2.2.1
theorem IsM.mf (h : IsM M m D) (hF : Mf m M M') : IsM M' m D := h.up hF.1 hF.2.2.1 (fun j hj => hF.fld (by omega)) (fun j => hF.row (by omega) (by omega) j) (fun j => hF.row (by omega) (by omega) j) (fun j => hF.row (by omega) (by omega) j) (fun j => hF.row (by omega) (by omega) j)
/-- of the ints only the results change: the fields 30, 31, 38, 39, the rows 11 to 16 -/
def Mg (m : Nat) (M M' : Mem) : Prop := mK M' = mK M ∧ mL M' = mL M ∧ mR M' = mR M ∧ mN M' = mN M ∧ (∀ a, a ≠ m → (a < m + 11 ∨ m + 17 ≤ a) → mI M' a = mI M a) ∧ ∀ j, j ≠ 30 → j ≠ 31 → j ≠ 38 → j ≠ 39 → mI M' m j = mI M m j
theorem Mg.rf : Mg m M M := ⟨rfl, rfl, rfl, rfl, fun _ _ _ => rfl, fun _ _ _ _ _ => rfl⟩
theorem Mg.trans (h1 : Mg m M M1) (h2 : Mg m M1 M2) : Mg m M M2 := ⟨h2.1.trans h1.1, h2.2.1.trans h1.2.1, h2.2.2.1.trans h1.2.2.1, h2.2.2.2.1.trans h1.2.2.2.1, fun a h3 h4 => (h2.2.2.2.2.1 a h3 h4).trans (h1.2.2.2.2.1 a h3 h4), fun j a b c d => (h2.2.2.2.2.2 j a b c d).trans (h1.2.2.2.2.2 j a b c d)⟩
theorem Mg.of {lo hi : Nat} (h : Fi lo hi M M') (h1 : m + 11 ≤ lo) (h2 : hi ≤ m + 17) : Mg m M M' := ⟨h.1, h.2.1, h.2.2.1, h.2.2.2.1, fun a _ h4 => h.2.2.2.2 a (by omega), fun j _ _ _ _ => h.i (by omega) j⟩
theorem Mg.sIr {x j : Nat} (y : Int32) (h1 : m + 11 ≤ x) (h2 : x < m + 17) : Mg m M (sI M x j y) := Mg.of (lo := x) (hi := x + 1) (Fi.sI ⟨Nat.le_refl _, Nat.lt_succ_self _⟩) h1 (by omega)
theorem Mg.sI {j : Nat} (x : Int32) (hj : j = 30 ∨ j = 31 ∨ j = 38 ∨ j = 39) : Mg m M (sI M m j x) := ⟨rfl, rfl, rfl, rfl, fun a h3 _ => by
  funext k
  rw [i_sI, if_neg (by omega)], fun i a b c d => by rw [i_sI, if_neg (by omega)]⟩
theorem Mg.fi (h : Mg m M M') : Fi m (m + 17) M M' := ⟨h.1, h.2.1, h.2.2.1, h.2.2.2.1, fun a ha => h.2.2.2.2.1 a (by omega) (by omega)⟩
theorem Mg.row (h : Mg m M M') {x : Nat} (h1 : x ≠ m) (h2 : x < m + 11 ∨ m + 17 ≤ x) (k : Nat) : mI M' x k = mI M x k := congrFun (h.2.2.2.2.1 x h1 h2) k
theorem Mg.fld (h : Mg m M M') {j : Nat} (hj : j ≠ 30 ∧ j ≠ 31 ∧ j ≠ 38 ∧ j ≠ 39) : mI M' m j = mI M m j := h.2.2.2.2.2 j hj.1 hj.2.1 hj.2.2.1 hj.2.2.2
theorem IsMo.mg (h : IsMo M m) (hF : Mg m M M') : IsMo M' m := h.e hF.1 hF.2.2.1
theorem IsM.mg (h : IsM M m D) (hF : Mg m M M') : IsM M' m D := h.up hF.1 hF.2.2.1 (fun j hj => hF.fld (by omega)) (fun j => hF.row (by omega) (by omega) j) (fun j => hF.row (by omega) (by omega) j) (fun j => hF.row (by omega) (by omega) j) (fun j => hF.row (by omega) (by omega) j)
theorem Mf.g (h : Mf m M M') : Mg m M M' := ⟨h.1, h.2.1, h.2.2.1, h.2.2.2.1, h.2.2.2.2.1, fun j a b _ _ => h.2.2.2.2.2 j a b⟩
end
