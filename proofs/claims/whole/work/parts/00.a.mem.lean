/-! ===== the memory: kinds of cells, ints, longs, references, the heap's size where it is known ===== -/
abbrev Mem : Type := (Nat → Nat × Nat) × (Nat → Nat → Int32) × (Nat → Nat → Int64) × (Nat → Nat → Option Nat) × Option Nat
def mK (M : Mem) : Nat → Nat × Nat := M.1
def mI (M : Mem) : Nat → Nat → Int32 := M.2.1
def mL (M : Mem) : Nat → Nat → Int64 := M.2.2.1
def mR (M : Mem) : Nat → Nat → Option Nat := M.2.2.2.1
def mN (M : Mem) : Option Nat := M.2.2.2.2
def up2 {α : Type} (f : Nat → Nat → α) (a j : Nat) (x : α) : Nat → Nat → α := fun b k => if b = a ∧ k = j then x else f b k
def sI (M : Mem) (a j : Nat) (x : Int32) : Mem := (mK M, up2 (mI M) a j x, mL M, mR M, mN M)
def sL (M : Mem) (a j : Nat) (x : Int64) : Mem := (mK M, mI M, up2 (mL M) a j x, mR M, mN M)
def sR (M : Mem) (a j : Nat) (x : Nat) : Mem := (mK M, mI M, mL M, up2 (mR M) a j (some x), mN M)
/-- ints copied from one array to another -/
def sC (M : Mem) (a sp b dp n : Nat) : Mem := (mK M, fun q k => if q = b ∧ dp ≤ k ∧ k < dp + n then mI M a (sp + (k - dp)) else mI M q k, mL M, mR M, mN M)
/-- a cell made at a -/
def sA (M : Mem) (a : Nat) (k : Nat × Nat) : Mem := (fun b => if b = a then k else mK M b, fun b j => if b = a then 0 else mI M b j, fun b j => if b = a then 0 else mL M b j, fun b j => if b = a then none else mR M b j, some (a + 1))
/-- an array of arrays of ints made at a -/
def sA2 (M : Mem) (a n k : Nat) : Mem := (fun b => if b = a then (23, n) else if a < b ∧ b ≤ a + n then (20, k) else mK M b, fun b j => if a ≤ b ∧ b ≤ a + n then 0 else mI M b j, fun b j => if a ≤ b ∧ b ≤ a + n then 0 else mL M b j, fun b j => if b = a then (if j < n then some (a + 1 + j) else none) else if a < b ∧ b ≤ a + n then none else mR M b j, some (a + 1 + n))
/-- the heap's size isn't known any more -/
def sF (M : Mem) : Mem := (mK M, mI M, mL M, mR M, none)
/-! which fields the classes have: 0 an int, 1 a long, 2 a reference -/
def ftL : List (List Nat) := [
  [0, 0, 0, 2, 2, 2, 2, 2, 2, 2, 2, 2, 2, 2],
  [2, 2, 2, 2, 0, 0],
  [2, 2, 2, 0, 0],
  [2, 2, 2, 0],
  [2, 2, 2, 2, 0, 0],
  [0],
  [2, 2, 2, 2, 2, 2, 2, 0, 0],
  [2, 0, 0, 0, 0, 0],
  [2, 2, 2, 2, 2, 2, 2, 2, 2, 2, 0, 0, 0, 0, 0],
  [2, 2, 2, 0, 0, 0, 0, 0, 2, 2, 2, 0, 0, 0, 2, 2, 2, 2, 0, 0, 0, 0, 0, 1, 0, 0, 0, 0, 0, 2, 0, 0, 2, 2, 2, 2, 2, 0, 0, 0, 2, 2]]
def ft (ci j : Nat) : Nat := (ftL.getD ci []).getD j 9
def nF (ci : Nat) : Nat := (ftL.getD ci []).length
def fvl (M : Mem) (t a j : Nat) : Value := if t = 0 then .int (mI M a j) else if t = 1 then .long (mL M a j) else va_rf (mR M a j)
def fsO (M : Mem) (ci a : Nat) : List Value := (List.range (nF ci)).map (fun j => fvl M (ft ci j) a j)
/-! reading and writing, where the kinds allow it -/
def ck (M : Mem) (a ci : Nat) : Option Unit := if (mK M a).1 = ci then some () else none
def gFI (M : Mem) (a ci j : Nat) : Option Int32 := if (mK M a).1 = ci then some (mI M a j) else none
def gFL (M : Mem) (a ci j : Nat) : Option Int64 := if (mK M a).1 = ci then some (mL M a j) else none
def gFR (M : Mem) (a ci j : Nat) : Option Nat := if (mK M a).1 = ci then mR M a j else none
def pFI (M : Mem) (a ci j : Nat) (x : Int32) : Option Mem := if (mK M a).1 = ci then some (sI M a j x) else none
def pFL (M : Mem) (a ci j : Nat) (x : Int64) : Option Mem := if (mK M a).1 = ci then some (sL M a j x) else none
def pFR (M : Mem) (a ci j : Nat) (x : Nat) : Option Mem := if (mK M a).1 = ci then some (sR M a j x) else none
/-- a boolean -/
def isB (x : Int32) : Option Int32 := if x = 0 ∨ x = 1 then some x else none
def vin (i : Int32) (n : Nat) : Prop := ¬ i < 0 ∧ i.toNatClampNeg < n
/-! arrays -/
def aI (M : Mem) (a : Nat) (i : Int32) : Option Int32 := if (mK M a).1 = 20 ∨ (mK M a).1 = 25 then (if i < 0 ∨ (mK M a).2 ≤ i.toNatClampNeg then none else some (mI M a i.toNatClampNeg)) else none
def aB (M : Mem) (a : Nat) (i : Int32) : Option Int32 := if (mK M a).1 = 21 then (if i < 0 ∨ (mK M a).2 ≤ i.toNatClampNeg then none else some (mI M a i.toNatClampNeg)) else none
def aL (M : Mem) (a : Nat) (i : Int32) : Option Int64 := if (mK M a).1 = 22 then (if i < 0 ∨ (mK M a).2 ≤ i.toNatClampNeg then none else some (mL M a i.toNatClampNeg)) else none
def aR (M : Mem) (a : Nat) (i : Int32) : Option Nat := if (mK M a).1 = 23 then (if i < 0 ∨ (mK M a).2 ≤ i.toNatClampNeg then none else mR M a i.toNatClampNeg) else none
def wI (M : Mem) (a : Nat) (i x : Int32) : Option Mem := if (mK M a).1 = 20 then (if i < 0 ∨ (mK M a).2 ≤ i.toNatClampNeg then none else some (sI M a i.toNatClampNeg x)) else none
def wB (M : Mem) (a : Nat) (i x : Int32) : Option Mem := if (mK M a).1 = 21 then (if i < 0 ∨ (mK M a).2 ≤ i.toNatClampNeg then none else some (sI M a i.toNatClampNeg x.toInt8.toInt32)) else none
def wL (M : Mem) (a : Nat) (i : Int32) (x : Int64) : Option Mem := if (mK M a).1 = 22 then (if i < 0 ∨ (mK M a).2 ≤ i.toNatClampNeg then none else some (sL M a i.toNatClampNeg x)) else none
def aN (M : Mem) (a : Nat) : Option Int32 := if (mK M a).1 = 20 ∨ (mK M a).1 = 25 then some (Int32.ofNat (mK M a).2) else none
def cpI (M : Mem) (a : Nat) (sp : Int32) (b : Nat) (dp n : Int32) : Option Mem := if ((mK M a).1 = 20 ∨ (mK M a).1 = 25) ∧ (mK M b).1 = 20 then (if sp < 0 ∨ dp < 0 ∨ n < 0 ∨ (mK M a).2 < sp.toNatClampNeg + n.toNatClampNeg ∨ (mK M b).2 < dp.toNatClampNeg + n.toNatClampNeg then none else some (sC M a sp.toNatClampNeg b dp.toNatClampNeg n.toNatClampNeg)) else none
/-! making cells: at the heap's end -/
def nwO (M : Mem) (ci : Nat) : Option (Nat × Mem) := match mN M with | some q => some (q, sA M q (ci, 0)) | none => none
def nwA (M : Mem) (code n : Nat) : Option (Nat × Mem) := match mN M with | some q => some (q, sA M q (code, n)) | none => none
def nw2 (M : Mem) (n k : Nat) : Option (Nat × Mem) := match mN M with | some q => some (q, sA2 M q n k) | none => none
/-! statics and text constants -/
def gST (M : Mem) (j : Nat) : Option Nat := mR M 0 j
def strB : List (List Nat) := [
  [100, 105, 115, 116, 114, 105, 99, 116],
  [112, 114, 111, 106, 101, 99, 116],
  [118, 111, 116, 101, 114],
  [105, 110],
  [102, 111, 114],
  [115, 101, 116],
  [119, 111, 114, 116, 104],
  [99, 111, 109, 112, 108, 101, 116, 105, 111, 110],
  [115, 116, 101, 112],
  [111, 114, 100, 101, 114]]
/-- which text a is -/
def sIx (M : Mem) (a : Nat) : Option Nat := (List.range 10).find? (fun i => decide (mR M 0 (10 + i) = some a))
def sLen (M : Mem) (a : Nat) : Option Int32 := match sIx M a with | some j => some (Int32.ofNat (strB.getD j []).length) | none => none
def sCh (M : Mem) (a : Nat) (i : Int32) : Option Int32 := match sIx M a with | some j => (if i < 0 ∨ (strB.getD j []).length ≤ i.toNatClampNeg then none else some (Int32.ofNat ((strB.getD j []).getD i.toNatClampNeg 0))) | none => none
theorem sIx_spec {M : Mem} {a i : Nat} (h : sIx M a = some i) : i < 10 ∧ mR M 0 (10 + i) = some a := by
  unfold sIx at h
  exact ⟨List.mem_range.mp (List.mem_of_find?_eq_some h), by have := List.find?_some h; exact of_decide_eq_true this⟩
/-- a quotient -/
def dv_ (x y : Int32) : Option Int32 := if y = 0 then none else some (x / y)
/-- a computed value gets a name -/
def lt_ {α β : Type} (x : α) (f : α → β) : β := f x
theorem FU_ex : ∃ n : Nat, n = 1000000 := ⟨_, rfl⟩
/-- the turns that a loop is given: a number that nothing unfolds -/
noncomputable def FU : Nat := Classical.choose FU_ex
theorem FU_eq : FU = 1000000 := Classical.choose_spec FU_ex
def jn_ {τ α : Type} (g : τ → Option α) (f : (τ → Option α) → Option α) : Option α := f g
def it_ {σ α : Type} (F : (σ → Option α) → σ → Option α) : Nat → σ → Option α
  | 0, _ => none
  | n + 1, x => F (it_ F n) x
def thB {σ α : Type} (f : Option (Option σ × Mem)) (g : σ → Mem → Option (Option α × Mem)) : Option (Option α × Mem) := f >>= fun o => match o.1 with | some v => g v o.2 | none => some (none, o.2)
def thC {σ ρ : Type} (o : Option σ × Mem) (h : σ → Mem → Option ρ) (e : Mem → Option ρ) : Option ρ := match o.1 with | some v => h v o.2 | none => e o.2
