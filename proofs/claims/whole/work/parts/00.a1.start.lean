/-! ===== the start, as a memory ===== -/
def stT : List (List Int32) := [[0, 0, 10, 0], [0, 0, 1, 0], [1, 2, 1000, 1]]
def stv (j k : Nat) : Int32 := (stT.getD j []).getD k 0
/-- the memory at the start: the script at b, the tables, the texts, the heap's end -/
def Start (M : Mem) (b L : Nat) (xs : Nat → Int32) : Prop := ∃ N : Nat, mN M = some N ∧ b < N ∧ mK M b = (25, L) ∧ (∀ j, j < L → mI M b j = xs j) ∧ (∀ j, j < 3 → ∃ a, a < N ∧ mR M 0 j = some a ∧ mK M a = (25, 4) ∧ ∀ k, k < 4 → mI M a k = stv j k) ∧ (∀ i, i < 10 → ∃ a, mR M 0 (10 + i) = some a ∧ sIx M a = some i) ∧ 0 < N
