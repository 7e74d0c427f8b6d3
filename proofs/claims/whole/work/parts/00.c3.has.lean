/-! ===== sets of small numbers in an int ===== -/
/-- x has e, as the programs ask it -/
def hs (x e : Int32) : Bool := decide (¬ ((x >>> (e &&& 31)) &&& 1) = 0)
def b2i (b : Bool) : Int32 := if b then 1 else 0
theorem b2i_0 {b : Bool} : (b2i b = 0) ↔ b = false := by cases b <;> decide
theorem b2i_1 {b : Bool} : (b2i b = 1) ↔ b = true := by cases b <;> decide
theorem and1 (y : Int32) : y &&& 1 = 0 ∨ y &&& 1 = 1 := by
  obtain ⟨j, hj, e⟩ := pk_andE y (m := 1) 1 (by decide)
  rcases (show j = 0 ∨ j = 1 by omega) with h | h
  · left; rw [h] at e; exact e
  · right; rw [h] at e; exact e
theorem f_has8 (M : Mem) (x e : Int32) : f_X8_has M x e = some (b2i (hs x e)) := by
  unfold f_X8_has hs
  by_cases h : ((x >>> (e &&& 31)) &&& 1) = 0
  · rw [h]; rfl
  · rw [if_neg h, decide_eq_true h]; rfl
theorem f_has9 (M : Mem) (x e : Int32) : f_X9_has M x e = some (b2i (hs x e)) := by
  unfold f_X9_has hs
  rcases and1 (x >>> (e &&& 31)) with h | h
  · rw [h]; rfl
  · rw [h]; rfl
