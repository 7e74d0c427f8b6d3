/-! ===== the start: what the Statement gives, as a memory ===== -/
def stN (j : Nat) : String := ["FIRST_SETTINGS", "LEAST_SETTINGS", "MOST_SETTINGS"].getD j ""
def stz (j : Nat) : Term := .static "ParticipatoryBudget" (stN j) "[I"
def sgm (i : Nat) : Term := .string RX7 (strX.getD i 0)
def sgv (i : Nat) : Term := .field (sgm i) "java/lang/String" "value" "[B"
theorem st_wd {args : Array Value} {s : State} (hg : (Cond.and given_1 narrow_1).before args s = true) {w : Cond} (h : w ∈ flatC (Cond.and given_1 narrow_1)) : w.before args s = true := flat_of_before _ hg w h
theorem st_a1 : ∀ j, j < 3 → (Cond.arrayOf (stz j) .int ∈ flatC (Cond.and given_1 narrow_1)) ∧ (Cond.eq (.length (stz j)) (.int 4) ∈ flatC (Cond.and given_1 narrow_1)) ∧ (∀ k, k < 4 → Cond.eq (.elem (stz j) (.int (Int32.ofNat k))) (.int (stv j k)) ∈ flatC (Cond.and given_1 narrow_1)) ∧ Cond.laysStatic "ParticipatoryBudget" (stN j) "[I" ∈ lw_tbl := by decide +kernel
theorem st_a2 : Cond.eq (.static "java/lang/String" "COMPACT_STRINGS" "Z") (.int 1) ∈ flatC (Cond.and given_1 narrow_1) ∧ Cond.isRef (.static "jdk/internal/util/Preconditions" "SIOOBE_FORMATTER" "Ljava/util/function/BiFunction;") ∈ flatC (Cond.and given_1 narrow_1) ∧ Cond.isRef (.static Bundle.tN "UNASSIGNED_STACK" Bundle.steD) ∈ flatC (Cond.and given_1 narrow_1) ∧ Cond.isRef (.static Bundle.tN "SUPPRESSED_SENTINEL" Bundle.listD) ∈ flatC (Cond.and given_1 narrow_1) := by decide +kernel
theorem st_a3 : Cond.laysStatic "java/lang/String" "COMPACT_STRINGS" "Z" ∈ lw_tbl ∧ Cond.laysStatic "jdk/internal/util/Preconditions" "SIOOBE_FORMATTER" "Ljava/util/function/BiFunction;" ∈ lw_tbl ∧ Cond.laysStatic Bundle.tN "UNASSIGNED_STACK" Bundle.steD ∈ lw_tbl ∧ Cond.laysStatic Bundle.tN "SUPPRESSED_SENTINEL" Bundle.listD ∈ lw_tbl ∧ Cond.initialized "java/lang/String" ∈ lw_tbl ∧ Cond.initialized "jdk/internal/util/Preconditions" ∈ lw_tbl ∧ Cond.initialized Bundle.tN ∈ lw_tbl ∧ Cond.initialized "ParticipatoryBudget" ∈ lw_tbl := by decide +kernel
theorem st_a4 : ∀ i, i < 10 → strL.getD i 0 < 2 ^ 31 ∧ (Cond.exactly (sgm i) "java/lang/String" ∈ flatC (Cond.and given_1 narrow_1)) ∧ (Cond.eq (.field (sgm i) "java/lang/String" "coder" "B") (.int 0) ∈ flatC (Cond.and given_1 narrow_1)) ∧ (Cond.arrayOf (sgv i) .byte ∈ flatC (Cond.and given_1 narrow_1)) ∧ (Cond.eq (.length (sgv i)) (.int (Int32.ofNat (strL.getD i 0))) ∈ flatC (Cond.and given_1 narrow_1)) ∧ (∀ k, k < strL.getD i 0 → Cond.eq (.elem (sgv i) (.int (Int32.ofNat k))) (.int ((strI.getD i []).getD k 0)) ∈ flatC (Cond.and given_1 narrow_1)) ∧ Cond.stringRef RX7 (strX.getD i 0) (strT.getD i "") ∈ lw_tbl := by decide +kernel
theorem st_a5 : ∀ i, i < 10 → ∀ j, j < 10 → i ≠ j → Cond.not (Cond.eq (sgm i) (sgm j)) ∈ flatC (Cond.and given_1 narrow_1) ∨ Cond.not (Cond.eq (sgm j) (sgm i)) ∈ flatC (Cond.and given_1 narrow_1) := by decide +kernel
theorem st_a6 : (∀ q ∈ vwCl, Cond.instantiable q.1 q.2.2 ∈ lw_tbl) ∧ Cond.arrayClass .int ∈ lw_tbl ∧ Cond.arrayClass .byte ∈ lw_tbl ∧ Cond.arrayClass .long ∈ lw_tbl ∧ Cond.arrayOver (.array .int) ∈ lw_tbl ∧ (∀ w ∈ xCB, w ∈ lw_tbl) ∧ (∀ w ∈ xNW, w ∈ lw_tbl) := by decide +kernel
theorem st_over {args : Array Value} {s : State} (h : (Cond.arrayOver (.array .int)).before args s = true) : ∃ cA, ArrOfT s cA (.array .int) ∧ va_RA s cA (.array .int) := by
  unfold Cond.before at h
  simp only [Cond.holds, Cond.value, beq_iff_eq] at h
  cases hc : s.vm.findClass (FieldType.array FieldType.int).toString with
  | none => rw [hc] at h; simp at h
  | some comp =>
    rw [hc] at h
    simp only [Option.bind_some] at h
    obtain ⟨c, hi, h2⟩ := Option.bind_eq_some_iff.mp h
    obtain ⟨k, hk, hb⟩ := Option.map_eq_some_iff.mp h2
    obtain ⟨hlt, hp, -⟩ := Array.findIdx?_eq_some_iff_getElem.mp hi
    have hkk : s.vm.classes[c] = k := (Array.getElem?_eq_some_iff.mp hk).2
    rw [hkk] at hp
    cases hkind : k.kind with
    | array component ty =>
      rw [hkind] at hp hb
      simp only [Bool.and_eq_true, decide_eq_true_eq, beq_iff_eq] at hp hb
      exact ⟨c, fun N z => ⟨(fun k h => by cases h), k, hk, comp, by rw [hkind, hp, hb.1]⟩, hb.2⟩
    | _ => rw [hkind] at hp; cases hp
theorem st_arr {args : Array Value} {s : State} {t : FieldType} (h : (Cond.arrayClass t).before args s = true) : ∃ cA, ArrOfT s cA t ∧ s.vm.findClass ("[" ++ t.toString) = some cA := by
  obtain ⟨cA, kA, comp, h1, h2, h3⟩ := Cond.arrayClass_spec h
  exact ⟨cA, fun N z => ⟨(fun k h => by cases h), kA, h2, comp, h3⟩, h1⟩
