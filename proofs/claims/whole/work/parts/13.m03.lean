/-! ParticipatoryBudget.checkIndex(II)V -/
abbrev rm_X8_checkIndex : Room := { frames := 6, cells := 1, slots := 6, locals := 89 }
set_option maxRecDepth 20000 in
set_option maxHeartbeats 4000000 in
theorem z_X8_checkIndex {X : Cxt} (hX : okX X cX8_checkIndex RX8 rm_X8_checkIndex (none) 2) (hT : noT X) (M : Mem) (v0 : Int32) (v1 : Int32) : Zj X (fun o : Option Unit × Mem => Qx X rm_X8_checkIndex.cells rm_X8_checkIndex.slots (o.1.map fun _ => none) o.2) 0 0 0 [(0, .int v0), (1, .int v1)] [] M (f_X8_checkIndex M v0 v1) := by
  unfold f_X8_checkIndex
  refine z_iload_n hX 0 rfl rfl dX8_checkIndex_0 ?_
  refine z_iload_n hX 1 rfl rfl dX8_checkIndex_1 ?_
  refine z_cSIp [.int v0, .int v1] hX (fun l hl o ho => c_X8_isIndex l hl M v0 v1 o ho) dX8_checkIndex_2 q_657 okS_X8_isIndex rfl ⟨(Nat.le_of_ble_eq_true rfl), (Nat.le_of_ble_eq_true rfl)⟩ rfl (Nat.le_of_ble_eq_true rfl) rfl rfl ⟨(Nat.le_of_ble_eq_true rfl), (Nat.le_of_ble_eq_true rfl)⟩ (fun o1 => ?_)
  refine z_if_ne hX 16 (by decide) dX8_checkIndex_5 (fun _ => ?_) (fun _ => ?_)
  · exact z_vretX hX dX8_checkIndex_16 (Nat.le_of_ble_eq_true rfl) (Nat.le_of_ble_eq_true rfl)
  · exact z_thr hX hT dX8_checkIndex_8 dX8_checkIndex_11 dX8_checkIndex_12 dX8_checkIndex_15 (Nat.le_of_ble_eq_true rfl) (Nat.le_of_ble_eq_true rfl) (Nat.le_of_ble_eq_true rfl) (Nat.le_of_ble_eq_true rfl) ⟨(Nat.le_of_ble_eq_true rfl), (Nat.le_of_ble_eq_true rfl)⟩
theorem c_X8_checkIndex (l : Launch) (hl : l.stackTraces = false) (M : Mem) (v0 : Int32) (v1 : Int32) (o : Option Unit × Mem) (ho : f_X8_checkIndex M v0 v1 = some o) : Cx l yX8_checkIndex cX8_checkIndex 2 (none) rm_X8_checkIndex [.int v0, .int v1] M (o.1.map fun _ => none) o.2 :=
  Cx.of hl (by decide +kernel) (Nat.le_of_ble_eq_true rfl) rfl (fun X hX hT => z_X8_checkIndex hX hT M v0 v1 o ho)
theorem okS_X8_checkIndex : okS yX8_checkIndex cX8_checkIndex 2 (none) 2 := ⟨q_1003, q_86, q_1004, by unfold okY; decide +kernel⟩
/-! ParticipatoryBudget.budgetOf(I)I -/
abbrev rm_X8_budgetOf : Room := { frames := 7, cells := 1, slots := 6, locals := 110 }
set_option maxRecDepth 20000 in
set_option maxHeartbeats 4000000 in
theorem z_X8_budgetOf {X : Cxt} (hX : okX X cX8_budgetOf RX8 rm_X8_budgetOf (some .int) 2) (hT : noT X) (M : Mem) (v0 : Nat) (v1 : Int32) : Zj X (fun o : Option Int32 × Mem => Qx X rm_X8_budgetOf.cells rm_X8_budgetOf.slots (o.1.map fun v => some (.int v)) o.2) 0 0 0 [(0, .ref v0), (1, .int v1)] [] M (f_X8_budgetOf M v0 v1) := by
  unfold f_X8_budgetOf
  refine z_iload_n hX 1 rfl rfl dX8_budgetOf_0 ?_
  refine z_aload_n hX 0 rfl rfl dX8_budgetOf_1 ?_
  refine z_gFR 8 8 hX (by decide) rfl (by decide) rfl q_425 dX8_budgetOf_2 (fun r1 => ?_)
  refine z_gFI 0 0 hX (by decide) rfl (by decide) rfl q_323 dX8_budgetOf_5 (fun x2 => ?_)
  refine z_cSx [.int v1, .int x2] hX hT (fun l hl o ho => c_X8_checkIndex l hl M v1 x2 o ho) dX8_budgetOf_8 q_1002 okS_X8_checkIndex.1 okS_X8_checkIndex.2.1 okS_X8_checkIndex.2.2.1 okS_X8_checkIndex.2.2.2 rfl ⟨(Nat.le_of_ble_eq_true rfl), (Nat.le_of_ble_eq_true rfl)⟩ rfl (Nat.le_of_ble_eq_true rfl) rfl rfl ⟨(Nat.le_of_ble_eq_true rfl), (Nat.le_of_ble_eq_true rfl)⟩ (Nat.le_of_ble_eq_true rfl) (Nat.le_of_ble_eq_true rfl) (fun M4 => ?_)
  refine z_aload_n hX 0 rfl rfl dX8_budgetOf_11 ?_
  refine z_gFR 8 8 hX (by decide) rfl (by decide) rfl q_425 dX8_budgetOf_12 (fun r5 => ?_)
  refine z_gFR 0 4 hX (by decide) rfl (by decide) rfl q_343 dX8_budgetOf_15 (fun r6 => ?_)
  refine z_iload_n hX 1 rfl rfl dX8_budgetOf_18 ?_
  refine z_aI hX dX8_budgetOf_19 (fun x7 => ?_)
  exact z_iretX hX dX8_budgetOf_20 (Nat.le_of_ble_eq_true rfl) (Nat.le_of_ble_eq_true rfl)
theorem c_X8_budgetOf (l : Launch) (hl : l.stackTraces = false) (M : Mem) (v0 : Nat) (v1 : Int32) (o : Option Int32 × Mem) (ho : f_X8_budgetOf M v0 v1 = some o) : Cx l yX8_budgetOf cX8_budgetOf 2 (some .int) rm_X8_budgetOf [.ref v0, .int v1] M (o.1.map fun v => some (.int v)) o.2 :=
  Cx.of hl (by decide +kernel) (Nat.le_of_ble_eq_true rfl) rfl (fun X hX hT => z_X8_budgetOf hX hT M v0 v1 o ho)
theorem okV_X8_budgetOf : okV yX8_budgetOf cX8_budgetOf 2 (some .int) 1 := ⟨q_999, q_1000, q_86, q_1001, by unfold okY; decide +kernel⟩
/-! ParticipatoryBudget.costOf(I)I -/
abbrev rm_X8_costOf : Room := { frames := 7, cells := 1, slots := 6, locals := 110 }
set_option maxRecDepth 20000 in
set_option maxHeartbeats 4000000 in
theorem z_X8_costOf {X : Cxt} (hX : okX X cX8_costOf RX8 rm_X8_costOf (some .int) 2) (hT : noT X) (M : Mem) (v0 : Nat) (v1 : Int32) : Zj X (fun o : Option Int32 × Mem => Qx X rm_X8_costOf.cells rm_X8_costOf.slots (o.1.map fun v => some (.int v)) o.2) 0 0 0 [(0, .ref v0), (1, .int v1)] [] M (f_X8_costOf M v0 v1) := by
  unfold f_X8_costOf
  refine z_iload_n hX 1 rfl rfl dX8_costOf_0 ?_
  refine z_aload_n hX 0 rfl rfl dX8_costOf_1 ?_
  refine z_gFR 8 8 hX (by decide) rfl (by decide) rfl q_425 dX8_costOf_2 (fun r1 => ?_)
  refine z_gFI 0 1 hX (by decide) rfl (by decide) rfl q_330 dX8_costOf_5 (fun x2 => ?_)
  refine z_cSx [.int v1, .int x2] hX hT (fun l hl o ho => c_X8_checkIndex l hl M v1 x2 o ho) dX8_costOf_8 q_1002 okS_X8_checkIndex.1 okS_X8_checkIndex.2.1 okS_X8_checkIndex.2.2.1 okS_X8_checkIndex.2.2.2 rfl ⟨(Nat.le_of_ble_eq_true rfl), (Nat.le_of_ble_eq_true rfl)⟩ rfl (Nat.le_of_ble_eq_true rfl) rfl rfl ⟨(Nat.le_of_ble_eq_true rfl), (Nat.le_of_ble_eq_true rfl)⟩ (Nat.le_of_ble_eq_true rfl) (Nat.le_of_ble_eq_true rfl) (fun M4 => ?_)
  refine z_aload_n hX 0 rfl rfl dX8_costOf_11 ?_
  refine z_gFR 8 8 hX (by decide) rfl (by decide) rfl q_425 dX8_costOf_12 (fun r5 => ?_)
  refine z_gFR 0 6 hX (by decide) rfl (by decide) rfl q_354 dX8_costOf_15 (fun r6 => ?_)
  refine z_iload_n hX 1 rfl rfl dX8_costOf_18 ?_
  refine z_aI hX dX8_costOf_19 (fun x7 => ?_)
  exact z_iretX hX dX8_costOf_20 (Nat.le_of_ble_eq_true rfl) (Nat.le_of_ble_eq_true rfl)
theorem c_X8_costOf (l : Launch) (hl : l.stackTraces = false) (M : Mem) (v0 : Nat) (v1 : Int32) (o : Option Int32 × Mem) (ho : f_X8_costOf M v0 v1 = some o) : Cx l yX8_costOf cX8_costOf 2 (some .int) rm_X8_costOf [.ref v0, .int v1] M (o.1.map fun v => some (.int v)) o.2 :=
  Cx.of hl (by decide +kernel) (Nat.le_of_ble_eq_true rfl) rfl (fun X hX hT => z_X8_costOf hX hT M v0 v1 o ho)
theorem okV_X8_costOf : okV yX8_costOf cX8_costOf 2 (some .int) 1 := ⟨q_1070, q_1071, q_86, q_1072, by unfold okY; decide +kernel⟩
/-! ParticipatoryBudget.districtsOf(I)I -/
abbrev rm_X8_districtsOf : Room := { frames := 7, cells := 1, slots := 6, locals := 110 }
set_option maxRecDepth 20000 in
set_option maxHeartbeats 4000000 in
theorem z_X8_districtsOf {X : Cxt} (hX : okX X cX8_districtsOf RX8 rm_X8_districtsOf (some .int) 2) (hT : noT X) (M : Mem) (v0 : Nat) (v1 : Int32) : Zj X (fun o : Option Int32 × Mem => Qx X rm_X8_districtsOf.cells rm_X8_districtsOf.slots (o.1.map fun v => some (.int v)) o.2) 0 0 0 [(0, .ref v0), (1, .int v1)] [] M (f_X8_districtsOf M v0 v1) := by
  unfold f_X8_districtsOf
  refine z_iload_n hX 1 rfl rfl dX8_districtsOf_0 ?_
  refine z_aload_n hX 0 rfl rfl dX8_districtsOf_1 ?_
  refine z_gFR 8 8 hX (by decide) rfl (by decide) rfl q_425 dX8_districtsOf_2 (fun r1 => ?_)
  refine z_gFI 0 1 hX (by decide) rfl (by decide) rfl q_330 dX8_districtsOf_5 (fun x2 => ?_)
  refine z_cSx [.int v1, .int x2] hX hT (fun l hl o ho => c_X8_checkIndex l hl M v1 x2 o ho) dX8_districtsOf_8 q_1002 okS_X8_checkIndex.1 okS_X8_checkIndex.2.1 okS_X8_checkIndex.2.2.1 okS_X8_checkIndex.2.2.2 rfl ⟨(Nat.le_of_ble_eq_true rfl), (Nat.le_of_ble_eq_true rfl)⟩ rfl (Nat.le_of_ble_eq_true rfl) rfl rfl ⟨(Nat.le_of_ble_eq_true rfl), (Nat.le_of_ble_eq_true rfl)⟩ (Nat.le_of_ble_eq_true rfl) (Nat.le_of_ble_eq_true rfl) (fun M4 => ?_)
  refine z_aload_n hX 0 rfl rfl dX8_districtsOf_11 ?_
  refine z_gFR 8 8 hX (by decide) rfl (by decide) rfl q_425 dX8_districtsOf_12 (fun r5 => ?_)
  refine z_gFR 0 7 hX (by decide) rfl (by decide) rfl q_360 dX8_districtsOf_15 (fun r6 => ?_)
  refine z_iload_n hX 1 rfl rfl dX8_districtsOf_18 ?_
  refine z_aI hX dX8_districtsOf_19 (fun x7 => ?_)
  exact z_iretX hX dX8_districtsOf_20 (Nat.le_of_ble_eq_true rfl) (Nat.le_of_ble_eq_true rfl)
theorem c_X8_districtsOf (l : Launch) (hl : l.stackTraces = false) (M : Mem) (v0 : Nat) (v1 : Int32) (o : Option Int32 × Mem) (ho : f_X8_districtsOf M v0 v1 = some o) : Cx l yX8_districtsOf cX8_districtsOf 2 (some .int) rm_X8_districtsOf [.ref v0, .int v1] M (o.1.map fun v => some (.int v)) o.2 :=
  Cx.of hl (by decide +kernel) (Nat.le_of_ble_eq_true rfl) rfl (fun X hX hT => z_X8_districtsOf hX hT M v0 v1 o ho)
theorem okV_X8_districtsOf : okV yX8_districtsOf cX8_districtsOf 2 (some .int) 1 := ⟨q_1077, q_1078, q_86, q_1079, by unfold okY; decide +kernel⟩
/-! ParticipatoryBudget.memberships(I)I -/
abbrev rm_X8_memberships : Room := { frames := 7, cells := 1, slots := 6, locals := 110 }
set_option maxRecDepth 20000 in
set_option maxHeartbeats 4000000 in
theorem z_X8_memberships {X : Cxt} (hX : okX X cX8_memberships RX8 rm_X8_memberships (some .int) 2) (hT : noT X) (M : Mem) (v0 : Nat) (v1 : Int32) : Zj X (fun o : Option Int32 × Mem => Qx X rm_X8_memberships.cells rm_X8_memberships.slots (o.1.map fun v => some (.int v)) o.2) 0 0 0 [(0, .ref v0), (1, .int v1)] [] M (f_X8_memberships M v0 v1) := by
  unfold f_X8_memberships
  refine z_iload_n hX 1 rfl rfl dX8_memberships_0 ?_
  refine z_aload_n hX 0 rfl rfl dX8_memberships_1 ?_
  refine z_gFR 8 8 hX (by decide) rfl (by decide) rfl q_425 dX8_memberships_2 (fun r1 => ?_)
  refine z_gFI 0 2 hX (by decide) rfl (by decide) rfl q_334 dX8_memberships_5 (fun x2 => ?_)
  refine z_cSx [.int v1, .int x2] hX hT (fun l hl o ho => c_X8_checkIndex l hl M v1 x2 o ho) dX8_memberships_8 q_1002 okS_X8_checkIndex.1 okS_X8_checkIndex.2.1 okS_X8_checkIndex.2.2.1 okS_X8_checkIndex.2.2.2 rfl ⟨(Nat.le_of_ble_eq_true rfl), (Nat.le_of_ble_eq_true rfl)⟩ rfl (Nat.le_of_ble_eq_true rfl) rfl rfl ⟨(Nat.le_of_ble_eq_true rfl), (Nat.le_of_ble_eq_true rfl)⟩ (Nat.le_of_ble_eq_true rfl) (Nat.le_of_ble_eq_true rfl) (fun M4 => ?_)
  refine z_aload_n hX 0 rfl rfl dX8_memberships_11 ?_
  refine z_gFR 8 8 hX (by decide) rfl (by decide) rfl q_425 dX8_memberships_12 (fun r5 => ?_)
  refine z_gFR 0 9 hX (by decide) rfl (by decide) rfl q_370 dX8_memberships_15 (fun r6 => ?_)
  refine z_iload_n hX 1 rfl rfl dX8_memberships_18 ?_
  refine z_aI hX dX8_memberships_19 (fun x7 => ?_)
  exact z_iretX hX dX8_memberships_20 (Nat.le_of_ble_eq_true rfl) (Nat.le_of_ble_eq_true rfl)
theorem c_X8_memberships (l : Launch) (hl : l.stackTraces = false) (M : Mem) (v0 : Nat) (v1 : Int32) (o : Option Int32 × Mem) (ho : f_X8_memberships M v0 v1 = some o) : Cx l yX8_memberships cX8_memberships 2 (some .int) rm_X8_memberships [.ref v0, .int v1] M (o.1.map fun v => some (.int v)) o.2 :=
  Cx.of hl (by decide +kernel) (Nat.le_of_ble_eq_true rfl) rfl (fun X hX hT => z_X8_memberships hX hT M v0 v1 o ho)
theorem okV_X8_memberships : okV yX8_memberships cX8_memberships 2 (some .int) 1 := ⟨q_1084, q_1085, q_86, q_1086, by unfold okY; decide +kernel⟩
/-! ParticipatoryBudget.approvals(I)I -/
abbrev rm_X8_approvals : Room := { frames := 7, cells := 1, slots := 6, locals := 110 }
set_option maxRecDepth 20000 in
set_option maxHeartbeats 4000000 in
theorem z_X8_approvals {X : Cxt} (hX : okX X cX8_approvals RX8 rm_X8_approvals (some .int) 2) (hT : noT X) (M : Mem) (v0 : Nat) (v1 : Int32) : Zj X (fun o : Option Int32 × Mem => Qx X rm_X8_approvals.cells rm_X8_approvals.slots (o.1.map fun v => some (.int v)) o.2) 0 0 0 [(0, .ref v0), (1, .int v1)] [] M (f_X8_approvals M v0 v1) := by
  unfold f_X8_approvals
  refine z_iload_n hX 1 rfl rfl dX8_approvals_0 ?_
  refine z_aload_n hX 0 rfl rfl dX8_approvals_1 ?_
  refine z_gFR 8 8 hX (by decide) rfl (by decide) rfl q_425 dX8_approvals_2 (fun r1 => ?_)
  refine z_gFI 0 2 hX (by decide) rfl (by decide) rfl q_334 dX8_approvals_5 (fun x2 => ?_)
  refine z_cSx [.int v1, .int x2] hX hT (fun l hl o ho => c_X8_checkIndex l hl M v1 x2 o ho) dX8_approvals_8 q_1002 okS_X8_checkIndex.1 okS_X8_checkIndex.2.1 okS_X8_checkIndex.2.2.1 okS_X8_checkIndex.2.2.2 rfl ⟨(Nat.le_of_ble_eq_true rfl), (Nat.le_of_ble_eq_true rfl)⟩ rfl (Nat.le_of_ble_eq_true rfl) rfl rfl ⟨(Nat.le_of_ble_eq_true rfl), (Nat.le_of_ble_eq_true rfl)⟩ (Nat.le_of_ble_eq_true rfl) (Nat.le_of_ble_eq_true rfl) (fun M4 => ?_)
  refine z_aload_n hX 0 rfl rfl dX8_approvals_11 ?_
  refine z_gFR 8 8 hX (by decide) rfl (by decide) rfl q_425 dX8_approvals_12 (fun r5 => ?_)
  refine z_gFR 0 10 hX (by decide) rfl (by decide) rfl q_374 dX8_approvals_15 (fun r6 => ?_)
  refine z_iload_n hX 1 rfl rfl dX8_approvals_18 ?_
  refine z_aI hX dX8_approvals_19 (fun x7 => ?_)
  exact z_iretX hX dX8_approvals_20 (Nat.le_of_ble_eq_true rfl) (Nat.le_of_ble_eq_true rfl)
theorem c_X8_approvals (l : Launch) (hl : l.stackTraces = false) (M : Mem) (v0 : Nat) (v1 : Int32) (o : Option Int32 × Mem) (ho : f_X8_approvals M v0 v1 = some o) : Cx l yX8_approvals cX8_approvals 2 (some .int) rm_X8_approvals [.ref v0, .int v1] M (o.1.map fun v => some (.int v)) o.2 :=
  Cx.of hl (by decide +kernel) (Nat.le_of_ble_eq_true rfl) rfl (fun X hX hT => z_X8_approvals hX hT M v0 v1 o ho)
theorem okV_X8_approvals : okV yX8_approvals cX8_approvals 2 (some .int) 1 := ⟨q_1091, q_1092, q_86, q_1093, by unfold okY; decide +kernel⟩
/-! ParticipatoryBudget.weightOf(I)I -/
abbrev rm_X8_weightOf : Room := { frames := 7, cells := 1, slots := 6, locals := 110 }
set_option maxRecDepth 20000 in
set_option maxHeartbeats 4000000 in
theorem z_X8_weightOf {X : Cxt} (hX : okX X cX8_weightOf RX8 rm_X8_weightOf (some .int) 2) (hT : noT X) (M : Mem) (v0 : Nat) (v1 : Int32) : Zj X (fun o : Option Int32 × Mem => Qx X rm_X8_weightOf.cells rm_X8_weightOf.slots (o.1.map fun v => some (.int v)) o.2) 0 0 0 [(0, .ref v0), (1, .int v1)] [] M (f_X8_weightOf M v0 v1) := by
  unfold f_X8_weightOf
  refine z_iload_n hX 1 rfl rfl dX8_weightOf_0 ?_
  refine z_aload_n hX 0 rfl rfl dX8_weightOf_1 ?_
  refine z_gFR 8 8 hX (by decide) rfl (by decide) rfl q_425 dX8_weightOf_2 (fun r1 => ?_)
  refine z_gFI 0 2 hX (by decide) rfl (by decide) rfl q_334 dX8_weightOf_5 (fun x2 => ?_)
  refine z_cSx [.int v1, .int x2] hX hT (fun l hl o ho => c_X8_checkIndex l hl M v1 x2 o ho) dX8_weightOf_8 q_1002 okS_X8_checkIndex.1 okS_X8_checkIndex.2.1 okS_X8_checkIndex.2.2.1 okS_X8_checkIndex.2.2.2 rfl ⟨(Nat.le_of_ble_eq_true rfl), (Nat.le_of_ble_eq_true rfl)⟩ rfl (Nat.le_of_ble_eq_true rfl) rfl rfl ⟨(Nat.le_of_ble_eq_true rfl), (Nat.le_of_ble_eq_true rfl)⟩ (Nat.le_of_ble_eq_true rfl) (Nat.le_of_ble_eq_true rfl) (fun M4 => ?_)
  refine z_aload_n hX 0 rfl rfl dX8_weightOf_11 ?_
  refine z_gFR 8 8 hX (by decide) rfl (by decide) rfl q_425 dX8_weightOf_12 (fun r5 => ?_)
  refine z_gFR 0 8 hX (by decide) rfl (by decide) rfl q_365 dX8_weightOf_15 (fun r6 => ?_)
  refine z_iload_n hX 1 rfl rfl dX8_weightOf_18 ?_
  refine z_aI hX dX8_weightOf_19 (fun x7 => ?_)
  exact z_iretX hX dX8_weightOf_20 (Nat.le_of_ble_eq_true rfl) (Nat.le_of_ble_eq_true rfl)
theorem c_X8_weightOf (l : Launch) (hl : l.stackTraces = false) (M : Mem) (v0 : Nat) (v1 : Int32) (o : Option Int32 × Mem) (ho : f_X8_weightOf M v0 v1 = some o) : Cx l yX8_weightOf cX8_weightOf 2 (some .int) rm_X8_weightOf [.ref v0, .int v1] M (o.1.map fun v => some (.int v)) o.2 :=
  Cx.of hl (by decide +kernel) (Nat.le_of_ble_eq_true rfl) rfl (fun X hX hT => z_X8_weightOf hX hT M v0 v1 o ho)
theorem okV_X8_weightOf : okV yX8_weightOf cX8_weightOf 2 (some .int) 1 := ⟨q_1098, q_1099, q_86, q_1100, by unfold okY; decide +kernel⟩
/-! ParticipatoryBudget.getSetting(I)I -/
abbrev rm_X8_getSetting : Room := { frames := 1, cells := 0, slots := 0, locals := 21 }
set_option maxRecDepth 20000 in
set_option maxHeartbeats 4000000 in
theorem z_X8_getSetting {X : Cxt} (hX : okX X cX8_getSetting RX8 rm_X8_getSetting (some .int) 2) (M : Mem) (v0 : Nat) (v1 : Int32) : Zj X (fun o : Int32 => Qr X rm_X8_getSetting.cells rm_X8_getSetting.slots (some (.int o)) M) 0 0 0 [(0, .ref v0), (1, .int v1)] [] M (f_X8_getSetting M v0 v1) := by
  unfold f_X8_getSetting
  refine z_iload_n hX 1 rfl rfl dX8_getSetting_0 ?_
  refine z_iconst (v := 4) hX (by decide) dX8_getSetting_1 ?_
  refine z_cSIp [.int v1, .int 4] hX (fun l hl o ho => c_X8_isIndex l hl M v1 4 o ho) dX8_getSetting_2 q_657 okS_X8_isIndex rfl ⟨(Nat.le_of_ble_eq_true rfl), (Nat.le_of_ble_eq_true rfl)⟩ rfl (Nat.le_of_ble_eq_true rfl) rfl rfl ⟨(Nat.le_of_ble_eq_true rfl), (Nat.le_of_ble_eq_true rfl)⟩ (fun o1 => ?_)
  refine z_jn (C' := 0) (S' := 0) 22 (fun (j2 : Int32) => []) (fun (j2 : Int32) => [.int j2]) (fun (j2 : Int32) => M) (fun j2 => ?_) (fun kj2 => ?_)
  · exact z_iretP hX dX8_getSetting_22 (Nat.le_of_ble_eq_true rfl) (Nat.le_of_ble_eq_true rfl)
  · refine z_iteB ?_
    refine z_if_eq hX 20 (by decide) dX8_getSetting_5 (fun _ => ?_) (fun _ => ?_)
    · refine z_bipush (v := (-2)) hX (by decide) dX8_getSetting_20 ?_
      refine z_pure ?_
      refine z_sub [] rfl ?_
      exact kj2 (-2)
    · refine z_aload_n hX 0 rfl rfl dX8_getSetting_8 ?_
      refine z_asc ?_
      refine z_gFR 8 8 hX (by decide) rfl (by decide) rfl q_425 dX8_getSetting_9 (fun r3 => ?_)
      refine z_asc ?_
      refine z_gFR 0 11 hX (by decide) rfl (by decide) rfl q_380 dX8_getSetting_12 (fun r4 => ?_)
      refine z_iload_n hX 1 rfl rfl dX8_getSetting_15 ?_
      refine z_asc ?_
      refine z_aI hX dX8_getSetting_16 (fun x5 => ?_)
      refine z_goto hX 22 (by decide) dX8_getSetting_17 ?_
      refine z_pure ?_
      refine z_sub [] rfl ?_
      exact kj2 x5
theorem c_X8_getSetting (l : Launch) (hl : l.stackTraces = false) (M : Mem) (v0 : Nat) (v1 : Int32) (o : Int32) (ho : f_X8_getSetting M v0 v1 = some o) : Ct l yX8_getSetting cX8_getSetting 2 (some .int) rm_X8_getSetting [.ref v0, .int v1] M (some (.int o)) M :=
  Ct.of hl (by decide +kernel) (Nat.le_of_ble_eq_true rfl) rfl (fun X hX hin => z_X8_getSetting hX M v0 v1 o ho)
theorem okV_X8_getSetting : okV yX8_getSetting cX8_getSetting 2 (some .int) 1 := ⟨q_654, q_655, q_86, q_656, by unfold okY; decide +kernel⟩
/-! ParticipatoryBudget.supporters(I)I -/
abbrev rm_X8_supporters : Room := { frames := 7, cells := 1, slots := 6, locals := 110 }
set_option maxRecDepth 20000 in
set_option maxHeartbeats 4000000 in
theorem z_X8_supporters {X : Cxt} (hX : okX X cX8_supporters RX8 rm_X8_supporters (some .int) 2) (hT : noT X) (M : Mem) (v0 : Nat) (v1 : Int32) : Zj X (fun o : Option Int32 × Mem => Qx X rm_X8_supporters.cells rm_X8_supporters.slots (o.1.map fun v => some (.int v)) o.2) 0 0 0 [(0, .ref v0), (1, .int v1)] [] M (f_X8_supporters M v0 v1) := by
  unfold f_X8_supporters
  refine z_iload_n hX 1 rfl rfl dX8_supporters_0 ?_
  refine z_aload_n hX 0 rfl rfl dX8_supporters_1 ?_
  refine z_gFR 8 8 hX (by decide) rfl (by decide) rfl q_425 dX8_supporters_2 (fun r1 => ?_)
  refine z_gFI 0 1 hX (by decide) rfl (by decide) rfl q_330 dX8_supporters_5 (fun x2 => ?_)
  refine z_cSx [.int v1, .int x2] hX hT (fun l hl o ho => c_X8_checkIndex l hl M v1 x2 o ho) dX8_supporters_8 q_1002 okS_X8_checkIndex.1 okS_X8_checkIndex.2.1 okS_X8_checkIndex.2.2.1 okS_X8_checkIndex.2.2.2 rfl ⟨(Nat.le_of_ble_eq_true rfl), (Nat.le_of_ble_eq_true rfl)⟩ rfl (Nat.le_of_ble_eq_true rfl) rfl rfl ⟨(Nat.le_of_ble_eq_true rfl), (Nat.le_of_ble_eq_true rfl)⟩ (Nat.le_of_ble_eq_true rfl) (Nat.le_of_ble_eq_true rfl) (fun M4 => ?_)
  refine z_aload_n hX 0 rfl rfl dX8_supporters_11 ?_
  refine z_gFR 8 8 hX (by decide) rfl (by decide) rfl q_425 dX8_supporters_12 (fun r5 => ?_)
  refine z_gFR 0 12 hX (by decide) rfl (by decide) rfl q_383 dX8_supporters_15 (fun r6 => ?_)
  refine z_iload_n hX 1 rfl rfl dX8_supporters_18 ?_
  refine z_aI hX dX8_supporters_19 (fun x7 => ?_)
  exact z_iretX hX dX8_supporters_20 (Nat.le_of_ble_eq_true rfl) (Nat.le_of_ble_eq_true rfl)
theorem c_X8_supporters (l : Launch) (hl : l.stackTraces = false) (M : Mem) (v0 : Nat) (v1 : Int32) (o : Option Int32 × Mem) (ho : f_X8_supporters M v0 v1 = some o) : Cx l yX8_supporters cX8_supporters 2 (some .int) rm_X8_supporters [.ref v0, .int v1] M (o.1.map fun v => some (.int v)) o.2 :=
  Cx.of hl (by decide +kernel) (Nat.le_of_ble_eq_true rfl) rfl (fun X hX hT => z_X8_supporters hX hT M v0 v1 o ho)
theorem okV_X8_supporters : okV yX8_supporters cX8_supporters 2 (some .int) 1 := ⟨q_1105, q_1106, q_86, q_1107, by unfold okY; decide +kernel⟩
/-! ParticipatoryBudget.votesFor(I)I -/
abbrev rm_X8_votesFor : Room := { frames := 7, cells := 1, slots := 6, locals := 110 }
set_option maxRecDepth 20000 in
set_option maxHeartbeats 4000000 in
theorem z_X8_votesFor {X : Cxt} (hX : okX X cX8_votesFor RX8 rm_X8_votesFor (some .int) 2) (hT : noT X) (M : Mem) (v0 : Nat) (v1 : Int32) : Zj X (fun o : Option Int32 × Mem => Qx X rm_X8_votesFor.cells rm_X8_votesFor.slots (o.1.map fun v => some (.int v)) o.2) 0 0 0 [(0, .ref v0), (1, .int v1)] [] M (f_X8_votesFor M v0 v1) := by
  unfold f_X8_votesFor
  refine z_iload_n hX 1 rfl rfl dX8_votesFor_0 ?_
  refine z_aload_n hX 0 rfl rfl dX8_votesFor_1 ?_
  refine z_gFR 8 8 hX (by decide) rfl (by decide) rfl q_425 dX8_votesFor_2 (fun r1 => ?_)
  refine z_gFI 0 1 hX (by decide) rfl (by decide) rfl q_330 dX8_votesFor_5 (fun x2 => ?_)
  refine z_cSx [.int v1, .int x2] hX hT (fun l hl o ho => c_X8_checkIndex l hl M v1 x2 o ho) dX8_votesFor_8 q_1002 okS_X8_checkIndex.1 okS_X8_checkIndex.2.1 okS_X8_checkIndex.2.2.1 okS_X8_checkIndex.2.2.2 rfl ⟨(Nat.le_of_ble_eq_true rfl), (Nat.le_of_ble_eq_true rfl)⟩ rfl (Nat.le_of_ble_eq_true rfl) rfl rfl ⟨(Nat.le_of_ble_eq_true rfl), (Nat.le_of_ble_eq_true rfl)⟩ (Nat.le_of_ble_eq_true rfl) (Nat.le_of_ble_eq_true rfl) (fun M4 => ?_)
  refine z_aload_n hX 0 rfl rfl dX8_votesFor_11 ?_
  refine z_gFR 8 8 hX (by decide) rfl (by decide) rfl q_425 dX8_votesFor_12 (fun r5 => ?_)
  refine z_gFR 0 13 hX (by decide) rfl (by decide) rfl q_387 dX8_votesFor_15 (fun r6 => ?_)
  refine z_iload_n hX 1 rfl rfl dX8_votesFor_18 ?_
  refine z_aI hX dX8_votesFor_19 (fun x7 => ?_)
  exact z_iretX hX dX8_votesFor_20 (Nat.le_of_ble_eq_true rfl) (Nat.le_of_ble_eq_true rfl)
theorem c_X8_votesFor (l : Launch) (hl : l.stackTraces = false) (M : Mem) (v0 : Nat) (v1 : Int32) (o : Option Int32 × Mem) (ho : f_X8_votesFor M v0 v1 = some o) : Cx l yX8_votesFor cX8_votesFor 2 (some .int) rm_X8_votesFor [.ref v0, .int v1] M (o.1.map fun v => some (.int v)) o.2 :=
  Cx.of hl (by decide +kernel) (Nat.le_of_ble_eq_true rfl) rfl (fun X hX hT => z_X8_votesFor hX hT M v0 v1 o ho)
theorem okV_X8_votesFor : okV yX8_votesFor cX8_votesFor 2 (some .int) 1 := ⟨q_1112, q_1113, q_86, q_1114, by unfold okY; decide +kernel⟩
/-! java/lang/Integer.bitCount(I)I -/
abbrev rm_J6_bitCount_0f7a4 : Room := { frames := 0, cells := 0, slots := 0, locals := 0 }
set_option maxRecDepth 20000 in
set_option maxHeartbeats 4000000 in
theorem z_J6_bitCount_0f7a4 {X : Cxt} (hX : okX X cJ6_bitCount_0f7a4 RJ6 rm_J6_bitCount_0f7a4 (some .int) 1) (M : Mem) (v0 : Int32) : Zj X (fun o : Int32 => Qr X rm_J6_bitCount_0f7a4.cells rm_J6_bitCount_0f7a4.slots (some (.int o)) M) 0 0 0 [(0, .int v0)] [] M (f_J6_bitCount_0f7a4 M v0) := by
  unfold f_J6_bitCount_0f7a4
  refine z_iload_n hX 0 rfl rfl dJ6_bitCount_0f7a4_0 ?_
  refine z_iload_n hX 0 rfl rfl dJ6_bitCount_0f7a4_1 ?_
  refine z_iconst (v := 1) hX (by decide) dJ6_bitCount_0f7a4_2 ?_
  refine z_iushr hX rfl dJ6_bitCount_0f7a4_3 ?_
  refine z_ldcw (v := 1431655765) hX q_787 dJ6_bitCount_0f7a4_4 ?_
  refine z_iand hX dJ6_bitCount_0f7a4_7 ?_
  refine z_isub hX dJ6_bitCount_0f7a4_8 ?_
  refine z_ltI (fun x1 => ?_)
  refine z_istore_n hX [(0, .int x1)] rfl (by decide) rfl dJ6_bitCount_0f7a4_9 ?_
  refine z_iload_n hX 0 rfl rfl dJ6_bitCount_0f7a4_10 ?_
  refine z_ldcw (v := 858993459) hX q_788 dJ6_bitCount_0f7a4_11 ?_
  refine z_iand hX dJ6_bitCount_0f7a4_14 ?_
  refine z_iload_n hX 0 rfl rfl dJ6_bitCount_0f7a4_15 ?_
  refine z_iconst (v := 2) hX (by decide) dJ6_bitCount_0f7a4_16 ?_
  refine z_iushr hX rfl dJ6_bitCount_0f7a4_17 ?_
  refine z_ldcw (v := 858993459) hX q_788 dJ6_bitCount_0f7a4_18 ?_
  refine z_iand hX dJ6_bitCount_0f7a4_21 ?_
  refine z_iadd hX dJ6_bitCount_0f7a4_22 ?_
  refine z_ltI (fun x2 => ?_)
  refine z_istore_n hX [(0, .int x2)] rfl (by decide) rfl dJ6_bitCount_0f7a4_23 ?_
  refine z_iload_n hX 0 rfl rfl dJ6_bitCount_0f7a4_24 ?_
  refine z_iload_n hX 0 rfl rfl dJ6_bitCount_0f7a4_25 ?_
  refine z_iconst (v := 4) hX (by decide) dJ6_bitCount_0f7a4_26 ?_
  refine z_iushr hX rfl dJ6_bitCount_0f7a4_27 ?_
  refine z_iadd hX dJ6_bitCount_0f7a4_28 ?_
  refine z_ldcw (v := 252645135) hX q_789 dJ6_bitCount_0f7a4_29 ?_
  refine z_iand hX dJ6_bitCount_0f7a4_32 ?_
  refine z_ltI (fun x3 => ?_)
  refine z_istore_n hX [(0, .int x3)] rfl (by decide) rfl dJ6_bitCount_0f7a4_33 ?_
  refine z_iload_n hX 0 rfl rfl dJ6_bitCount_0f7a4_34 ?_
  refine z_iload_n hX 0 rfl rfl dJ6_bitCount_0f7a4_35 ?_
  refine z_bipush (v := 8) hX (by decide) dJ6_bitCount_0f7a4_36 ?_
  refine z_iushr hX rfl dJ6_bitCount_0f7a4_38 ?_
  refine z_iadd hX dJ6_bitCount_0f7a4_39 ?_
  refine z_ltI (fun x4 => ?_)
  refine z_istore_n hX [(0, .int x4)] rfl (by decide) rfl dJ6_bitCount_0f7a4_40 ?_
  refine z_iload_n hX 0 rfl rfl dJ6_bitCount_0f7a4_41 ?_
  refine z_iload_n hX 0 rfl rfl dJ6_bitCount_0f7a4_42 ?_
  refine z_bipush (v := 16) hX (by decide) dJ6_bitCount_0f7a4_43 ?_
  refine z_iushr hX rfl dJ6_bitCount_0f7a4_45 ?_
  refine z_iadd hX dJ6_bitCount_0f7a4_46 ?_
  refine z_ltI (fun x5 => ?_)
  refine z_istore_n hX [(0, .int x5)] rfl (by decide) rfl dJ6_bitCount_0f7a4_47 ?_
  refine z_iload_n hX 0 rfl rfl dJ6_bitCount_0f7a4_48 ?_
  refine z_bipush (v := 63) hX (by decide) dJ6_bitCount_0f7a4_49 ?_
  refine z_iand hX dJ6_bitCount_0f7a4_51 ?_
  exact z_iretP hX dJ6_bitCount_0f7a4_52 (Nat.le_of_ble_eq_true rfl) (Nat.le_of_ble_eq_true rfl)
theorem c_J6_bitCount_0f7a4 (l : Launch) (hl : l.stackTraces = false) (M : Mem) (v0 : Int32) (o : Int32) (ho : f_J6_bitCount_0f7a4 M v0 = some o) : Ct l yJ6_bitCount_0f7a4 cJ6_bitCount_0f7a4 1 (some .int) rm_J6_bitCount_0f7a4 [.int v0] M (some (.int o)) M :=
  Ct.of hl (by decide +kernel) (Nat.le_of_ble_eq_true rfl) rfl (fun X hX hin => z_J6_bitCount_0f7a4 hX M v0 o ho)
theorem okS_J6_bitCount_0f7a4 : okS yJ6_bitCount_0f7a4 cJ6_bitCount_0f7a4 1 (some .int) 1 := ⟨q_785, q_107, q_786, by unfold okY; decide +kernel⟩
/-! ParticipatoryBudget.commonSupport(II)I -/
abbrev rm_X8_commonSupport : Room := { frames := 7, cells := 2, slots := 12, locals := 110 }
set_option maxRecDepth 20000 in
set_option maxHeartbeats 4000000 in
theorem z_X8_commonSupport {X : Cxt} (hX : okX X cX8_commonSupport RX8 rm_X8_commonSupport (some .int) 3) (hT : noT X) (M : Mem) (v0 : Nat) (v1 : Int32) (v2 : Int32) : Zj X (fun o : Option Int32 × Mem => Qx X rm_X8_commonSupport.cells rm_X8_commonSupport.slots (o.1.map fun v => some (.int v)) o.2) 0 0 0 [(0, .ref v0), (1, .int v1), (2, .int v2)] [] M (f_X8_commonSupport M v0 v1 v2) := by
  unfold f_X8_commonSupport
  refine z_iload_n hX 1 rfl rfl dX8_commonSupport_0 ?_
  refine z_aload_n hX 0 rfl rfl dX8_commonSupport_1 ?_
  refine z_gFR 8 8 hX (by decide) rfl (by decide) rfl q_425 dX8_commonSupport_2 (fun r1 => ?_)
  refine z_gFI 0 1 hX (by decide) rfl (by decide) rfl q_330 dX8_commonSupport_5 (fun x2 => ?_)
  refine z_cSx [.int v1, .int x2] hX hT (fun l hl o ho => c_X8_checkIndex l hl M v1 x2 o ho) dX8_commonSupport_8 q_1002 okS_X8_checkIndex.1 okS_X8_checkIndex.2.1 okS_X8_checkIndex.2.2.1 okS_X8_checkIndex.2.2.2 rfl ⟨(Nat.le_of_ble_eq_true rfl), (Nat.le_of_ble_eq_true rfl)⟩ rfl (Nat.le_of_ble_eq_true rfl) rfl rfl ⟨(Nat.le_of_ble_eq_true rfl), (Nat.le_of_ble_eq_true rfl)⟩ (Nat.le_of_ble_eq_true rfl) (Nat.le_of_ble_eq_true rfl) (fun M4 => ?_)
  refine z_iload_n hX 2 rfl rfl dX8_commonSupport_11 ?_
  refine z_aload_n hX 0 rfl rfl dX8_commonSupport_12 ?_
  refine z_gFR 8 8 hX (by decide) rfl (by decide) rfl q_425 dX8_commonSupport_13 (fun r5 => ?_)
  refine z_gFI 0 1 hX (by decide) rfl (by decide) rfl q_330 dX8_commonSupport_16 (fun x6 => ?_)
  refine z_cSx [.int v2, .int x6] hX hT (fun l hl o ho => c_X8_checkIndex l hl M4 v2 x6 o ho) dX8_commonSupport_19 q_1002 okS_X8_checkIndex.1 okS_X8_checkIndex.2.1 okS_X8_checkIndex.2.2.1 okS_X8_checkIndex.2.2.2 rfl ⟨(Nat.le_of_ble_eq_true rfl), (Nat.le_of_ble_eq_true rfl)⟩ rfl (Nat.le_of_ble_eq_true rfl) rfl rfl ⟨(Nat.le_of_ble_eq_true rfl), (Nat.le_of_ble_eq_true rfl)⟩ (Nat.le_of_ble_eq_true rfl) (Nat.le_of_ble_eq_true rfl) (fun M8 => ?_)
  refine z_aload_n hX 0 rfl rfl dX8_commonSupport_22 ?_
  refine z_gFR 8 8 hX (by decide) rfl (by decide) rfl q_425 dX8_commonSupport_23 (fun r9 => ?_)
  refine z_gFR 0 12 hX (by decide) rfl (by decide) rfl q_383 dX8_commonSupport_26 (fun r10 => ?_)
  refine z_iload_n hX 1 rfl rfl dX8_commonSupport_29 ?_
  refine z_aI hX dX8_commonSupport_30 (fun x11 => ?_)
  refine z_aload_n hX 0 rfl rfl dX8_commonSupport_31 ?_
  refine z_gFR 8 8 hX (by decide) rfl (by decide) rfl q_425 dX8_commonSupport_32 (fun r12 => ?_)
  refine z_gFR 0 12 hX (by decide) rfl (by decide) rfl q_383 dX8_commonSupport_35 (fun r13 => ?_)
  refine z_iload_n hX 2 rfl rfl dX8_commonSupport_38 ?_
  refine z_aI hX dX8_commonSupport_39 (fun x14 => ?_)
  refine z_iand hX dX8_commonSupport_40 ?_
  refine z_cSIp [.int (x11 &&& x14)] hX (fun l hl o ho => c_J6_bitCount_0f7a4 l hl M8 (x11 &&& x14) o ho) dX8_commonSupport_41 q_784 okS_J6_bitCount_0f7a4 rfl ⟨(Nat.le_of_ble_eq_true rfl), (Nat.le_of_ble_eq_true rfl)⟩ rfl (Nat.le_of_ble_eq_true rfl) rfl rfl ⟨(Nat.le_of_ble_eq_true rfl), (Nat.le_of_ble_eq_true rfl)⟩ (fun o15 => ?_)
  exact z_iretX hX dX8_commonSupport_44 (Nat.le_of_ble_eq_true rfl) (Nat.le_of_ble_eq_true rfl)
theorem c_X8_commonSupport (l : Launch) (hl : l.stackTraces = false) (M : Mem) (v0 : Nat) (v1 : Int32) (v2 : Int32) (o : Option Int32 × Mem) (ho : f_X8_commonSupport M v0 v1 v2 = some o) : Cx l yX8_commonSupport cX8_commonSupport 3 (some .int) rm_X8_commonSupport [.ref v0, .int v1, .int v2] M (o.1.map fun v => some (.int v)) o.2 :=
  Cx.of hl (by decide +kernel) (Nat.le_of_ble_eq_true rfl) rfl (fun X hX hT => z_X8_commonSupport hX hT M v0 v1 v2 o ho)
theorem okV_X8_commonSupport : okV yX8_commonSupport cX8_commonSupport 3 (some .int) 2 := ⟨q_1257, q_1258, q_86, q_1259, by unfold okY; decide +kernel⟩
/-! ParticipatoryBudget.purse(II)I -/
abbrev rm_X8_purse : Room := { frames := 7, cells := 2, slots := 12, locals := 110 }
set_option maxRecDepth 20000 in
set_option maxHeartbeats 4000000 in
theorem z_X8_purse {X : Cxt} (hX : okX X cX8_purse RX8 rm_X8_purse (some .int) 3) (hT : noT X) (M : Mem) (v0 : Nat) (v1 : Int32) (v2 : Int32) : Zj X (fun o : Option Int32 × Mem => Qx X rm_X8_purse.cells rm_X8_purse.slots (o.1.map fun v => some (.int v)) o.2) 0 0 0 [(0, .ref v0), (1, .int v1), (2, .int v2)] [] M (f_X8_purse M v0 v1 v2) := by
  unfold f_X8_purse
  refine z_iload_n hX 1 rfl rfl dX8_purse_0 ?_
  refine z_aload_n hX 0 rfl rfl dX8_purse_1 ?_
  refine z_gFR 8 8 hX (by decide) rfl (by decide) rfl q_425 dX8_purse_2 (fun r1 => ?_)
  refine z_gFI 0 2 hX (by decide) rfl (by decide) rfl q_334 dX8_purse_5 (fun x2 => ?_)
  refine z_cSx [.int v1, .int x2] hX hT (fun l hl o ho => c_X8_checkIndex l hl M v1 x2 o ho) dX8_purse_8 q_1002 okS_X8_checkIndex.1 okS_X8_checkIndex.2.1 okS_X8_checkIndex.2.2.1 okS_X8_checkIndex.2.2.2 rfl ⟨(Nat.le_of_ble_eq_true rfl), (Nat.le_of_ble_eq_true rfl)⟩ rfl (Nat.le_of_ble_eq_true rfl) rfl rfl ⟨(Nat.le_of_ble_eq_true rfl), (Nat.le_of_ble_eq_true rfl)⟩ (Nat.le_of_ble_eq_true rfl) (Nat.le_of_ble_eq_true rfl) (fun M4 => ?_)
  refine z_iload_n hX 2 rfl rfl dX8_purse_11 ?_
  refine z_aload_n hX 0 rfl rfl dX8_purse_12 ?_
  refine z_gFR 8 8 hX (by decide) rfl (by decide) rfl q_425 dX8_purse_13 (fun r5 => ?_)
  refine z_gFI 0 0 hX (by decide) rfl (by decide) rfl q_323 dX8_purse_16 (fun x6 => ?_)
  refine z_cSx [.int v2, .int x6] hX hT (fun l hl o ho => c_X8_checkIndex l hl M4 v2 x6 o ho) dX8_purse_19 q_1002 okS_X8_checkIndex.1 okS_X8_checkIndex.2.1 okS_X8_checkIndex.2.2.1 okS_X8_checkIndex.2.2.2 rfl ⟨(Nat.le_of_ble_eq_true rfl), (Nat.le_of_ble_eq_true rfl)⟩ rfl (Nat.le_of_ble_eq_true rfl) rfl rfl ⟨(Nat.le_of_ble_eq_true rfl), (Nat.le_of_ble_eq_true rfl)⟩ (Nat.le_of_ble_eq_true rfl) (Nat.le_of_ble_eq_true rfl) (fun M8 => ?_)
  refine z_aload_n hX 0 rfl rfl dX8_purse_22 ?_
  refine z_gFR 8 8 hX (by decide) rfl (by decide) rfl q_425 dX8_purse_23 (fun r9 => ?_)
  refine z_iload_n hX 1 rfl rfl dX8_purse_26 ?_
  refine z_iload_n hX 2 rfl rfl dX8_purse_27 ?_
  refine z_cVIp 0 [.int v1, .int v2] hX (fun l hl o ho => c_X0_firstPurse l hl M8 r9 v1 v2 o ho) dX8_purse_28 (by decide) rfl rfl q_1122 okV_X0_firstPurse rfl ⟨(Nat.le_of_ble_eq_true rfl), (Nat.le_of_ble_eq_true rfl)⟩ rfl (Nat.le_of_ble_eq_true rfl) rfl rfl ⟨(Nat.le_of_ble_eq_true rfl), (Nat.le_of_ble_eq_true rfl)⟩ (fun o10 => ?_)
  exact z_iretX hX dX8_purse_31 (Nat.le_of_ble_eq_true rfl) (Nat.le_of_ble_eq_true rfl)
theorem c_X8_purse (l : Launch) (hl : l.stackTraces = false) (M : Mem) (v0 : Nat) (v1 : Int32) (v2 : Int32) (o : Option Int32 × Mem) (ho : f_X8_purse M v0 v1 v2 = some o) : Cx l yX8_purse cX8_purse 3 (some .int) rm_X8_purse [.ref v0, .int v1, .int v2] M (o.1.map fun v => some (.int v)) o.2 :=
  Cx.of hl (by decide +kernel) (Nat.le_of_ble_eq_true rfl) rfl (fun X hX hT => z_X8_purse hX hT M v0 v1 v2 o ho)
theorem okV_X8_purse : okV yX8_purse cX8_purse 3 (some .int) 2 := ⟨q_1119, q_1120, q_86, q_1121, by unfold okY; decide +kernel⟩
/-! ParticipatoryBudget.endowment(I)I -/
abbrev rm_X8_endowment : Room := { frames := 7, cells := 1, slots := 6, locals := 110 }
set_option maxRecDepth 20000 in
set_option maxHeartbeats 4000000 in
theorem z_X8_endowment {X : Cxt} (hX : okX X cX8_endowment RX8 rm_X8_endowment (some .int) 2) (hT : noT X) (M : Mem) (v0 : Nat) (v1 : Int32) : Zj X (fun o : Option Int32 × Mem => Qx X rm_X8_endowment.cells rm_X8_endowment.slots (o.1.map fun v => some (.int v)) o.2) 0 0 0 [(0, .ref v0), (1, .int v1)] [] M (f_X8_endowment M v0 v1) := by
  unfold f_X8_endowment
  refine z_iload_n hX 1 rfl rfl dX8_endowment_0 ?_
  refine z_aload_n hX 0 rfl rfl dX8_endowment_1 ?_
  refine z_gFR 8 8 hX (by decide) rfl (by decide) rfl q_425 dX8_endowment_2 (fun r1 => ?_)
  refine z_gFI 0 2 hX (by decide) rfl (by decide) rfl q_334 dX8_endowment_5 (fun x2 => ?_)
  refine z_cSx [.int v1, .int x2] hX hT (fun l hl o ho => c_X8_checkIndex l hl M v1 x2 o ho) dX8_endowment_8 q_1002 okS_X8_checkIndex.1 okS_X8_checkIndex.2.1 okS_X8_checkIndex.2.2.1 okS_X8_checkIndex.2.2.2 rfl ⟨(Nat.le_of_ble_eq_true rfl), (Nat.le_of_ble_eq_true rfl)⟩ rfl (Nat.le_of_ble_eq_true rfl) rfl rfl ⟨(Nat.le_of_ble_eq_true rfl), (Nat.le_of_ble_eq_true rfl)⟩ (Nat.le_of_ble_eq_true rfl) (Nat.le_of_ble_eq_true rfl) (fun M4 => ?_)
  refine z_aload_n hX 0 rfl rfl dX8_endowment_11 ?_
  refine z_gFR 8 8 hX (by decide) rfl (by decide) rfl q_425 dX8_endowment_12 (fun r5 => ?_)
  refine z_iload_n hX 1 rfl rfl dX8_endowment_15 ?_
  refine z_aload_n hX 0 rfl rfl dX8_endowment_16 ?_
  refine z_gFR 8 8 hX (by decide) rfl (by decide) rfl q_425 dX8_endowment_17 (fun r6 => ?_)
  refine z_gFR 0 9 hX (by decide) rfl (by decide) rfl q_370 dX8_endowment_20 (fun r7 => ?_)
  refine z_iload_n hX 1 rfl rfl dX8_endowment_23 ?_
  refine z_aI hX dX8_endowment_24 (fun x8 => ?_)
  refine z_cVIp 0 [.int v1, .int x8] hX (fun l hl o ho => c_X0_firstMeans l hl M4 r5 v1 x8 o ho) dX8_endowment_25 (by decide) rfl rfl q_1231 okV_X0_firstMeans rfl ⟨(Nat.le_of_ble_eq_true rfl), (Nat.le_of_ble_eq_true rfl)⟩ rfl (Nat.le_of_ble_eq_true rfl) rfl rfl ⟨(Nat.le_of_ble_eq_true rfl), (Nat.le_of_ble_eq_true rfl)⟩ (fun o9 => ?_)
  exact z_iretX hX dX8_endowment_28 (Nat.le_of_ble_eq_true rfl) (Nat.le_of_ble_eq_true rfl)
theorem c_X8_endowment (l : Launch) (hl : l.stackTraces = false) (M : Mem) (v0 : Nat) (v1 : Int32) (o : Option Int32 × Mem) (ho : f_X8_endowment M v0 v1 = some o) : Cx l yX8_endowment cX8_endowment 2 (some .int) rm_X8_endowment [.ref v0, .int v1] M (o.1.map fun v => some (.int v)) o.2 :=
  Cx.of hl (by decide +kernel) (Nat.le_of_ble_eq_true rfl) rfl (fun X hX hT => z_X8_endowment hX hT M v0 v1 o ho)
theorem okV_X8_endowment : okV yX8_endowment cX8_endowment 2 (some .int) 1 := ⟨q_1228, q_1229, q_86, q_1230, by unfold okY; decide +kernel⟩
/-! ParticipatoryBudget.equalNow()LParticipatoryBudget$EqualShares; -/
abbrev rm_X8_equalNow : Room := { frames := 5, cells := 0, slots := 0, locals := 124 }
set_option maxRecDepth 20000 in
set_option maxHeartbeats 4000000 in
theorem z_X8_equalNow {X : Cxt} (hX : okX X cX8_equalNow RX8 rm_X8_equalNow (some (.object "ParticipatoryBudget$EqualShares")) 1) (M : Mem) (v0 : Nat) : Zj X (fun o : Nat × Mem => Qr X rm_X8_equalNow.cells rm_X8_equalNow.slots (some (.ref o.1)) o.2) 0 0 0 [(0, .ref v0)] [] M (f_X8_equalNow M v0) := by
  unfold f_X8_equalNow
  refine z_aload_n hX 0 rfl rfl dX8_equalNow_0 ?_
  refine z_gFI 8 12 hX (by decide) rfl (by decide) rfl q_429 dX8_equalNow_1 (fun x1 => ?_)
  refine z_jn (C' := 0) (S' := 0) 23 (fun (j2 : Mem) => [(0, .ref v0)]) (fun (j2 : Mem) => []) (fun (j2 : Mem) => j2) (fun j2 => ?_) (fun kj2 => ?_)
  · refine z_aload_n hX 0 rfl rfl dX8_equalNow_23 ?_
    refine z_gFR 8 3 hX (by decide) rfl (by decide) rfl q_420 dX8_equalNow_24 (fun r3 => ?_)
    exact z_aretM hX (Or.inl ⟨_, rfl⟩) dX8_equalNow_27 (Nat.le_of_ble_eq_true rfl) (Nat.le_of_ble_eq_true rfl)
  · refine z_iteB ?_
    refine z_if_ne hX 23 (by decide) dX8_equalNow_4 (fun _ => ?_) (fun _ => ?_)
    · refine z_pure ?_
      refine z_sub [0] rfl ?_
      exact kj2 M
    · refine z_aload_n hX 0 rfl rfl dX8_equalNow_7 ?_
      refine z_asc ?_
      refine z_gFR 8 3 hX (by decide) rfl (by decide) rfl q_420 dX8_equalNow_8 (fun r4 => ?_)
      refine z_aload_n hX 0 rfl rfl dX8_equalNow_11 ?_
      refine z_asc ?_
      refine z_gFR 8 8 hX (by decide) rfl (by decide) rfl q_425 dX8_equalNow_12 (fun r5 => ?_)
      refine z_asc ?_
      refine z_asc2 ?_
      refine z_cVVm 1 [.ref r5] hX (fun l hl o ho => c_X1_decide l hl M r4 r5 o ho) dX8_equalNow_15 (by decide) rfl rfl q_666 okV_X1_decide rfl ⟨(Nat.le_of_ble_eq_true rfl), (Nat.le_of_ble_eq_true rfl)⟩ rfl (Nat.le_of_ble_eq_true rfl) rfl rfl ⟨(Nat.le_of_ble_eq_true rfl), (Nat.le_of_ble_eq_true rfl)⟩ (fun o6 => ?_)
      refine z_aload_n hX 0 rfl rfl dX8_equalNow_18 ?_
      refine z_iconst (v := 1) hX (by decide) dX8_equalNow_19 ?_
      refine z_asc ?_
      refine z_pFI 8 12 hX (by decide) rfl (by decide) rfl q_429 rfl pd_12 rfl rfl dX8_equalNow_20 (fun M7 => ?_)
      refine z_pure ?_
      refine z_sub [0] rfl ?_
      exact kj2 M7
theorem c_X8_equalNow (l : Launch) (hl : l.stackTraces = false) (M : Mem) (v0 : Nat) (o : Nat × Mem) (ho : f_X8_equalNow M v0 = some o) : Ct l yX8_equalNow cX8_equalNow 1 (some (.object "ParticipatoryBudget$EqualShares")) rm_X8_equalNow [.ref v0] M (some (.ref o.1)) o.2 :=
  Ct.of hl (by decide +kernel) (Nat.le_of_ble_eq_true rfl) rfl (fun X hX hin => z_X8_equalNow hX M v0 o ho)
theorem okV_X8_equalNow : okV yX8_equalNow cX8_equalNow 1 (some (.object "ParticipatoryBudget$EqualShares")) 0 := ⟨q_664, q_4, q_86, q_665, by unfold okY; decide +kernel⟩
/-! ParticipatoryBudget.firstPrice(I)I -/
abbrev rm_X8_firstPrice : Room := { frames := 7, cells := 1, slots := 6, locals := 144 }
set_option maxRecDepth 20000 in
set_option maxHeartbeats 4000000 in
theorem z_X8_firstPrice {X : Cxt} (hX : okX X cX8_firstPrice RX8 rm_X8_firstPrice (some .int) 2) (hT : noT X) (M : Mem) (v0 : Nat) (v1 : Int32) : Zj X (fun o : Option Int32 × Mem => Qx X rm_X8_firstPrice.cells rm_X8_firstPrice.slots (o.1.map fun v => some (.int v)) o.2) 0 0 0 [(0, .ref v0), (1, .int v1)] [] M (f_X8_firstPrice M v0 v1) := by
  unfold f_X8_firstPrice
  refine z_iload_n hX 1 rfl rfl dX8_firstPrice_0 ?_
  refine z_aload_n hX 0 rfl rfl dX8_firstPrice_1 ?_
  refine z_gFR 8 8 hX (by decide) rfl (by decide) rfl q_425 dX8_firstPrice_2 (fun r1 => ?_)
  refine z_gFI 0 1 hX (by decide) rfl (by decide) rfl q_330 dX8_firstPrice_5 (fun x2 => ?_)
  refine z_cSx [.int v1, .int x2] hX hT (fun l hl o ho => c_X8_checkIndex l hl M v1 x2 o ho) dX8_firstPrice_8 q_1002 okS_X8_checkIndex.1 okS_X8_checkIndex.2.1 okS_X8_checkIndex.2.2.1 okS_X8_checkIndex.2.2.2 rfl ⟨(Nat.le_of_ble_eq_true rfl), (Nat.le_of_ble_eq_true rfl)⟩ rfl (Nat.le_of_ble_eq_true rfl) rfl rfl ⟨(Nat.le_of_ble_eq_true rfl), (Nat.le_of_ble_eq_true rfl)⟩ (Nat.le_of_ble_eq_true rfl) (Nat.le_of_ble_eq_true rfl) (fun M4 => ?_)
  refine z_aload_n hX 0 rfl rfl dX8_firstPrice_11 ?_
  refine z_cVAm 8 [] hX (fun l hl o ho => c_X8_equalNow l hl M4 v0 o ho) dX8_firstPrice_12 (by decide) rfl rfl q_662 okV_X8_equalNow rfl ⟨(Nat.le_of_ble_eq_true rfl), (Nat.le_of_ble_eq_true rfl)⟩ rfl (Nat.le_of_ble_eq_true rfl) rfl rfl ⟨(Nat.le_of_ble_eq_true rfl), (Nat.le_of_ble_eq_true rfl)⟩ (fun o5 => ?_)
  refine z_gFR 1 3 hX (by decide) rfl (by decide) rfl q_261 dX8_firstPrice_15 (fun r6 => ?_)
  refine z_iload_n hX 1 rfl rfl dX8_firstPrice_18 ?_
  refine z_aI hX dX8_firstPrice_19 (fun x7 => ?_)
  exact z_iretX hX dX8_firstPrice_20 (Nat.le_of_ble_eq_true rfl) (Nat.le_of_ble_eq_true rfl)
theorem c_X8_firstPrice (l : Launch) (hl : l.stackTraces = false) (M : Mem) (v0 : Nat) (v1 : Int32) (o : Option Int32 × Mem) (ho : f_X8_firstPrice M v0 v1 = some o) : Cx l yX8_firstPrice cX8_firstPrice 2 (some .int) rm_X8_firstPrice [.ref v0, .int v1] M (o.1.map fun v => some (.int v)) o.2 :=
  Cx.of hl (by decide +kernel) (Nat.le_of_ble_eq_true rfl) rfl (fun X hX hT => z_X8_firstPrice hX hT M v0 v1 o ho)
theorem okV_X8_firstPrice : okV yX8_firstPrice cX8_firstPrice 2 (some .int) 1 := ⟨q_1127, q_1128, q_86, q_1129, by unfold okY; decide +kernel⟩
/-! ParticipatoryBudget.priceOf(I)I -/
abbrev rm_X8_priceOf : Room := { frames := 7, cells := 1, slots := 6, locals := 144 }
set_option maxRecDepth 20000 in
set_option maxHeartbeats 4000000 in
theorem z_X8_priceOf {X : Cxt} (hX : okX X cX8_priceOf RX8 rm_X8_priceOf (some .int) 4) (hT : noT X) (M : Mem) (v0 : Nat) (v1 : Int32) : Zj X (fun o : Option Int32 × Mem => Qx X rm_X8_priceOf.cells rm_X8_priceOf.slots (o.1.map fun v => some (.int v)) o.2) 0 0 0 [(0, .ref v0), (1, .int v1)] [] M (f_X8_priceOf M v0 v1) := by
  unfold f_X8_priceOf
  refine z_iload_n hX 1 rfl rfl dX8_priceOf_0 ?_
  refine z_aload_n hX 0 rfl rfl dX8_priceOf_1 ?_
  refine z_gFR 8 8 hX (by decide) rfl (by decide) rfl q_425 dX8_priceOf_2 (fun r1 => ?_)
  refine z_gFI 0 1 hX (by decide) rfl (by decide) rfl q_330 dX8_priceOf_5 (fun x2 => ?_)
  refine z_cSx [.int v1, .int x2] hX hT (fun l hl o ho => c_X8_checkIndex l hl M v1 x2 o ho) dX8_priceOf_8 q_1002 okS_X8_checkIndex.1 okS_X8_checkIndex.2.1 okS_X8_checkIndex.2.2.1 okS_X8_checkIndex.2.2.2 rfl ⟨(Nat.le_of_ble_eq_true rfl), (Nat.le_of_ble_eq_true rfl)⟩ rfl (Nat.le_of_ble_eq_true rfl) rfl rfl ⟨(Nat.le_of_ble_eq_true rfl), (Nat.le_of_ble_eq_true rfl)⟩ (Nat.le_of_ble_eq_true rfl) (Nat.le_of_ble_eq_true rfl) (fun M4 => ?_)
  refine z_aload_n hX 0 rfl rfl dX8_priceOf_11 ?_
  refine z_cVAm 8 [] hX (fun l hl o ho => c_X8_equalNow l hl M4 v0 o ho) dX8_priceOf_12 (by decide) rfl rfl q_662 okV_X8_equalNow rfl ⟨(Nat.le_of_ble_eq_true rfl), (Nat.le_of_ble_eq_true rfl)⟩ rfl (Nat.le_of_ble_eq_true rfl) rfl rfl ⟨(Nat.le_of_ble_eq_true rfl), (Nat.le_of_ble_eq_true rfl)⟩ (fun o5 => ?_)
  refine z_gFR 1 0 hX (by decide) rfl (by decide) rfl q_256 dX8_priceOf_15 (fun r6 => ?_)
  refine z_astore_n hX [(2, .ref r6), (0, .ref v0), (1, .int v1)] rfl (by decide) rfl dX8_priceOf_18 ?_
  refine z_aload_n hX 0 rfl rfl dX8_priceOf_19 ?_
  refine z_iload_n hX 2 rfl rfl dX8_priceOf_20 ?_
  refine z_cVIp 6 [.int v1] hX (fun l hl o ho => c_X6_whenFunded l hl o5.2 r6 v1 o ho) dX8_priceOf_21 (by decide) rfl rfl q_1137 okV_X6_whenFunded rfl ⟨(Nat.le_of_ble_eq_true rfl), (Nat.le_of_ble_eq_true rfl)⟩ rfl (Nat.le_of_ble_eq_true rfl) rfl rfl ⟨(Nat.le_of_ble_eq_true rfl), (Nat.le_of_ble_eq_true rfl)⟩ (fun o7 => ?_)
  refine z_istore_n hX [(3, .int o7), (2, .ref r6), (0, .ref v0), (1, .int v1)] rfl (by decide) rfl dX8_priceOf_24 ?_
  refine z_iload_n hX 0 rfl rfl dX8_priceOf_25 ?_
  refine z_jn (C' := 1) (S' := 6) 41 (fun (j8 : Int32) => []) (fun (j8 : Int32) => [.int j8]) (fun (j8 : Int32) => o5.2) (fun j8 => ?_) (fun kj8 => ?_)
  · exact z_iretX hX dX8_priceOf_41 (Nat.le_of_ble_eq_true rfl) (Nat.le_of_ble_eq_true rfl)
  · refine z_iteB ?_
    refine z_if_ge hX 33 (by decide) dX8_priceOf_26 (fun _ => ?_) (fun _ => ?_)
    · refine z_aload_n hX 1 rfl rfl dX8_priceOf_33 ?_
      refine z_asc ?_
      refine z_gFR 6 3 hX (by decide) rfl (by decide) rfl q_198 dX8_priceOf_34 (fun r9 => ?_)
      refine z_iload_n hX 3 rfl rfl dX8_priceOf_37 ?_
      refine z_asc ?_
      refine z_aR hX dX8_priceOf_38 (fun r10 => ?_)
      refine z_iload_n hX 0 rfl rfl dX8_priceOf_39 ?_
      refine z_asc ?_
      refine z_aI hX dX8_priceOf_40 (fun x11 => ?_)
      refine z_pure ?_
      refine z_sub [] rfl ?_
      exact kj8 x11
    · refine z_iconst (v := (-1)) hX (by decide) dX8_priceOf_29 ?_
      refine z_goto hX 41 (by decide) dX8_priceOf_30 ?_
      refine z_pure ?_
      refine z_sub [] rfl ?_
      exact kj8 (-1)
theorem c_X8_priceOf (l : Launch) (hl : l.stackTraces = false) (M : Mem) (v0 : Nat) (v1 : Int32) (o : Option Int32 × Mem) (ho : f_X8_priceOf M v0 v1 = some o) : Cx l yX8_priceOf cX8_priceOf 4 (some .int) rm_X8_priceOf [.ref v0, .int v1] M (o.1.map fun v => some (.int v)) o.2 :=
  Cx.of hl (by decide +kernel) (Nat.le_of_ble_eq_true rfl) rfl (fun X hX hT => z_X8_priceOf hX hT M v0 v1 o ho)
theorem okV_X8_priceOf : okV yX8_priceOf cX8_priceOf 4 (some .int) 1 := ⟨q_1134, q_1135, q_86, q_1136, by unfold okY; decide +kernel⟩
/-! ParticipatoryBudget.priceIn(II)I -/
abbrev rm_X8_priceIn : Room := { frames := 7, cells := 1, slots := 6, locals := 144 }
set_option maxRecDepth 20000 in
set_option maxHeartbeats 4000000 in
theorem z_X8_priceIn {X : Cxt} (hX : okX X cX8_priceIn RX8 rm_X8_priceIn (some .int) 4) (hT : noT X) (M : Mem) (v0 : Nat) (v1 : Int32) (v2 : Int32) : Zj X (fun o : Option Int32 × Mem => Qx X rm_X8_priceIn.cells rm_X8_priceIn.slots (o.1.map fun v => some (.int v)) o.2) 0 0 0 [(0, .ref v0), (1, .int v1), (2, .int v2)] [] M (f_X8_priceIn M v0 v1 v2) := by
  unfold f_X8_priceIn
  refine z_iload_n hX 1 rfl rfl dX8_priceIn_0 ?_
  refine z_aload_n hX 0 rfl rfl dX8_priceIn_1 ?_
  refine z_gFR 8 8 hX (by decide) rfl (by decide) rfl q_425 dX8_priceIn_2 (fun r1 => ?_)
  refine z_gFI 0 1 hX (by decide) rfl (by decide) rfl q_330 dX8_priceIn_5 (fun x2 => ?_)
  refine z_cSx [.int v1, .int x2] hX hT (fun l hl o ho => c_X8_checkIndex l hl M v1 x2 o ho) dX8_priceIn_8 q_1002 okS_X8_checkIndex.1 okS_X8_checkIndex.2.1 okS_X8_checkIndex.2.2.1 okS_X8_checkIndex.2.2.2 rfl ⟨(Nat.le_of_ble_eq_true rfl), (Nat.le_of_ble_eq_true rfl)⟩ rfl (Nat.le_of_ble_eq_true rfl) rfl rfl ⟨(Nat.le_of_ble_eq_true rfl), (Nat.le_of_ble_eq_true rfl)⟩ (Nat.le_of_ble_eq_true rfl) (Nat.le_of_ble_eq_true rfl) (fun M4 => ?_)
  refine z_aload_n hX 0 rfl rfl dX8_priceIn_11 ?_
  refine z_cVAm 8 [] hX (fun l hl o ho => c_X8_equalNow l hl M4 v0 o ho) dX8_priceIn_12 (by decide) rfl rfl q_662 okV_X8_equalNow rfl ⟨(Nat.le_of_ble_eq_true rfl), (Nat.le_of_ble_eq_true rfl)⟩ rfl (Nat.le_of_ble_eq_true rfl) rfl rfl ⟨(Nat.le_of_ble_eq_true rfl), (Nat.le_of_ble_eq_true rfl)⟩ (fun o5 => ?_)
  refine z_gFR 1 0 hX (by decide) rfl (by decide) rfl q_256 dX8_priceIn_15 (fun r6 => ?_)
  refine z_astore_n hX [(3, .ref r6), (0, .ref v0), (1, .int v1), (2, .int v2)] rfl (by decide) rfl dX8_priceIn_18 ?_
  refine z_iload_n hX 3 rfl rfl dX8_priceIn_19 ?_
  refine z_jn (C' := 1) (S' := 6) 44 (fun (j7 : Int32) => []) (fun (j7 : Int32) => [.int j7]) (fun (j7 : Int32) => o5.2) (fun j7 => ?_) (fun kj7 => ?_)
  · exact z_iretX hX dX8_priceIn_44 (Nat.le_of_ble_eq_true rfl) (Nat.le_of_ble_eq_true rfl)
  · refine z_iteB ?_
    refine z_if_lt hX 31 (by decide) dX8_priceIn_20 (fun _ => ?_) (fun _ => ?_)
    · refine z_bipush (v := (-2)) hX (by decide) dX8_priceIn_31 ?_
      refine z_goto hX 44 (by decide) dX8_priceIn_33 ?_
      refine z_pure ?_
      refine z_sub [] rfl ?_
      exact kj7 (-2)
    · refine z_iload_n hX 3 rfl rfl dX8_priceIn_23 ?_
      refine z_aload_n hX 0 rfl rfl dX8_priceIn_24 ?_
      refine z_asc ?_
      refine z_gFI 6 7 hX (by decide) rfl (by decide) rfl q_205 dX8_priceIn_25 (fun x8 => ?_)
      refine z_iteB ?_
      refine z_icmp_le hX 36 (by decide) dX8_priceIn_28 (fun _ => ?_) (fun _ => ?_)
      · refine z_aload_n hX 0 rfl rfl dX8_priceIn_36 ?_
        refine z_asc ?_
        refine z_gFR 6 3 hX (by decide) rfl (by decide) rfl q_198 dX8_priceIn_37 (fun r9 => ?_)
        refine z_iload_n hX 2 rfl rfl dX8_priceIn_40 ?_
        refine z_asc ?_
        refine z_aR hX dX8_priceIn_41 (fun r10 => ?_)
        refine z_iload_n hX 3 rfl rfl dX8_priceIn_42 ?_
        refine z_asc ?_
        refine z_aI hX dX8_priceIn_43 (fun x11 => ?_)
        refine z_pure ?_
        refine z_sub [] rfl ?_
        exact kj7 x11
      · refine z_bipush (v := (-2)) hX (by decide) dX8_priceIn_31 ?_
        refine z_goto hX 44 (by decide) dX8_priceIn_33 ?_
        refine z_pure ?_
        refine z_sub [] rfl ?_
        exact kj7 (-2)
theorem c_X8_priceIn (l : Launch) (hl : l.stackTraces = false) (M : Mem) (v0 : Nat) (v1 : Int32) (v2 : Int32) (o : Option Int32 × Mem) (ho : f_X8_priceIn M v0 v1 v2 = some o) : Cx l yX8_priceIn cX8_priceIn 4 (some .int) rm_X8_priceIn [.ref v0, .int v1, .int v2] M (o.1.map fun v => some (.int v)) o.2 :=
  Cx.of hl (by decide +kernel) (Nat.le_of_ble_eq_true rfl) rfl (fun X hX hT => z_X8_priceIn hX hT M v0 v1 v2 o ho)
theorem okV_X8_priceIn : okV yX8_priceIn cX8_priceIn 4 (some .int) 2 := ⟨q_1264, q_1265, q_86, q_1266, by unfold okY; decide +kernel⟩
/-! ParticipatoryBudget.roundOf(I)I -/
abbrev rm_X8_roundOf : Room := { frames := 7, cells := 1, slots := 6, locals := 144 }
set_option maxRecDepth 20000 in
set_option maxHeartbeats 4000000 in
theorem z_X8_roundOf {X : Cxt} (hX : okX X cX8_roundOf RX8 rm_X8_roundOf (some .int) 2) (hT : noT X) (M : Mem) (v0 : Nat) (v1 : Int32) : Zj X (fun o : Option Int32 × Mem => Qx X rm_X8_roundOf.cells rm_X8_roundOf.slots (o.1.map fun v => some (.int v)) o.2) 0 0 0 [(0, .ref v0), (1, .int v1)] [] M (f_X8_roundOf M v0 v1) := by
  unfold f_X8_roundOf
  refine z_iload_n hX 1 rfl rfl dX8_roundOf_0 ?_
  refine z_aload_n hX 0 rfl rfl dX8_roundOf_1 ?_
  refine z_gFR 8 8 hX (by decide) rfl (by decide) rfl q_425 dX8_roundOf_2 (fun r1 => ?_)
  refine z_gFI 0 1 hX (by decide) rfl (by decide) rfl q_330 dX8_roundOf_5 (fun x2 => ?_)
  refine z_cSx [.int v1, .int x2] hX hT (fun l hl o ho => c_X8_checkIndex l hl M v1 x2 o ho) dX8_roundOf_8 q_1002 okS_X8_checkIndex.1 okS_X8_checkIndex.2.1 okS_X8_checkIndex.2.2.1 okS_X8_checkIndex.2.2.2 rfl ⟨(Nat.le_of_ble_eq_true rfl), (Nat.le_of_ble_eq_true rfl)⟩ rfl (Nat.le_of_ble_eq_true rfl) rfl rfl ⟨(Nat.le_of_ble_eq_true rfl), (Nat.le_of_ble_eq_true rfl)⟩ (Nat.le_of_ble_eq_true rfl) (Nat.le_of_ble_eq_true rfl) (fun M4 => ?_)
  refine z_aload_n hX 0 rfl rfl dX8_roundOf_11 ?_
  refine z_cVAm 8 [] hX (fun l hl o ho => c_X8_equalNow l hl M4 v0 o ho) dX8_roundOf_12 (by decide) rfl rfl q_662 okV_X8_equalNow rfl ⟨(Nat.le_of_ble_eq_true rfl), (Nat.le_of_ble_eq_true rfl)⟩ rfl (Nat.le_of_ble_eq_true rfl) rfl rfl ⟨(Nat.le_of_ble_eq_true rfl), (Nat.le_of_ble_eq_true rfl)⟩ (fun o5 => ?_)
  refine z_gFR 1 0 hX (by decide) rfl (by decide) rfl q_256 dX8_roundOf_15 (fun r6 => ?_)
  refine z_iload_n hX 1 rfl rfl dX8_roundOf_18 ?_
  refine z_cVIp 6 [.int v1] hX (fun l hl o ho => c_X6_whenFunded l hl o5.2 r6 v1 o ho) dX8_roundOf_19 (by decide) rfl rfl q_1137 okV_X6_whenFunded rfl ⟨(Nat.le_of_ble_eq_true rfl), (Nat.le_of_ble_eq_true rfl)⟩ rfl (Nat.le_of_ble_eq_true rfl) rfl rfl ⟨(Nat.le_of_ble_eq_true rfl), (Nat.le_of_ble_eq_true rfl)⟩ (fun o7 => ?_)
  exact z_iretX hX dX8_roundOf_22 (Nat.le_of_ble_eq_true rfl) (Nat.le_of_ble_eq_true rfl)
theorem c_X8_roundOf (l : Launch) (hl : l.stackTraces = false) (M : Mem) (v0 : Nat) (v1 : Int32) (o : Option Int32 × Mem) (ho : f_X8_roundOf M v0 v1 = some o) : Cx l yX8_roundOf cX8_roundOf 2 (some .int) rm_X8_roundOf [.ref v0, .int v1] M (o.1.map fun v => some (.int v)) o.2 :=
  Cx.of hl (by decide +kernel) (Nat.le_of_ble_eq_true rfl) rfl (fun X hX hT => z_X8_roundOf hX hT M v0 v1 o ho)
theorem okV_X8_roundOf : okV yX8_roundOf cX8_roundOf 2 (some .int) 1 := ⟨q_1250, q_1251, q_86, q_1252, by unfold okY; decide +kernel⟩
/-! ParticipatoryBudget.paidBy(II)I -/
abbrev rm_X8_paidBy : Room := { frames := 7, cells := 2, slots := 12, locals := 144 }
set_option maxRecDepth 20000 in
set_option maxHeartbeats 4000000 in
theorem z_X8_paidBy {X : Cxt} (hX : okX X cX8_paidBy RX8 rm_X8_paidBy (some .int) 3) (hT : noT X) (M : Mem) (v0 : Nat) (v1 : Int32) (v2 : Int32) : Zj X (fun o : Option Int32 × Mem => Qx X rm_X8_paidBy.cells rm_X8_paidBy.slots (o.1.map fun v => some (.int v)) o.2) 0 0 0 [(0, .ref v0), (1, .int v1), (2, .int v2)] [] M (f_X8_paidBy M v0 v1 v2) := by
  unfold f_X8_paidBy
  refine z_iload_n hX 1 rfl rfl dX8_paidBy_0 ?_
  refine z_aload_n hX 0 rfl rfl dX8_paidBy_1 ?_
  refine z_gFR 8 8 hX (by decide) rfl (by decide) rfl q_425 dX8_paidBy_2 (fun r1 => ?_)
  refine z_gFI 0 1 hX (by decide) rfl (by decide) rfl q_330 dX8_paidBy_5 (fun x2 => ?_)
  refine z_cSx [.int v1, .int x2] hX hT (fun l hl o ho => c_X8_checkIndex l hl M v1 x2 o ho) dX8_paidBy_8 q_1002 okS_X8_checkIndex.1 okS_X8_checkIndex.2.1 okS_X8_checkIndex.2.2.1 okS_X8_checkIndex.2.2.2 rfl ⟨(Nat.le_of_ble_eq_true rfl), (Nat.le_of_ble_eq_true rfl)⟩ rfl (Nat.le_of_ble_eq_true rfl) rfl rfl ⟨(Nat.le_of_ble_eq_true rfl), (Nat.le_of_ble_eq_true rfl)⟩ (Nat.le_of_ble_eq_true rfl) (Nat.le_of_ble_eq_true rfl) (fun M4 => ?_)
  refine z_iload_n hX 2 rfl rfl dX8_paidBy_11 ?_
  refine z_aload_n hX 0 rfl rfl dX8_paidBy_12 ?_
  refine z_gFR 8 8 hX (by decide) rfl (by decide) rfl q_425 dX8_paidBy_13 (fun r5 => ?_)
  refine z_gFI 0 2 hX (by decide) rfl (by decide) rfl q_334 dX8_paidBy_16 (fun x6 => ?_)
  refine z_cSx [.int v2, .int x6] hX hT (fun l hl o ho => c_X8_checkIndex l hl M4 v2 x6 o ho) dX8_paidBy_19 q_1002 okS_X8_checkIndex.1 okS_X8_checkIndex.2.1 okS_X8_checkIndex.2.2.1 okS_X8_checkIndex.2.2.2 rfl ⟨(Nat.le_of_ble_eq_true rfl), (Nat.le_of_ble_eq_true rfl)⟩ rfl (Nat.le_of_ble_eq_true rfl) rfl rfl ⟨(Nat.le_of_ble_eq_true rfl), (Nat.le_of_ble_eq_true rfl)⟩ (Nat.le_of_ble_eq_true rfl) (Nat.le_of_ble_eq_true rfl) (fun M8 => ?_)
  refine z_aload_n hX 0 rfl rfl dX8_paidBy_22 ?_
  refine z_cVAm 8 [] hX (fun l hl o ho => c_X8_equalNow l hl M8 v0 o ho) dX8_paidBy_23 (by decide) rfl rfl q_662 okV_X8_equalNow rfl ⟨(Nat.le_of_ble_eq_true rfl), (Nat.le_of_ble_eq_true rfl)⟩ rfl (Nat.le_of_ble_eq_true rfl) rfl rfl ⟨(Nat.le_of_ble_eq_true rfl), (Nat.le_of_ble_eq_true rfl)⟩ (fun o9 => ?_)
  refine z_gFR 1 0 hX (by decide) rfl (by decide) rfl q_256 dX8_paidBy_26 (fun r10 => ?_)
  refine z_gFR 6 1 hX (by decide) rfl (by decide) rfl q_193 dX8_paidBy_29 (fun r11 => ?_)
  refine z_iload_n hX 1 rfl rfl dX8_paidBy_32 ?_
  refine z_aR hX dX8_paidBy_33 (fun r12 => ?_)
  refine z_iload_n hX 2 rfl rfl dX8_paidBy_34 ?_
  refine z_aI hX dX8_paidBy_35 (fun x13 => ?_)
  exact z_iretX hX dX8_paidBy_36 (Nat.le_of_ble_eq_true rfl) (Nat.le_of_ble_eq_true rfl)
theorem c_X8_paidBy (l : Launch) (hl : l.stackTraces = false) (M : Mem) (v0 : Nat) (v1 : Int32) (v2 : Int32) (o : Option Int32 × Mem) (ho : f_X8_paidBy M v0 v1 v2 = some o) : Cx l yX8_paidBy cX8_paidBy 3 (some .int) rm_X8_paidBy [.ref v0, .int v1, .int v2] M (o.1.map fun v => some (.int v)) o.2 :=
  Cx.of hl (by decide +kernel) (Nat.le_of_ble_eq_true rfl) rfl (fun X hX hT => z_X8_paidBy hX hT M v0 v1 v2 o ho)
theorem okV_X8_paidBy : okV yX8_paidBy cX8_paidBy 3 (some .int) 2 := ⟨q_1145, q_1146, q_86, q_1147, by unfold okY; decide +kernel⟩
/-! ParticipatoryBudget.spentBy(I)I -/
abbrev rm_X8_spentBy : Room := { frames := 7, cells := 1, slots := 6, locals := 144 }
set_option maxRecDepth 20000 in
set_option maxHeartbeats 4000000 in
theorem z_X8_spentBy {X : Cxt} (hX : okX X cX8_spentBy RX8 rm_X8_spentBy (some .int) 5) (hT : noT X) (M : Mem) (v0 : Nat) (v1 : Int32) : Zj X (fun o : Option Int32 × Mem => Qx X rm_X8_spentBy.cells rm_X8_spentBy.slots (o.1.map fun v => some (.int v)) o.2) 0 0 0 [(0, .ref v0), (1, .int v1)] [] M (f_X8_spentBy M v0 v1) := by
  unfold f_X8_spentBy
  refine z_iload_n hX 1 rfl rfl dX8_spentBy_0 ?_
  refine z_aload_n hX 0 rfl rfl dX8_spentBy_1 ?_
  refine z_gFR 8 8 hX (by decide) rfl (by decide) rfl q_425 dX8_spentBy_2 (fun r1 => ?_)
  refine z_gFI 0 2 hX (by decide) rfl (by decide) rfl q_334 dX8_spentBy_5 (fun x2 => ?_)
  refine z_cSx [.int v1, .int x2] hX hT (fun l hl o ho => c_X8_checkIndex l hl M v1 x2 o ho) dX8_spentBy_8 q_1002 okS_X8_checkIndex.1 okS_X8_checkIndex.2.1 okS_X8_checkIndex.2.2.1 okS_X8_checkIndex.2.2.2 rfl ⟨(Nat.le_of_ble_eq_true rfl), (Nat.le_of_ble_eq_true rfl)⟩ rfl (Nat.le_of_ble_eq_true rfl) rfl rfl ⟨(Nat.le_of_ble_eq_true rfl), (Nat.le_of_ble_eq_true rfl)⟩ (Nat.le_of_ble_eq_true rfl) (Nat.le_of_ble_eq_true rfl) (fun M4 => ?_)
  refine z_aload_n hX 0 rfl rfl dX8_spentBy_11 ?_
  refine z_cVAm 8 [] hX (fun l hl o ho => c_X8_equalNow l hl M4 v0 o ho) dX8_spentBy_12 (by decide) rfl rfl q_662 okV_X8_equalNow rfl ⟨(Nat.le_of_ble_eq_true rfl), (Nat.le_of_ble_eq_true rfl)⟩ rfl (Nat.le_of_ble_eq_true rfl) rfl rfl ⟨(Nat.le_of_ble_eq_true rfl), (Nat.le_of_ble_eq_true rfl)⟩ (fun o5 => ?_)
  refine z_gFR 1 0 hX (by decide) rfl (by decide) rfl q_256 dX8_spentBy_15 (fun r6 => ?_)
  refine z_astore_n hX [(2, .ref r6), (0, .ref v0), (1, .int v1)] rfl (by decide) rfl dX8_spentBy_18 ?_
  refine z_iconst (v := 0) hX (by decide) dX8_spentBy_19 ?_
  refine z_istore_n hX [(3, .int 0), (2, .ref r6), (0, .ref v0), (1, .int v1)] rfl (by decide) rfl dX8_spentBy_20 ?_
  refine z_iconst (v := 0) hX (by decide) dX8_spentBy_21 ?_
  refine z_istore hX [(4, .int 0), (3, .int 0), (2, .ref r6), (0, .ref v0), (1, .int v1)] (by decide) rfl dX8_spentBy_22 ?_
  refine z_sub [3, 4, 2, 1, 0] rfl ?_
  refine z_lp (x0 := (0, 0)) (bd_X8_spentBy_24 v0 v1 o5 r6) 24 54 (fun (u7 : Int32 × Int32) => [(0, .ref v0), (1, .int v1), (2, .ref r6), (3, .int u7.1), (4, .int u7.2)]) (fun (e8 : Int32 × Int32) => [(3, .int e8.1)]) (fun (u7 : Int32 × Int32) => o5.2) ?_ ?_
  · intro e8
    refine z_iload_n hX 0 rfl rfl dX8_spentBy_54 ?_
    exact z_iretX hX dX8_spentBy_55 (Nat.le_of_ble_eq_true rfl) (Nat.le_of_ble_eq_true rfl)
  · intro kk9 rc10 hkk9 hrc10 u7
    unfold bd_X8_spentBy_24
    refine z_iload hX 4 rfl dX8_spentBy_24 ?_
    refine z_aload_n hX 0 rfl rfl dX8_spentBy_26 ?_
    refine z_gFR 8 8 hX (by decide) rfl (by decide) rfl q_425 dX8_spentBy_27 (fun r11 => ?_)
    refine z_gFI 0 1 hX (by decide) rfl (by decide) rfl q_330 dX8_spentBy_30 (fun x12 => ?_)
    refine z_icmp_ge hX 54 (by decide) dX8_spentBy_33 (fun _ => ?_) (fun _ => ?_)
    · refine z_sub [3] rfl ?_
      exact hkk9 (u7.1, u7.2)
    · refine z_iload_n hX 3 rfl rfl dX8_spentBy_36 ?_
      refine z_aload_n hX 2 rfl rfl dX8_spentBy_37 ?_
      refine z_gFR 6 1 hX (by decide) rfl (by decide) rfl q_193 dX8_spentBy_38 (fun r13 => ?_)
      refine z_iload hX 4 rfl dX8_spentBy_41 ?_
      refine z_aR hX dX8_spentBy_43 (fun r14 => ?_)
      refine z_iload_n hX 1 rfl rfl dX8_spentBy_44 ?_
      refine z_aI hX dX8_spentBy_45 (fun x15 => ?_)
      refine z_iadd hX dX8_spentBy_46 ?_
      refine z_ltI (fun x16 => ?_)
      refine z_istore_n hX [(3, .int x16), (0, .ref v0), (1, .int v1), (2, .ref r6), (4, .int u7.2)] rfl (by decide) rfl dX8_spentBy_47 ?_
      refine z_iinc hX 4 [(4, .int (u7.2 + 1)), (3, .int x16), (0, .ref v0), (1, .int v1), (2, .ref r6)] rfl rfl (by decide) rfl dX8_spentBy_48 ?_
      refine z_goto hX 24 (by decide) dX8_spentBy_51 ?_
      refine z_sub [2, 3, 4, 1, 0] rfl ?_
      exact hrc10 (x16, u7.2 + 1)
theorem c_X8_spentBy (l : Launch) (hl : l.stackTraces = false) (M : Mem) (v0 : Nat) (v1 : Int32) (o : Option Int32 × Mem) (ho : f_X8_spentBy M v0 v1 = some o) : Cx l yX8_spentBy cX8_spentBy 5 (some .int) rm_X8_spentBy [.ref v0, .int v1] M (o.1.map fun v => some (.int v)) o.2 :=
  Cx.of hl (by decide +kernel) (Nat.le_of_ble_eq_true rfl) rfl (fun X hX hT => z_X8_spentBy hX hT M v0 v1 o ho)
theorem okV_X8_spentBy : okV yX8_spentBy cX8_spentBy 5 (some .int) 1 := ⟨q_1236, q_1237, q_86, q_1238, by unfold okY; decide +kernel⟩
/-! ParticipatoryBudget.payers(I)I -/
abbrev rm_X8_payers : Room := { frames := 7, cells := 1, slots := 6, locals := 144 }
set_option maxRecDepth 20000 in
set_option maxHeartbeats 4000000 in
theorem z_X8_payers {X : Cxt} (hX : okX X cX8_payers RX8 rm_X8_payers (some .int) 5) (hT : noT X) (M : Mem) (v0 : Nat) (v1 : Int32) : Zj X (fun o : Option Int32 × Mem => Qx X rm_X8_payers.cells rm_X8_payers.slots (o.1.map fun v => some (.int v)) o.2) 0 0 0 [(0, .ref v0), (1, .int v1)] [] M (f_X8_payers M v0 v1) := by
  unfold f_X8_payers
  refine z_iload_n hX 1 rfl rfl dX8_payers_0 ?_
  refine z_aload_n hX 0 rfl rfl dX8_payers_1 ?_
  refine z_gFR 8 8 hX (by decide) rfl (by decide) rfl q_425 dX8_payers_2 (fun r1 => ?_)
  refine z_gFI 0 1 hX (by decide) rfl (by decide) rfl q_330 dX8_payers_5 (fun x2 => ?_)
  refine z_cSx [.int v1, .int x2] hX hT (fun l hl o ho => c_X8_checkIndex l hl M v1 x2 o ho) dX8_payers_8 q_1002 okS_X8_checkIndex.1 okS_X8_checkIndex.2.1 okS_X8_checkIndex.2.2.1 okS_X8_checkIndex.2.2.2 rfl ⟨(Nat.le_of_ble_eq_true rfl), (Nat.le_of_ble_eq_true rfl)⟩ rfl (Nat.le_of_ble_eq_true rfl) rfl rfl ⟨(Nat.le_of_ble_eq_true rfl), (Nat.le_of_ble_eq_true rfl)⟩ (Nat.le_of_ble_eq_true rfl) (Nat.le_of_ble_eq_true rfl) (fun M4 => ?_)
  refine z_aload_n hX 0 rfl rfl dX8_payers_11 ?_
  refine z_cVAm 8 [] hX (fun l hl o ho => c_X8_equalNow l hl M4 v0 o ho) dX8_payers_12 (by decide) rfl rfl q_662 okV_X8_equalNow rfl ⟨(Nat.le_of_ble_eq_true rfl), (Nat.le_of_ble_eq_true rfl)⟩ rfl (Nat.le_of_ble_eq_true rfl) rfl rfl ⟨(Nat.le_of_ble_eq_true rfl), (Nat.le_of_ble_eq_true rfl)⟩ (fun o5 => ?_)
  refine z_gFR 1 0 hX (by decide) rfl (by decide) rfl q_256 dX8_payers_15 (fun r6 => ?_)
  refine z_astore_n hX [(2, .ref r6), (0, .ref v0), (1, .int v1)] rfl (by decide) rfl dX8_payers_18 ?_
  refine z_iconst (v := 0) hX (by decide) dX8_payers_19 ?_
  refine z_istore_n hX [(3, .int 0), (2, .ref r6), (0, .ref v0), (1, .int v1)] rfl (by decide) rfl dX8_payers_20 ?_
  refine z_iconst (v := 0) hX (by decide) dX8_payers_21 ?_
  refine z_istore hX [(4, .int 0), (3, .int 0), (2, .ref r6), (0, .ref v0), (1, .int v1)] (by decide) rfl dX8_payers_22 ?_
  refine z_sub [3, 4, 2, 1, 0] rfl ?_
  refine z_lp (x0 := (0, 0)) (bd_X8_payers_24 v0 v1 o5 r6) 24 61 (fun (u7 : Int32 × Int32) => [(0, .ref v0), (1, .int v1), (2, .ref r6), (3, .int u7.1), (4, .int u7.2)]) (fun (e8 : Int32 × Int32) => [(3, .int e8.1)]) (fun (u7 : Int32 × Int32) => o5.2) ?_ ?_
  · intro e8
    refine z_iload_n hX 0 rfl rfl dX8_payers_61 ?_
    exact z_iretX hX dX8_payers_62 (Nat.le_of_ble_eq_true rfl) (Nat.le_of_ble_eq_true rfl)
  · intro kk9 rc10 hkk9 hrc10 u7
    unfold bd_X8_payers_24
    refine z_iload hX 4 rfl dX8_payers_24 ?_
    refine z_aload_n hX 0 rfl rfl dX8_payers_26 ?_
    refine z_gFR 8 8 hX (by decide) rfl (by decide) rfl q_425 dX8_payers_27 (fun r11 => ?_)
    refine z_gFI 0 2 hX (by decide) rfl (by decide) rfl q_334 dX8_payers_30 (fun x12 => ?_)
    refine z_icmp_ge hX 61 (by decide) dX8_payers_33 (fun _ => ?_) (fun _ => ?_)
    · refine z_sub [3] rfl ?_
      exact hkk9 (u7.1, u7.2)
    · refine z_aload_n hX 2 rfl rfl dX8_payers_36 ?_
      refine z_gFR 6 1 hX (by decide) rfl (by decide) rfl q_193 dX8_payers_37 (fun r13 => ?_)
      refine z_iload_n hX 1 rfl rfl dX8_payers_40 ?_
      refine z_aR hX dX8_payers_41 (fun r14 => ?_)
      refine z_iload hX 4 rfl dX8_payers_42 ?_
      refine z_aI hX dX8_payers_44 (fun x15 => ?_)
      refine z_jn (C' := 1) (S' := 6) 55 (fun (j16 : Int32) => [(0, .ref v0), (1, .int v1), (2, .ref r6), (3, .int j16), (4, .int u7.2)]) (fun (j16 : Int32) => []) (fun (j16 : Int32) => o5.2) (fun j16 => ?_) (fun kj16 => ?_)
      · refine z_iinc hX 4 [(4, .int (u7.2 + 1)), (0, .ref v0), (1, .int v1), (2, .ref r6), (3, .int j16)] rfl rfl (by decide) rfl dX8_payers_55 ?_
        refine z_goto hX 24 (by decide) dX8_payers_58 ?_
        refine z_sub [1, 2, 3, 4, 0] rfl ?_
        exact hrc10 (j16, u7.2 + 1)
      · refine z_iteB ?_
        refine z_if_le hX 55 (by decide) dX8_payers_45 (fun _ => ?_) (fun _ => ?_)
        · refine z_pure ?_
          refine z_sub [0, 1, 2, 3, 4] rfl ?_
          exact kj16 u7.1
        · refine z_iload_n hX 3 rfl rfl dX8_payers_48 ?_
          refine z_iconst (v := 1) hX (by decide) dX8_payers_49 ?_
          refine z_iload hX 4 rfl dX8_payers_50 ?_
          refine z_ishl hX dX8_payers_52 ?_
          refine z_ior hX dX8_payers_53 ?_
          refine z_ltB ?_
          refine z_ltI (fun x17 => ?_)
          refine z_istore_n hX [(3, .int x17), (0, .ref v0), (1, .int v1), (2, .ref r6), (4, .int u7.2)] rfl (by decide) rfl dX8_payers_54 ?_
          refine z_pure ?_
          refine z_sub [1, 2, 3, 0, 4] rfl ?_
          exact kj16 x17
theorem c_X8_payers (l : Launch) (hl : l.stackTraces = false) (M : Mem) (v0 : Nat) (v1 : Int32) (o : Option Int32 × Mem) (ho : f_X8_payers M v0 v1 = some o) : Cx l yX8_payers cX8_payers 5 (some .int) rm_X8_payers [.ref v0, .int v1] M (o.1.map fun v => some (.int v)) o.2 :=
  Cx.of hl (by decide +kernel) (Nat.le_of_ble_eq_true rfl) rfl (fun X hX hT => z_X8_payers hX hT M v0 v1 o ho)
theorem okV_X8_payers : okV yX8_payers cX8_payers 5 (some .int) 1 := ⟨q_1243, q_1244, q_86, q_1245, by unfold okY; decide +kernel⟩
/-! ParticipatoryBudget.purseLeft(II)I -/
abbrev rm_X8_purseLeft : Room := { frames := 7, cells := 2, slots := 12, locals := 144 }
set_option maxRecDepth 20000 in
set_option maxHeartbeats 4000000 in
theorem z_X8_purseLeft {X : Cxt} (hX : okX X cX8_purseLeft RX8 rm_X8_purseLeft (some .int) 3) (hT : noT X) (M : Mem) (v0 : Nat) (v1 : Int32) (v2 : Int32) : Zj X (fun o : Option Int32 × Mem => Qx X rm_X8_purseLeft.cells rm_X8_purseLeft.slots (o.1.map fun v => some (.int v)) o.2) 0 0 0 [(0, .ref v0), (1, .int v1), (2, .int v2)] [] M (f_X8_purseLeft M v0 v1 v2) := by
  unfold f_X8_purseLeft
  refine z_iload_n hX 1 rfl rfl dX8_purseLeft_0 ?_
  refine z_aload_n hX 0 rfl rfl dX8_purseLeft_1 ?_
  refine z_gFR 8 8 hX (by decide) rfl (by decide) rfl q_425 dX8_purseLeft_2 (fun r1 => ?_)
  refine z_gFI 0 2 hX (by decide) rfl (by decide) rfl q_334 dX8_purseLeft_5 (fun x2 => ?_)
  refine z_cSx [.int v1, .int x2] hX hT (fun l hl o ho => c_X8_checkIndex l hl M v1 x2 o ho) dX8_purseLeft_8 q_1002 okS_X8_checkIndex.1 okS_X8_checkIndex.2.1 okS_X8_checkIndex.2.2.1 okS_X8_checkIndex.2.2.2 rfl ⟨(Nat.le_of_ble_eq_true rfl), (Nat.le_of_ble_eq_true rfl)⟩ rfl (Nat.le_of_ble_eq_true rfl) rfl rfl ⟨(Nat.le_of_ble_eq_true rfl), (Nat.le_of_ble_eq_true rfl)⟩ (Nat.le_of_ble_eq_true rfl) (Nat.le_of_ble_eq_true rfl) (fun M4 => ?_)
  refine z_iload_n hX 2 rfl rfl dX8_purseLeft_11 ?_
  refine z_aload_n hX 0 rfl rfl dX8_purseLeft_12 ?_
  refine z_gFR 8 8 hX (by decide) rfl (by decide) rfl q_425 dX8_purseLeft_13 (fun r5 => ?_)
  refine z_gFI 0 0 hX (by decide) rfl (by decide) rfl q_323 dX8_purseLeft_16 (fun x6 => ?_)
  refine z_cSx [.int v2, .int x6] hX hT (fun l hl o ho => c_X8_checkIndex l hl M4 v2 x6 o ho) dX8_purseLeft_19 q_1002 okS_X8_checkIndex.1 okS_X8_checkIndex.2.1 okS_X8_checkIndex.2.2.1 okS_X8_checkIndex.2.2.2 rfl ⟨(Nat.le_of_ble_eq_true rfl), (Nat.le_of_ble_eq_true rfl)⟩ rfl (Nat.le_of_ble_eq_true rfl) rfl rfl ⟨(Nat.le_of_ble_eq_true rfl), (Nat.le_of_ble_eq_true rfl)⟩ (Nat.le_of_ble_eq_true rfl) (Nat.le_of_ble_eq_true rfl) (fun M8 => ?_)
  refine z_aload_n hX 0 rfl rfl dX8_purseLeft_22 ?_
  refine z_cVAm 8 [] hX (fun l hl o ho => c_X8_equalNow l hl M8 v0 o ho) dX8_purseLeft_23 (by decide) rfl rfl q_662 okV_X8_equalNow rfl ⟨(Nat.le_of_ble_eq_true rfl), (Nat.le_of_ble_eq_true rfl)⟩ rfl (Nat.le_of_ble_eq_true rfl) rfl rfl ⟨(Nat.le_of_ble_eq_true rfl), (Nat.le_of_ble_eq_true rfl)⟩ (fun o9 => ?_)
  refine z_gFR 1 0 hX (by decide) rfl (by decide) rfl q_256 dX8_purseLeft_26 (fun r10 => ?_)
  refine z_gFR 6 0 hX (by decide) rfl (by decide) rfl q_191 dX8_purseLeft_29 (fun r11 => ?_)
  refine z_iload_n hX 1 rfl rfl dX8_purseLeft_32 ?_
  refine z_aR hX dX8_purseLeft_33 (fun r12 => ?_)
  refine z_iload_n hX 2 rfl rfl dX8_purseLeft_34 ?_
  refine z_aI hX dX8_purseLeft_35 (fun x13 => ?_)
  exact z_iretX hX dX8_purseLeft_36 (Nat.le_of_ble_eq_true rfl) (Nat.le_of_ble_eq_true rfl)
theorem c_X8_purseLeft (l : Launch) (hl : l.stackTraces = false) (M : Mem) (v0 : Nat) (v1 : Int32) (v2 : Int32) (o : Option Int32 × Mem) (ho : f_X8_purseLeft M v0 v1 v2 = some o) : Cx l yX8_purseLeft cX8_purseLeft 3 (some .int) rm_X8_purseLeft [.ref v0, .int v1, .int v2] M (o.1.map fun v => some (.int v)) o.2 :=
  Cx.of hl (by decide +kernel) (Nat.le_of_ble_eq_true rfl) rfl (fun X hX hT => z_X8_purseLeft hX hT M v0 v1 v2 o ho)
theorem okV_X8_purseLeft : okV yX8_purseLeft cX8_purseLeft 3 (some .int) 2 := ⟨q_1166, q_1167, q_86, q_1168, by unfold okY; decide +kernel⟩
/-! ParticipatoryBudget.meansLeft(I)I -/
abbrev rm_X8_meansLeft : Room := { frames := 7, cells := 1, slots := 6, locals := 144 }
set_option maxRecDepth 20000 in
set_option maxHeartbeats 4000000 in
theorem z_X8_meansLeft {X : Cxt} (hX : okX X cX8_meansLeft RX8 rm_X8_meansLeft (some .int) 5) (hT : noT X) (M : Mem) (v0 : Nat) (v1 : Int32) : Zj X (fun o : Option Int32 × Mem => Qx X rm_X8_meansLeft.cells rm_X8_meansLeft.slots (o.1.map fun v => some (.int v)) o.2) 0 0 0 [(0, .ref v0), (1, .int v1)] [] M (f_X8_meansLeft M v0 v1) := by
  unfold f_X8_meansLeft
  refine z_iload_n hX 1 rfl rfl dX8_meansLeft_0 ?_
  refine z_aload_n hX 0 rfl rfl dX8_meansLeft_1 ?_
  refine z_gFR 8 8 hX (by decide) rfl (by decide) rfl q_425 dX8_meansLeft_2 (fun r1 => ?_)
  refine z_gFI 0 1 hX (by decide) rfl (by decide) rfl q_330 dX8_meansLeft_5 (fun x2 => ?_)
  refine z_cSx [.int v1, .int x2] hX hT (fun l hl o ho => c_X8_checkIndex l hl M v1 x2 o ho) dX8_meansLeft_8 q_1002 okS_X8_checkIndex.1 okS_X8_checkIndex.2.1 okS_X8_checkIndex.2.2.1 okS_X8_checkIndex.2.2.2 rfl ⟨(Nat.le_of_ble_eq_true rfl), (Nat.le_of_ble_eq_true rfl)⟩ rfl (Nat.le_of_ble_eq_true rfl) rfl rfl ⟨(Nat.le_of_ble_eq_true rfl), (Nat.le_of_ble_eq_true rfl)⟩ (Nat.le_of_ble_eq_true rfl) (Nat.le_of_ble_eq_true rfl) (fun M4 => ?_)
  refine z_aload_n hX 0 rfl rfl dX8_meansLeft_11 ?_
  refine z_cVAm 8 [] hX (fun l hl o ho => c_X8_equalNow l hl M4 v0 o ho) dX8_meansLeft_12 (by decide) rfl rfl q_662 okV_X8_equalNow rfl ⟨(Nat.le_of_ble_eq_true rfl), (Nat.le_of_ble_eq_true rfl)⟩ rfl (Nat.le_of_ble_eq_true rfl) rfl rfl ⟨(Nat.le_of_ble_eq_true rfl), (Nat.le_of_ble_eq_true rfl)⟩ (fun o5 => ?_)
  refine z_gFR 1 0 hX (by decide) rfl (by decide) rfl q_256 dX8_meansLeft_15 (fun r6 => ?_)
  refine z_astore_n hX [(2, .ref r6), (0, .ref v0), (1, .int v1)] rfl (by decide) rfl dX8_meansLeft_18 ?_
  refine z_iconst (v := 0) hX (by decide) dX8_meansLeft_19 ?_
  refine z_istore_n hX [(3, .int 0), (2, .ref r6), (0, .ref v0), (1, .int v1)] rfl (by decide) rfl dX8_meansLeft_20 ?_
  refine z_iconst (v := 0) hX (by decide) dX8_meansLeft_21 ?_
  refine z_istore hX [(4, .int 0), (3, .int 0), (2, .ref r6), (0, .ref v0), (1, .int v1)] (by decide) rfl dX8_meansLeft_22 ?_
  refine z_sub [3, 4, 2, 1, 0] rfl ?_
  refine z_lp (x0 := (0, 0)) (bd_X8_meansLeft_24 v0 v1 o5 r6) 24 77 (fun (u7 : Int32 × Int32) => [(0, .ref v0), (1, .int v1), (2, .ref r6), (3, .int u7.1), (4, .int u7.2)]) (fun (e8 : Int32 × Int32) => [(3, .int e8.1)]) (fun (u7 : Int32 × Int32) => o5.2) ?_ ?_
  · intro e8
    refine z_iload_n hX 0 rfl rfl dX8_meansLeft_77 ?_
    exact z_iretX hX dX8_meansLeft_78 (Nat.le_of_ble_eq_true rfl) (Nat.le_of_ble_eq_true rfl)
  · intro kk9 rc10 hkk9 hrc10 u7
    unfold bd_X8_meansLeft_24
    refine z_iload hX 4 rfl dX8_meansLeft_24 ?_
    refine z_aload_n hX 0 rfl rfl dX8_meansLeft_26 ?_
    refine z_gFR 8 8 hX (by decide) rfl (by decide) rfl q_425 dX8_meansLeft_27 (fun r11 => ?_)
    refine z_gFI 0 2 hX (by decide) rfl (by decide) rfl q_334 dX8_meansLeft_30 (fun x12 => ?_)
    refine z_icmp_ge hX 77 (by decide) dX8_meansLeft_33 (fun _ => ?_) (fun _ => ?_)
    · refine z_sub [3] rfl ?_
      exact hkk9 (u7.1, u7.2)
    · refine z_aload_n hX 0 rfl rfl dX8_meansLeft_36 ?_
      refine z_gFR 8 8 hX (by decide) rfl (by decide) rfl q_425 dX8_meansLeft_37 (fun r13 => ?_)
      refine z_gFR 0 12 hX (by decide) rfl (by decide) rfl q_383 dX8_meansLeft_40 (fun r14 => ?_)
      refine z_iload_n hX 1 rfl rfl dX8_meansLeft_43 ?_
      refine z_aI hX dX8_meansLeft_44 (fun x15 => ?_)
      refine z_iload hX 4 rfl dX8_meansLeft_45 ?_
      refine z_cSIp [.int x15, .int u7.2] hX (fun l hl o ho => c_X8_has l hl o5.2 x15 u7.2 o ho) dX8_meansLeft_47 q_857 okS_X8_has rfl ⟨(Nat.le_of_ble_eq_true rfl), (Nat.le_of_ble_eq_true rfl)⟩ rfl (Nat.le_of_ble_eq_true rfl) rfl rfl ⟨(Nat.le_of_ble_eq_true rfl), (Nat.le_of_ble_eq_true rfl)⟩ (fun o16 => ?_)
      refine z_jn (C' := 1) (S' := 6) 71 (fun (j17 : Int32) => [(0, .ref v0), (1, .int v1), (2, .ref r6), (3, .int j17), (4, .int u7.2)]) (fun (j17 : Int32) => []) (fun (j17 : Int32) => o5.2) (fun j17 => ?_) (fun kj17 => ?_)
      · refine z_iinc hX 4 [(4, .int (u7.2 + 1)), (0, .ref v0), (1, .int v1), (2, .ref r6), (3, .int j17)] rfl rfl (by decide) rfl dX8_meansLeft_71 ?_
        refine z_goto hX 24 (by decide) dX8_meansLeft_74 ?_
        refine z_sub [1, 2, 3, 4, 0] rfl ?_
        exact hrc10 (j17, u7.2 + 1)
      · refine z_iteB ?_
        refine z_if_eq hX 71 (by decide) dX8_meansLeft_50 (fun _ => ?_) (fun _ => ?_)
        · refine z_pure ?_
          refine z_sub [0, 1, 2, 3, 4] rfl ?_
          exact kj17 u7.1
        · refine z_iload_n hX 3 rfl rfl dX8_meansLeft_53 ?_
          refine z_aload_n hX 2 rfl rfl dX8_meansLeft_54 ?_
          refine z_iload hX 4 rfl dX8_meansLeft_55 ?_
          refine z_aload_n hX 0 rfl rfl dX8_meansLeft_57 ?_
          refine z_asc ?_
          refine z_gFR 8 8 hX (by decide) rfl (by decide) rfl q_425 dX8_meansLeft_58 (fun r18 => ?_)
          refine z_asc ?_
          refine z_gFR 0 7 hX (by decide) rfl (by decide) rfl q_360 dX8_meansLeft_61 (fun r19 => ?_)
          refine z_iload_n hX 1 rfl rfl dX8_meansLeft_64 ?_
          refine z_asc ?_
          refine z_aI hX dX8_meansLeft_65 (fun x20 => ?_)
          refine z_asc ?_
          refine z_asc2 ?_
          refine z_cVIp 6 [.int u7.2, .int x20] hX (fun l hl o ho => c_X6_means l hl o5.2 r6 u7.2 x20 o ho) dX8_meansLeft_66 (by decide) rfl rfl q_771 okV_X6_means rfl ⟨(Nat.le_of_ble_eq_true rfl), (Nat.le_of_ble_eq_true rfl)⟩ rfl (Nat.le_of_ble_eq_true rfl) rfl rfl ⟨(Nat.le_of_ble_eq_true rfl), (Nat.le_of_ble_eq_true rfl)⟩ (fun o21 => ?_)
          refine z_iadd hX dX8_meansLeft_69 ?_
          refine z_ltB ?_
          refine z_ltI (fun x22 => ?_)
          refine z_istore_n hX [(3, .int x22), (0, .ref v0), (1, .int v1), (2, .ref r6), (4, .int u7.2)] rfl (by decide) rfl dX8_meansLeft_70 ?_
          refine z_pure ?_
          refine z_sub [1, 2, 3, 0, 4] rfl ?_
          exact kj17 x22
theorem c_X8_meansLeft (l : Launch) (hl : l.stackTraces = false) (M : Mem) (v0 : Nat) (v1 : Int32) (o : Option Int32 × Mem) (ho : f_X8_meansLeft M v0 v1 = some o) : Cx l yX8_meansLeft cX8_meansLeft 5 (some .int) rm_X8_meansLeft [.ref v0, .int v1] M (o.1.map fun v => some (.int v)) o.2 :=
  Cx.of hl (by decide +kernel) (Nat.le_of_ble_eq_true rfl) rfl (fun X hX hT => z_X8_meansLeft hX hT M v0 v1 o ho)
theorem okV_X8_meansLeft : okV yX8_meansLeft cX8_meansLeft 5 (some .int) 1 := ⟨q_1173, q_1174, q_86, q_1175, by unfold okY; decide +kernel⟩
/-! ParticipatoryBudget.richest()I -/
abbrev rm_X8_richest : Room := { frames := 6, cells := 0, slots := 0, locals := 144 }
set_option maxRecDepth 20000 in
set_option maxHeartbeats 4000000 in
theorem z_X8_richest {X : Cxt} (hX : okX X cX8_richest RX8 rm_X8_richest (some .int) 6) (M : Mem) (v0 : Nat) : Zj X (fun o : Int32 × Mem => Qr X rm_X8_richest.cells rm_X8_richest.slots (some (.int o.1)) o.2) 0 0 0 [(0, .ref v0)] [] M (f_X8_richest M v0) := by
  unfold f_X8_richest
  refine z_aload_n hX 0 rfl rfl dX8_richest_0 ?_
  refine z_cVAm 8 [] hX (fun l hl o ho => c_X8_equalNow l hl M v0 o ho) dX8_richest_1 (by decide) rfl rfl q_662 okV_X8_equalNow rfl ⟨(Nat.le_of_ble_eq_true rfl), (Nat.le_of_ble_eq_true rfl)⟩ rfl (Nat.le_of_ble_eq_true rfl) rfl rfl ⟨(Nat.le_of_ble_eq_true rfl), (Nat.le_of_ble_eq_true rfl)⟩ (fun o1 => ?_)
  refine z_gFR 1 0 hX (by decide) rfl (by decide) rfl q_256 dX8_richest_4 (fun r2 => ?_)
  refine z_astore_n hX [(1, .ref r2), (0, .ref v0)] rfl (by decide) rfl dX8_richest_7 ?_
  refine z_iconst (v := (-1)) hX (by decide) dX8_richest_8 ?_
  refine z_ltI (fun x3 => ?_)
  refine z_istore_n hX [(2, .int x3), (1, .ref r2), (0, .ref v0)] rfl (by decide) rfl dX8_richest_9 ?_
  refine z_iconst (v := 0) hX (by decide) dX8_richest_10 ?_
  refine z_istore_n hX [(3, .int 0), (2, .int x3), (1, .ref r2), (0, .ref v0)] rfl (by decide) rfl dX8_richest_11 ?_
  refine z_iconst (v := 0) hX (by decide) dX8_richest_12 ?_
  refine z_istore hX [(4, .int 0), (3, .int 0), (2, .int x3), (1, .ref r2), (0, .ref v0)] (by decide) rfl dX8_richest_13 ?_
  refine z_sub [4, 3, 2, 1, 0] rfl ?_
  refine z_lp (x0 := (x3, 0, 0)) (bd_X8_richest_15 v0 o1 r2) 15 67 (fun (u4 : Int32 × Int32 × Int32) => [(0, .ref v0), (1, .ref r2), (2, .int u4.1), (3, .int u4.2.1), (4, .int u4.2.2)]) (fun (e5 : Int32 × Int32 × Int32) => [(2, .int e5.1)]) (fun (u4 : Int32 × Int32 × Int32) => o1.2) ?_ ?_
  · intro e5
    refine z_iload_n hX 0 rfl rfl dX8_richest_67 ?_
    exact z_iretM hX dX8_richest_68 (Nat.le_of_ble_eq_true rfl) (Nat.le_of_ble_eq_true rfl)
  · intro kk6 rc7 hkk6 hrc7 u4
    unfold bd_X8_richest_15
    refine z_iload hX 4 rfl dX8_richest_15 ?_
    refine z_aload_n hX 0 rfl rfl dX8_richest_17 ?_
    refine z_gFR 8 8 hX (by decide) rfl (by decide) rfl q_425 dX8_richest_18 (fun r8 => ?_)
    refine z_gFI 0 2 hX (by decide) rfl (by decide) rfl q_334 dX8_richest_21 (fun x9 => ?_)
    refine z_icmp_ge hX 67 (by decide) dX8_richest_24 (fun _ => ?_) (fun _ => ?_)
    · refine z_sub [2] rfl ?_
      exact hkk6 (u4.1, u4.2.1, u4.2.2)
    · refine z_aload_n hX 1 rfl rfl dX8_richest_27 ?_
      refine z_iload hX 4 rfl dX8_richest_28 ?_
      refine z_aload_n hX 0 rfl rfl dX8_richest_30 ?_
      refine z_gFR 8 8 hX (by decide) rfl (by decide) rfl q_425 dX8_richest_31 (fun r10 => ?_)
      refine z_gFR 0 9 hX (by decide) rfl (by decide) rfl q_370 dX8_richest_34 (fun r11 => ?_)
      refine z_iload hX 4 rfl dX8_richest_37 ?_
      refine z_aI hX dX8_richest_39 (fun x12 => ?_)
      refine z_cVIp 6 [.int u4.2.2, .int x12] hX (fun l hl o ho => c_X6_means l hl o1.2 r2 u4.2.2 x12 o ho) dX8_richest_40 (by decide) rfl rfl q_771 okV_X6_means rfl ⟨(Nat.le_of_ble_eq_true rfl), (Nat.le_of_ble_eq_true rfl)⟩ rfl (Nat.le_of_ble_eq_true rfl) rfl rfl ⟨(Nat.le_of_ble_eq_true rfl), (Nat.le_of_ble_eq_true rfl)⟩ (fun o13 => ?_)
      refine z_istore hX [(5, .int o13), (0, .ref v0), (1, .ref r2), (2, .int u4.1), (3, .int u4.2.1), (4, .int u4.2.2)] (by decide) rfl dX8_richest_43 ?_
      refine z_iload_n hX 3 rfl rfl dX8_richest_45 ?_
      refine z_jn (C' := 0) (S' := 0) 61 (fun (j14 : Int32 × Int32) => [(0, .ref v0), (1, .ref r2), (2, .int j14.1), (3, .int j14.2), (4, .int u4.2.2)]) (fun (j14 : Int32 × Int32) => []) (fun (j14 : Int32 × Int32) => o1.2) (fun j14 => ?_) (fun kj14 => ?_)
      · refine z_iinc hX 4 [(4, .int (u4.2.2 + 1)), (0, .ref v0), (1, .ref r2), (2, .int j14.1), (3, .int j14.2)] rfl rfl (by decide) rfl dX8_richest_61 ?_
        refine z_goto hX 15 (by decide) dX8_richest_64 ?_
        refine z_sub [1, 2, 3, 4, 0] rfl ?_
        exact hrc7 (j14.1, j14.2, u4.2.2 + 1)
      · refine z_iteB ?_
        refine z_if_lt hX 55 (by decide) dX8_richest_46 (fun _ => ?_) (fun _ => ?_)
        · refine z_iload hX 5 rfl dX8_richest_55 ?_
          refine z_istore_n hX [(2, .int u4.2.2), (5, .int o13), (0, .ref v0), (1, .ref r2), (3, .int u4.2.1), (4, .int u4.2.2)] rfl (by decide) rfl dX8_richest_57 ?_
          refine z_iload hX 1 rfl dX8_richest_58 ?_
          refine z_istore_n hX [(3, .int o13), (2, .int u4.2.2), (5, .int o13), (0, .ref v0), (1, .ref r2), (4, .int u4.2.2)] rfl (by decide) rfl dX8_richest_60 ?_
          refine z_pure ?_
          refine z_sub [3, 4, 1, 0, 5] rfl ?_
          exact kj14 (u4.2.2, o13)
        · refine z_iload hX 0 rfl dX8_richest_49 ?_
          refine z_iload_n hX 4 rfl rfl dX8_richest_51 ?_
          refine z_iteB ?_
          refine z_icmp_le hX 61 (by decide) dX8_richest_52 (fun _ => ?_) (fun _ => ?_)
          · refine z_pure ?_
            refine z_sub [1, 2, 3, 4, 5] rfl ?_
            exact kj14 (u4.1, u4.2.1)
          · refine z_iload hX 5 rfl dX8_richest_55 ?_
            refine z_istore_n hX [(2, .int u4.2.2), (5, .int o13), (0, .ref v0), (1, .ref r2), (3, .int u4.2.1), (4, .int u4.2.2)] rfl (by decide) rfl dX8_richest_57 ?_
            refine z_iload hX 1 rfl dX8_richest_58 ?_
            refine z_istore_n hX [(3, .int o13), (2, .int u4.2.2), (5, .int o13), (0, .ref v0), (1, .ref r2), (4, .int u4.2.2)] rfl (by decide) rfl dX8_richest_60 ?_
            refine z_pure ?_
            refine z_sub [3, 4, 1, 0, 5] rfl ?_
            exact kj14 (u4.2.2, o13)
theorem c_X8_richest (l : Launch) (hl : l.stackTraces = false) (M : Mem) (v0 : Nat) (o : Int32 × Mem) (ho : f_X8_richest M v0 = some o) : Ct l yX8_richest cX8_richest 6 (some .int) rm_X8_richest [.ref v0] M (some (.int o.1)) o.2 :=
  Ct.of hl (by decide +kernel) (Nat.le_of_ble_eq_true rfl) rfl (fun X hX hin => z_X8_richest hX M v0 o ho)
theorem okV_X8_richest : okV yX8_richest cX8_richest 6 (some .int) 0 := ⟨q_659, q_660, q_86, q_661, by unfold okY; decide +kernel⟩
/-! ParticipatoryBudget.raises()I -/
abbrev rm_X8_raises : Room := { frames := 6, cells := 0, slots := 0, locals := 144 }
set_option maxRecDepth 20000 in
set_option maxHeartbeats 4000000 in
theorem z_X8_raises {X : Cxt} (hX : okX X cX8_raises RX8 rm_X8_raises (some .int) 1) (M : Mem) (v0 : Nat) : Zj X (fun o : Int32 × Mem => Qr X rm_X8_raises.cells rm_X8_raises.slots (some (.int o.1)) o.2) 0 0 0 [(0, .ref v0)] [] M (f_X8_raises M v0) := by
  unfold f_X8_raises
  refine z_aload_n hX 0 rfl rfl dX8_raises_0 ?_
  refine z_cVAm 8 [] hX (fun l hl o ho => c_X8_equalNow l hl M v0 o ho) dX8_raises_1 (by decide) rfl rfl q_662 okV_X8_equalNow rfl ⟨(Nat.le_of_ble_eq_true rfl), (Nat.le_of_ble_eq_true rfl)⟩ rfl (Nat.le_of_ble_eq_true rfl) rfl rfl ⟨(Nat.le_of_ble_eq_true rfl), (Nat.le_of_ble_eq_true rfl)⟩ (fun o1 => ?_)
  refine z_gFI 1 4 hX (by decide) rfl (by decide) rfl q_263 dX8_raises_4 (fun x2 => ?_)
  exact z_iretM hX dX8_raises_7 (Nat.le_of_ble_eq_true rfl) (Nat.le_of_ble_eq_true rfl)
theorem c_X8_raises (l : Launch) (hl : l.stackTraces = false) (M : Mem) (v0 : Nat) (o : Int32 × Mem) (ho : f_X8_raises M v0 = some o) : Ct l yX8_raises cX8_raises 1 (some .int) rm_X8_raises [.ref v0] M (some (.int o.1)) o.2 :=
  Ct.of hl (by decide +kernel) (Nat.le_of_ble_eq_true rfl) rfl (fun X hX hin => z_X8_raises hX M v0 o ho)
theorem okV_X8_raises : okV yX8_raises cX8_raises 1 (some .int) 0 := ⟨q_773, q_774, q_86, q_775, by unfold okY; decide +kernel⟩
/-! ParticipatoryBudget.completed()I -/
abbrev rm_X8_completed : Room := { frames := 6, cells := 0, slots := 0, locals := 144 }
set_option maxRecDepth 20000 in
set_option maxHeartbeats 4000000 in
theorem z_X8_completed {X : Cxt} (hX : okX X cX8_completed RX8 rm_X8_completed (some .int) 2) (M : Mem) (v0 : Nat) : Zj X (fun o : Int32 × Mem => Qr X rm_X8_completed.cells rm_X8_completed.slots (some (.int o.1)) o.2) 0 0 0 [(0, .ref v0)] [] M (f_X8_completed M v0) := by
  unfold f_X8_completed
  refine z_aload_n hX 0 rfl rfl dX8_completed_0 ?_
  refine z_cVAm 8 [] hX (fun l hl o ho => c_X8_equalNow l hl M v0 o ho) dX8_completed_1 (by decide) rfl rfl q_662 okV_X8_equalNow rfl ⟨(Nat.le_of_ble_eq_true rfl), (Nat.le_of_ble_eq_true rfl)⟩ rfl (Nat.le_of_ble_eq_true rfl) rfl rfl ⟨(Nat.le_of_ble_eq_true rfl), (Nat.le_of_ble_eq_true rfl)⟩ (fun o1 => ?_)
  refine z_astore_n hX [(1, .ref o1.1), (0, .ref v0)] rfl (by decide) rfl dX8_completed_4 ?_
  refine z_aload_n hX 0 rfl rfl dX8_completed_5 ?_
  refine z_cVIp 1 [] hX (fun l hl o ho => c_X1_chosen l hl o1.2 o1.1 o ho) dX8_completed_6 (by decide) rfl rfl q_780 okV_X1_chosen rfl ⟨(Nat.le_of_ble_eq_true rfl), (Nat.le_of_ble_eq_true rfl)⟩ rfl (Nat.le_of_ble_eq_true rfl) rfl rfl ⟨(Nat.le_of_ble_eq_true rfl), (Nat.le_of_ble_eq_true rfl)⟩ (fun o2 => ?_)
  refine z_aload_n hX 0 rfl rfl dX8_completed_9 ?_
  refine z_gFI 1 5 hX (by decide) rfl (by decide) rfl q_265 dX8_completed_10 (fun x3 => ?_)
  refine z_iconst (v := (-1)) hX (by decide) dX8_completed_13 ?_
  refine z_ixor hX dX8_completed_14 ?_
  refine z_iand hX dX8_completed_15 ?_
  refine z_cSIp [.int (o2 &&& (x3 ^^^ (-1)))] hX (fun l hl o ho => c_J6_bitCount_0f7a4 l hl o1.2 (o2 &&& (x3 ^^^ (-1))) o ho) dX8_completed_16 q_784 okS_J6_bitCount_0f7a4 rfl ⟨(Nat.le_of_ble_eq_true rfl), (Nat.le_of_ble_eq_true rfl)⟩ rfl (Nat.le_of_ble_eq_true rfl) rfl rfl ⟨(Nat.le_of_ble_eq_true rfl), (Nat.le_of_ble_eq_true rfl)⟩ (fun o4 => ?_)
  exact z_iretM hX dX8_completed_19 (Nat.le_of_ble_eq_true rfl) (Nat.le_of_ble_eq_true rfl)
theorem c_X8_completed (l : Launch) (hl : l.stackTraces = false) (M : Mem) (v0 : Nat) (o : Int32 × Mem) (ho : f_X8_completed M v0 = some o) : Ct l yX8_completed cX8_completed 2 (some .int) rm_X8_completed [.ref v0] M (some (.int o.1)) o.2 :=
  Ct.of hl (by decide +kernel) (Nat.le_of_ble_eq_true rfl) rfl (fun X hX hin => z_X8_completed hX M v0 o ho)
theorem okV_X8_completed : okV yX8_completed cX8_completed 2 (some .int) 0 := ⟨q_777, q_778, q_86, q_779, by unfold okY; decide +kernel⟩
/-! ParticipatoryBudget.isRule(I)Z -/
abbrev rm_X8_isRule : Room := { frames := 0, cells := 0, slots := 0, locals := 0 }
set_option maxRecDepth 20000 in
set_option maxHeartbeats 4000000 in
theorem z_X8_isRule {X : Cxt} (hX : okX X cX8_isRule RX8 rm_X8_isRule (some .boolean) 1) (M : Mem) (v0 : Int32) : Zj X (fun o : Int32 => Qr X rm_X8_isRule.cells rm_X8_isRule.slots (some (.int o)) M) 0 0 0 [(0, .int v0)] [] M (f_X8_isRule M v0) := by
  unfold f_X8_isRule
  refine z_iload_n hX 0 rfl rfl dX8_isRule_0 ?_
  refine z_jn (C' := 0) (S' := 0) 19 (fun (j1 : Int32) => []) (fun (j1 : Int32) => [.int j1]) (fun (j1 : Int32) => M) (fun j1 => ?_) (fun kj1 => ?_)
  · exact z_zretP hX dX8_isRule_19 (Nat.le_of_ble_eq_true rfl) (Nat.le_of_ble_eq_true rfl)
  · refine z_iteB ?_
    refine z_if_eq hX 14 (by decide) dX8_isRule_1 (fun _ => ?_) (fun _ => ?_)
    · refine z_iconst (v := 1) hX (by decide) dX8_isRule_14 ?_
      refine z_goto hX 19 (by decide) dX8_isRule_15 ?_
      refine z_pure ?_
      refine z_sub [] rfl ?_
      exact kj1 1
    · refine z_iload_n hX 0 rfl rfl dX8_isRule_4 ?_
      refine z_iconst (v := 1) hX (by decide) dX8_isRule_5 ?_
      refine z_iteB ?_
      refine z_icmp_eq hX 14 (by decide) dX8_isRule_6 (fun _ => ?_) (fun _ => ?_)
      · refine z_iconst (v := 1) hX (by decide) dX8_isRule_14 ?_
        refine z_goto hX 19 (by decide) dX8_isRule_15 ?_
        refine z_pure ?_
        refine z_sub [] rfl ?_
        exact kj1 1
      · refine z_iload_n hX 0 rfl rfl dX8_isRule_9 ?_
        refine z_iconst (v := 2) hX (by decide) dX8_isRule_10 ?_
        refine z_iteB ?_
        refine z_icmp_ne hX 18 (by decide) dX8_isRule_11 (fun _ => ?_) (fun _ => ?_)
        · refine z_iconst (v := 0) hX (by decide) dX8_isRule_18 ?_
          refine z_pure ?_
          refine z_sub [] rfl ?_
          exact kj1 0
        · refine z_iconst (v := 1) hX (by decide) dX8_isRule_14 ?_
          refine z_goto hX 19 (by decide) dX8_isRule_15 ?_
          refine z_pure ?_
          refine z_sub [] rfl ?_
          exact kj1 1
theorem c_X8_isRule (l : Launch) (hl : l.stackTraces = false) (M : Mem) (v0 : Int32) (o : Int32) (ho : f_X8_isRule M v0 = some o) : Ct l yX8_isRule cX8_isRule 1 (some .boolean) rm_X8_isRule [.int v0] M (some (.int o)) M :=
  Ct.of hl (by decide +kernel) (Nat.le_of_ble_eq_true rfl) rfl (fun X hX hin => z_X8_isRule hX M v0 o ho)
theorem okS_X8_isRule : okS yX8_isRule cX8_isRule 1 (some .boolean) 1 := ⟨q_795, q_86, q_796, by unfold okY; decide +kernel⟩
/-! ParticipatoryBudget.greedyNow()LParticipatoryBudget$Greedy; -/
abbrev rm_X8_greedyNow : Room := { frames := 4, cells := 0, slots := 0, locals := 93 }
set_option maxRecDepth 20000 in
set_option maxHeartbeats 4000000 in
theorem z_X8_greedyNow {X : Cxt} (hX : okX X cX8_greedyNow RX8 rm_X8_greedyNow (some (.object "ParticipatoryBudget$Greedy")) 1) (M : Mem) (v0 : Nat) : Zj X (fun o : Nat × Mem => Qr X rm_X8_greedyNow.cells rm_X8_greedyNow.slots (some (.ref o.1)) o.2) 0 0 0 [(0, .ref v0)] [] M (f_X8_greedyNow M v0) := by
  unfold f_X8_greedyNow
  refine z_aload_n hX 0 rfl rfl dX8_greedyNow_0 ?_
  refine z_gFI 8 13 hX (by decide) rfl (by decide) rfl q_430 dX8_greedyNow_1 (fun x1 => ?_)
  refine z_jn (C' := 0) (S' := 0) 23 (fun (j2 : Mem) => [(0, .ref v0)]) (fun (j2 : Mem) => []) (fun (j2 : Mem) => j2) (fun j2 => ?_) (fun kj2 => ?_)
  · refine z_aload_n hX 0 rfl rfl dX8_greedyNow_23 ?_
    refine z_gFR 8 5 hX (by decide) rfl (by decide) rfl q_422 dX8_greedyNow_24 (fun r3 => ?_)
    exact z_aretM hX (Or.inl ⟨_, rfl⟩) dX8_greedyNow_27 (Nat.le_of_ble_eq_true rfl) (Nat.le_of_ble_eq_true rfl)
  · refine z_iteB ?_
    refine z_if_ne hX 23 (by decide) dX8_greedyNow_4 (fun _ => ?_) (fun _ => ?_)
    · refine z_pure ?_
      refine z_sub [0] rfl ?_
      exact kj2 M
    · refine z_aload_n hX 0 rfl rfl dX8_greedyNow_7 ?_
      refine z_asc ?_
      refine z_gFR 8 5 hX (by decide) rfl (by decide) rfl q_422 dX8_greedyNow_8 (fun r4 => ?_)
      refine z_aload_n hX 0 rfl rfl dX8_greedyNow_11 ?_
      refine z_asc ?_
      refine z_gFR 8 8 hX (by decide) rfl (by decide) rfl q_425 dX8_greedyNow_12 (fun r5 => ?_)
      refine z_asc ?_
      refine z_asc2 ?_
      refine z_cVVm 2 [.ref r5] hX (fun l hl o ho => c_X2_decide l hl M r4 r5 o ho) dX8_greedyNow_15 (by decide) rfl rfl q_805 okV_X2_decide rfl ⟨(Nat.le_of_ble_eq_true rfl), (Nat.le_of_ble_eq_true rfl)⟩ rfl (Nat.le_of_ble_eq_true rfl) rfl rfl ⟨(Nat.le_of_ble_eq_true rfl), (Nat.le_of_ble_eq_true rfl)⟩ (fun o6 => ?_)
      refine z_aload_n hX 0 rfl rfl dX8_greedyNow_18 ?_
      refine z_iconst (v := 1) hX (by decide) dX8_greedyNow_19 ?_
      refine z_asc ?_
      refine z_pFI 8 13 hX (by decide) rfl (by decide) rfl q_430 rfl pd_12 rfl rfl dX8_greedyNow_20 (fun M7 => ?_)
      refine z_pure ?_
      refine z_sub [0] rfl ?_
      exact kj2 M7
theorem c_X8_greedyNow (l : Launch) (hl : l.stackTraces = false) (M : Mem) (v0 : Nat) (o : Nat × Mem) (ho : f_X8_greedyNow M v0 = some o) : Ct l yX8_greedyNow cX8_greedyNow 1 (some (.object "ParticipatoryBudget$Greedy")) rm_X8_greedyNow [.ref v0] M (some (.ref o.1)) o.2 :=
  Ct.of hl (by decide +kernel) (Nat.le_of_ble_eq_true rfl) rfl (fun X hX hin => z_X8_greedyNow hX M v0 o ho)
theorem okV_X8_greedyNow : okV yX8_greedyNow cX8_greedyNow 1 (some (.object "ParticipatoryBudget$Greedy")) 0 := ⟨q_803, q_18, q_86, q_804, by unfold okY; decide +kernel⟩
/-! ParticipatoryBudget.optimumNow()LParticipatoryBudget$Optimum; -/
abbrev rm_X8_optimumNow : Room := { frames := 2, cells := 0, slots := 0, locals := 47 }
set_option maxRecDepth 20000 in
set_option maxHeartbeats 4000000 in
theorem z_X8_optimumNow {X : Cxt} (hX : okX X cX8_optimumNow RX8 rm_X8_optimumNow (some (.object "ParticipatoryBudget$Optimum")) 1) (M : Mem) (v0 : Nat) : Zj X (fun o : Nat × Mem => Qr X rm_X8_optimumNow.cells rm_X8_optimumNow.slots (some (.ref o.1)) o.2) 0 0 0 [(0, .ref v0)] [] M (f_X8_optimumNow M v0) := by
  unfold f_X8_optimumNow
  refine z_aload_n hX 0 rfl rfl dX8_optimumNow_0 ?_
  refine z_gFI 8 14 hX (by decide) rfl (by decide) rfl q_431 dX8_optimumNow_1 (fun x1 => ?_)
  refine z_jn (C' := 0) (S' := 0) 35 (fun (j2 : Mem) => [(0, .ref v0)]) (fun (j2 : Mem) => []) (fun (j2 : Mem) => j2) (fun j2 => ?_) (fun kj2 => ?_)
  · refine z_aload_n hX 0 rfl rfl dX8_optimumNow_35 ?_
    refine z_gFR 8 7 hX (by decide) rfl (by decide) rfl q_424 dX8_optimumNow_36 (fun r3 => ?_)
    exact z_aretM hX (Or.inl ⟨_, rfl⟩) dX8_optimumNow_39 (Nat.le_of_ble_eq_true rfl) (Nat.le_of_ble_eq_true rfl)
  · refine z_iteB ?_
    refine z_if_ne hX 35 (by decide) dX8_optimumNow_4 (fun _ => ?_) (fun _ => ?_)
    · refine z_pure ?_
      refine z_sub [0] rfl ?_
      exact kj2 M
    · refine z_aload_n hX 0 rfl rfl dX8_optimumNow_7 ?_
      refine z_asc ?_
      refine z_gFR 8 7 hX (by decide) rfl (by decide) rfl q_424 dX8_optimumNow_8 (fun r4 => ?_)
      refine z_aload_n hX 0 rfl rfl dX8_optimumNow_11 ?_
      refine z_asc ?_
      refine z_gFR 8 8 hX (by decide) rfl (by decide) rfl q_425 dX8_optimumNow_12 (fun r5 => ?_)
      refine z_asc ?_
      refine z_asc2 ?_
      refine z_cVVm 4 [.ref r5] hX (fun l hl o ho => c_X4_prepare l hl M r4 r5 o ho) dX8_optimumNow_15 (by decide) rfl rfl q_820 okV_X4_prepare rfl ⟨(Nat.le_of_ble_eq_true rfl), (Nat.le_of_ble_eq_true rfl)⟩ rfl (Nat.le_of_ble_eq_true rfl) rfl rfl ⟨(Nat.le_of_ble_eq_true rfl), (Nat.le_of_ble_eq_true rfl)⟩ (fun o6 => ?_)
      refine z_aload_n hX 0 rfl rfl dX8_optimumNow_18 ?_
      refine z_aload_n hX 0 rfl rfl dX8_optimumNow_19 ?_
      refine z_asc ?_
      refine z_gFR 8 7 hX (by decide) rfl (by decide) rfl q_424 dX8_optimumNow_20 (fun r7 => ?_)
      refine z_iconst (v := 0) hX (by decide) dX8_optimumNow_23 ?_
      refine z_asc ?_
      refine z_asc2 ?_
      refine z_cVIp 4 [.int 0] hX (fun l hl o ho => c_X4_best l hl o6 r7 0 o ho) dX8_optimumNow_24 (by decide) rfl rfl q_831 okV_X4_best rfl ⟨(Nat.le_of_ble_eq_true rfl), (Nat.le_of_ble_eq_true rfl)⟩ rfl (Nat.le_of_ble_eq_true rfl) rfl rfl ⟨(Nat.le_of_ble_eq_true rfl), (Nat.le_of_ble_eq_true rfl)⟩ (fun o8 => ?_)
      refine z_asc ?_
      refine z_pFI 8 11 hX (by decide) rfl (by decide) rfl q_428 rfl pd_1 rfl rfl dX8_optimumNow_27 (fun M9 => ?_)
      refine z_aload_n hX 0 rfl rfl dX8_optimumNow_30 ?_
      refine z_iconst (v := 1) hX (by decide) dX8_optimumNow_31 ?_
      refine z_asc ?_
      refine z_pFI 8 14 hX (by decide) rfl (by decide) rfl q_431 rfl pd_12 rfl rfl dX8_optimumNow_32 (fun M10 => ?_)
      refine z_pure ?_
      refine z_sub [0] rfl ?_
      exact kj2 M10
theorem c_X8_optimumNow (l : Launch) (hl : l.stackTraces = false) (M : Mem) (v0 : Nat) (o : Nat × Mem) (ho : f_X8_optimumNow M v0 = some o) : Ct l yX8_optimumNow cX8_optimumNow 1 (some (.object "ParticipatoryBudget$Optimum")) rm_X8_optimumNow [.ref v0] M (some (.ref o.1)) o.2 :=
  Ct.of hl (by decide +kernel) (Nat.le_of_ble_eq_true rfl) rfl (fun X hX hin => z_X8_optimumNow hX M v0 o ho)
theorem okV_X8_optimumNow : okV yX8_optimumNow cX8_optimumNow 1 (some (.object "ParticipatoryBudget$Optimum")) 0 := ⟨q_818, q_20, q_86, q_819, by unfold okY; decide +kernel⟩
