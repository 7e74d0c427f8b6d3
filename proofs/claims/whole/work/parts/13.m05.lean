/-! ParticipatoryBudget.setBudget(II)I -/
abbrev rm_X8_setBudget : Room := { frames := 4, cells := 0, slots := 0, locals := 110 }
set_option maxRecDepth 20000 in
set_option maxHeartbeats 4000000 in
theorem z_X8_setBudget {X : Cxt} (hX : okX X cX8_setBudget RX8 rm_X8_setBudget (some .int) 3) (M : Mem) (v0 : Nat) (v1 : Int32) (v2 : Int32) : Zj X (fun o : Int32 × Mem => Qr X rm_X8_setBudget.cells rm_X8_setBudget.slots (some (.int o.1)) o.2) 0 0 0 [(0, .ref v0), (1, .int v1), (2, .int v2)] [] M (f_X8_setBudget M v0 v1 v2) := by
  unfold f_X8_setBudget
  refine z_iload_n hX 1 rfl rfl dX8_setBudget_0 ?_
  refine z_aload_n hX 0 rfl rfl dX8_setBudget_1 ?_
  refine z_gFR 8 8 hX (by decide) rfl (by decide) rfl q_425 dX8_setBudget_2 (fun r1 => ?_)
  refine z_gFI 0 0 hX (by decide) rfl (by decide) rfl q_323 dX8_setBudget_5 (fun x2 => ?_)
  refine z_cSIp [.int v1, .int x2] hX (fun l hl o ho => c_X8_isIndex l hl M v1 x2 o ho) dX8_setBudget_8 q_657 okS_X8_isIndex rfl ⟨(Nat.le_of_ble_eq_true rfl), (Nat.le_of_ble_eq_true rfl)⟩ rfl (Nat.le_of_ble_eq_true rfl) rfl rfl ⟨(Nat.le_of_ble_eq_true rfl), (Nat.le_of_ble_eq_true rfl)⟩ (fun o3 => ?_)
  refine z_if_ne hX 16 (by decide) dX8_setBudget_11 (fun _ => ?_) (fun _ => ?_)
  · refine z_iload_n hX 2 rfl rfl dX8_setBudget_16 ?_
    refine z_if_lt hX 27 (by decide) dX8_setBudget_17 (fun _ => ?_) (fun _ => ?_)
    · refine z_bipush (v := (-2)) hX (by decide) dX8_setBudget_27 ?_
      exact z_iretM hX dX8_setBudget_29 (Nat.le_of_ble_eq_true rfl) (Nat.le_of_ble_eq_true rfl)
    · refine z_iload_n hX 2 rfl rfl dX8_setBudget_20 ?_
      refine z_ldcw (v := 100000) hX q_944 dX8_setBudget_21 ?_
      refine z_icmp_le hX 30 (by decide) dX8_setBudget_24 (fun _ => ?_) (fun _ => ?_)
      · refine z_aload_n hX 0 rfl rfl dX8_setBudget_30 ?_
        refine z_iconst (v := 0) hX (by decide) dX8_setBudget_31 ?_
        refine z_iload_n hX 1 rfl rfl dX8_setBudget_32 ?_
        refine z_iload_n hX 2 rfl rfl dX8_setBudget_33 ?_
        refine z_cVIm 8 [.int 0, .int v1, .int v2] hX (fun l hl o ho => c_X8_change l hl M v0 0 v1 v2 o ho) dX8_setBudget_34 (by decide) rfl rfl q_945 okV_X8_change rfl ⟨(Nat.le_of_ble_eq_true rfl), (Nat.le_of_ble_eq_true rfl)⟩ rfl (Nat.le_of_ble_eq_true rfl) rfl rfl ⟨(Nat.le_of_ble_eq_true rfl), (Nat.le_of_ble_eq_true rfl)⟩ (fun o4 => ?_)
        exact z_iretM hX dX8_setBudget_37 (Nat.le_of_ble_eq_true rfl) (Nat.le_of_ble_eq_true rfl)
      · refine z_bipush (v := (-2)) hX (by decide) dX8_setBudget_27 ?_
        exact z_iretM hX dX8_setBudget_29 (Nat.le_of_ble_eq_true rfl) (Nat.le_of_ble_eq_true rfl)
  · refine z_iconst (v := (-1)) hX (by decide) dX8_setBudget_14 ?_
    exact z_iretM hX dX8_setBudget_15 (Nat.le_of_ble_eq_true rfl) (Nat.le_of_ble_eq_true rfl)
theorem c_X8_setBudget (l : Launch) (hl : l.stackTraces = false) (M : Mem) (v0 : Nat) (v1 : Int32) (v2 : Int32) (o : Int32 × Mem) (ho : f_X8_setBudget M v0 v1 v2 = some o) : Ct l yX8_setBudget cX8_setBudget 3 (some .int) rm_X8_setBudget [.ref v0, .int v1, .int v2] M (some (.int o.1)) o.2 :=
  Ct.of hl (by decide +kernel) (Nat.le_of_ble_eq_true rfl) rfl (fun X hX hin => z_X8_setBudget hX M v0 v1 v2 o ho)
theorem okV_X8_setBudget : okV yX8_setBudget cX8_setBudget 3 (some .int) 2 := ⟨q_941, q_942, q_86, q_943, by unfold okY; decide +kernel⟩
/-! ParticipatoryBudget.setCost(II)I -/
abbrev rm_X8_setCost : Room := { frames := 4, cells := 0, slots := 0, locals := 110 }
set_option maxRecDepth 20000 in
set_option maxHeartbeats 4000000 in
theorem z_X8_setCost {X : Cxt} (hX : okX X cX8_setCost RX8 rm_X8_setCost (some .int) 3) (M : Mem) (v0 : Nat) (v1 : Int32) (v2 : Int32) : Zj X (fun o : Int32 × Mem => Qr X rm_X8_setCost.cells rm_X8_setCost.slots (some (.int o.1)) o.2) 0 0 0 [(0, .ref v0), (1, .int v1), (2, .int v2)] [] M (f_X8_setCost M v0 v1 v2) := by
  unfold f_X8_setCost
  refine z_iload_n hX 1 rfl rfl dX8_setCost_0 ?_
  refine z_aload_n hX 0 rfl rfl dX8_setCost_1 ?_
  refine z_gFR 8 8 hX (by decide) rfl (by decide) rfl q_425 dX8_setCost_2 (fun r1 => ?_)
  refine z_gFI 0 1 hX (by decide) rfl (by decide) rfl q_330 dX8_setCost_5 (fun x2 => ?_)
  refine z_cSIp [.int v1, .int x2] hX (fun l hl o ho => c_X8_isIndex l hl M v1 x2 o ho) dX8_setCost_8 q_657 okS_X8_isIndex rfl ⟨(Nat.le_of_ble_eq_true rfl), (Nat.le_of_ble_eq_true rfl)⟩ rfl (Nat.le_of_ble_eq_true rfl) rfl rfl ⟨(Nat.le_of_ble_eq_true rfl), (Nat.le_of_ble_eq_true rfl)⟩ (fun o3 => ?_)
  refine z_if_ne hX 16 (by decide) dX8_setCost_11 (fun _ => ?_) (fun _ => ?_)
  · refine z_iload_n hX 2 rfl rfl dX8_setCost_16 ?_
    refine z_iconst (v := 1) hX (by decide) dX8_setCost_17 ?_
    refine z_icmp_lt hX 28 (by decide) dX8_setCost_18 (fun _ => ?_) (fun _ => ?_)
    · refine z_bipush (v := (-2)) hX (by decide) dX8_setCost_28 ?_
      exact z_iretM hX dX8_setCost_30 (Nat.le_of_ble_eq_true rfl) (Nat.le_of_ble_eq_true rfl)
    · refine z_iload_n hX 2 rfl rfl dX8_setCost_21 ?_
      refine z_ldcw (v := 100000) hX q_944 dX8_setCost_22 ?_
      refine z_icmp_le hX 31 (by decide) dX8_setCost_25 (fun _ => ?_) (fun _ => ?_)
      · refine z_aload_n hX 0 rfl rfl dX8_setCost_31 ?_
        refine z_iconst (v := 1) hX (by decide) dX8_setCost_32 ?_
        refine z_iload_n hX 1 rfl rfl dX8_setCost_33 ?_
        refine z_iload_n hX 2 rfl rfl dX8_setCost_34 ?_
        refine z_cVIm 8 [.int 1, .int v1, .int v2] hX (fun l hl o ho => c_X8_change l hl M v0 1 v1 v2 o ho) dX8_setCost_35 (by decide) rfl rfl q_945 okV_X8_change rfl ⟨(Nat.le_of_ble_eq_true rfl), (Nat.le_of_ble_eq_true rfl)⟩ rfl (Nat.le_of_ble_eq_true rfl) rfl rfl ⟨(Nat.le_of_ble_eq_true rfl), (Nat.le_of_ble_eq_true rfl)⟩ (fun o4 => ?_)
        exact z_iretM hX dX8_setCost_38 (Nat.le_of_ble_eq_true rfl) (Nat.le_of_ble_eq_true rfl)
      · refine z_bipush (v := (-2)) hX (by decide) dX8_setCost_28 ?_
        exact z_iretM hX dX8_setCost_30 (Nat.le_of_ble_eq_true rfl) (Nat.le_of_ble_eq_true rfl)
  · refine z_iconst (v := (-1)) hX (by decide) dX8_setCost_14 ?_
    exact z_iretM hX dX8_setCost_15 (Nat.le_of_ble_eq_true rfl) (Nat.le_of_ble_eq_true rfl)
theorem c_X8_setCost (l : Launch) (hl : l.stackTraces = false) (M : Mem) (v0 : Nat) (v1 : Int32) (v2 : Int32) (o : Int32 × Mem) (ho : f_X8_setCost M v0 v1 v2 = some o) : Ct l yX8_setCost cX8_setCost 3 (some .int) rm_X8_setCost [.ref v0, .int v1, .int v2] M (some (.int o.1)) o.2 :=
  Ct.of hl (by decide +kernel) (Nat.le_of_ble_eq_true rfl) rfl (fun X hX hin => z_X8_setCost hX M v0 v1 v2 o ho)
theorem okV_X8_setCost : okV yX8_setCost cX8_setCost 3 (some .int) 2 := ⟨q_962, q_963, q_86, q_964, by unfold okY; decide +kernel⟩
/-! ParticipatoryBudget.setWeight(II)I -/
abbrev rm_X8_setWeight : Room := { frames := 4, cells := 0, slots := 0, locals := 110 }
set_option maxRecDepth 20000 in
set_option maxHeartbeats 4000000 in
theorem z_X8_setWeight {X : Cxt} (hX : okX X cX8_setWeight RX8 rm_X8_setWeight (some .int) 3) (M : Mem) (v0 : Nat) (v1 : Int32) (v2 : Int32) : Zj X (fun o : Int32 × Mem => Qr X rm_X8_setWeight.cells rm_X8_setWeight.slots (some (.int o.1)) o.2) 0 0 0 [(0, .ref v0), (1, .int v1), (2, .int v2)] [] M (f_X8_setWeight M v0 v1 v2) := by
  unfold f_X8_setWeight
  refine z_iload_n hX 1 rfl rfl dX8_setWeight_0 ?_
  refine z_aload_n hX 0 rfl rfl dX8_setWeight_1 ?_
  refine z_gFR 8 8 hX (by decide) rfl (by decide) rfl q_425 dX8_setWeight_2 (fun r1 => ?_)
  refine z_gFI 0 2 hX (by decide) rfl (by decide) rfl q_334 dX8_setWeight_5 (fun x2 => ?_)
  refine z_cSIp [.int v1, .int x2] hX (fun l hl o ho => c_X8_isIndex l hl M v1 x2 o ho) dX8_setWeight_8 q_657 okS_X8_isIndex rfl ⟨(Nat.le_of_ble_eq_true rfl), (Nat.le_of_ble_eq_true rfl)⟩ rfl (Nat.le_of_ble_eq_true rfl) rfl rfl ⟨(Nat.le_of_ble_eq_true rfl), (Nat.le_of_ble_eq_true rfl)⟩ (fun o3 => ?_)
  refine z_if_ne hX 16 (by decide) dX8_setWeight_11 (fun _ => ?_) (fun _ => ?_)
  · refine z_iload_n hX 2 rfl rfl dX8_setWeight_16 ?_
    refine z_iconst (v := 1) hX (by decide) dX8_setWeight_17 ?_
    refine z_icmp_lt hX 27 (by decide) dX8_setWeight_18 (fun _ => ?_) (fun _ => ?_)
    · refine z_bipush (v := (-2)) hX (by decide) dX8_setWeight_27 ?_
      exact z_iretM hX dX8_setWeight_29 (Nat.le_of_ble_eq_true rfl) (Nat.le_of_ble_eq_true rfl)
    · refine z_iload_n hX 2 rfl rfl dX8_setWeight_21 ?_
      refine z_bipush (v := 9) hX (by decide) dX8_setWeight_22 ?_
      refine z_icmp_le hX 30 (by decide) dX8_setWeight_24 (fun _ => ?_) (fun _ => ?_)
      · refine z_aload_n hX 0 rfl rfl dX8_setWeight_30 ?_
        refine z_iconst (v := 2) hX (by decide) dX8_setWeight_31 ?_
        refine z_iload_n hX 1 rfl rfl dX8_setWeight_32 ?_
        refine z_iload_n hX 2 rfl rfl dX8_setWeight_33 ?_
        refine z_cVIm 8 [.int 2, .int v1, .int v2] hX (fun l hl o ho => c_X8_change l hl M v0 2 v1 v2 o ho) dX8_setWeight_34 (by decide) rfl rfl q_945 okV_X8_change rfl ⟨(Nat.le_of_ble_eq_true rfl), (Nat.le_of_ble_eq_true rfl)⟩ rfl (Nat.le_of_ble_eq_true rfl) rfl rfl ⟨(Nat.le_of_ble_eq_true rfl), (Nat.le_of_ble_eq_true rfl)⟩ (fun o4 => ?_)
        exact z_iretM hX dX8_setWeight_37 (Nat.le_of_ble_eq_true rfl) (Nat.le_of_ble_eq_true rfl)
      · refine z_bipush (v := (-2)) hX (by decide) dX8_setWeight_27 ?_
        exact z_iretM hX dX8_setWeight_29 (Nat.le_of_ble_eq_true rfl) (Nat.le_of_ble_eq_true rfl)
  · refine z_iconst (v := (-1)) hX (by decide) dX8_setWeight_14 ?_
    exact z_iretM hX dX8_setWeight_15 (Nat.le_of_ble_eq_true rfl) (Nat.le_of_ble_eq_true rfl)
theorem c_X8_setWeight (l : Launch) (hl : l.stackTraces = false) (M : Mem) (v0 : Nat) (v1 : Int32) (v2 : Int32) (o : Int32 × Mem) (ho : f_X8_setWeight M v0 v1 v2 = some o) : Ct l yX8_setWeight cX8_setWeight 3 (some .int) rm_X8_setWeight [.ref v0, .int v1, .int v2] M (some (.int o.1)) o.2 :=
  Ct.of hl (by decide +kernel) (Nat.le_of_ble_eq_true rfl) rfl (fun X hX hin => z_X8_setWeight hX M v0 v1 v2 o ho)
theorem okV_X8_setWeight : okV yX8_setWeight cX8_setWeight 3 (some .int) 2 := ⟨q_966, q_967, q_86, q_968, by unfold okY; decide +kernel⟩
/-! ParticipatoryBudget.with(IIZ)I -/
abbrev rm_X8_with : Room := { frames := 0, cells := 0, slots := 0, locals := 0 }
set_option maxRecDepth 20000 in
set_option maxHeartbeats 4000000 in
theorem z_X8_with {X : Cxt} (hX : okX X cX8_with RX8 rm_X8_with (some .int) 3) (M : Mem) (v0 : Int32) (v1 : Int32) (v2 : Int32) : Zj X (fun o : Int32 => Qr X rm_X8_with.cells rm_X8_with.slots (some (.int o)) M) 0 0 0 [(0, .int v0), (1, .int v1), (2, .int v2)] [] M (f_X8_with M v0 v1 v2) := by
  unfold f_X8_with
  refine z_iload_n hX 2 rfl rfl dX8_with_0 ?_
  refine z_jn (C' := 0) (S' := 0) 19 (fun (j1 : Int32) => []) (fun (j1 : Int32) => [.int j1]) (fun (j1 : Int32) => M) (fun j1 => ?_) (fun kj1 => ?_)
  · exact z_iretP hX dX8_with_19 (Nat.le_of_ble_eq_true rfl) (Nat.le_of_ble_eq_true rfl)
  · refine z_iteB ?_
    refine z_if_eq hX 12 (by decide) dX8_with_1 (fun _ => ?_) (fun _ => ?_)
    · refine z_iload_n hX 0 rfl rfl dX8_with_12 ?_
      refine z_iconst (v := 1) hX (by decide) dX8_with_13 ?_
      refine z_iload_n hX 1 rfl rfl dX8_with_14 ?_
      refine z_ishl hX dX8_with_15 ?_
      refine z_iconst (v := (-1)) hX (by decide) dX8_with_16 ?_
      refine z_ixor hX dX8_with_17 ?_
      refine z_iand hX dX8_with_18 ?_
      refine z_pure ?_
      refine z_sub [] rfl ?_
      exact kj1 (v0 &&& (((1 : Int32) <<< (v1 &&& 31)) ^^^ (-1)))
    · refine z_iload_n hX 0 rfl rfl dX8_with_4 ?_
      refine z_iconst (v := 1) hX (by decide) dX8_with_5 ?_
      refine z_iload_n hX 1 rfl rfl dX8_with_6 ?_
      refine z_ishl hX dX8_with_7 ?_
      refine z_ior hX dX8_with_8 ?_
      refine z_goto hX 19 (by decide) dX8_with_9 ?_
      refine z_pure ?_
      refine z_sub [] rfl ?_
      exact kj1 (v0 ||| ((1 : Int32) <<< (v1 &&& 31)))
theorem c_X8_with (l : Launch) (hl : l.stackTraces = false) (M : Mem) (v0 : Int32) (v1 : Int32) (v2 : Int32) (o : Int32) (ho : f_X8_with M v0 v1 v2 = some o) : Ct l yX8_with cX8_with 3 (some .int) rm_X8_with [.int v0, .int v1, .int v2] M (some (.int o)) M :=
  Ct.of hl (by decide +kernel) (Nat.le_of_ble_eq_true rfl) rfl (fun X hX hin => z_X8_with hX M v0 v1 v2 o ho)
theorem okS_X8_with : okS yX8_with cX8_with 3 (some .int) 3 := ⟨q_974, q_86, q_975, by unfold okY; decide +kernel⟩
/-! ParticipatoryBudget.setMember(IIZ)I -/
abbrev rm_X8_setMember : Room := { frames := 4, cells := 0, slots := 0, locals := 110 }
set_option maxRecDepth 20000 in
set_option maxHeartbeats 4000000 in
theorem z_X8_setMember {X : Cxt} (hX : okX X cX8_setMember RX8 rm_X8_setMember (some .int) 4) (M : Mem) (v0 : Nat) (v1 : Int32) (v2 : Int32) (v3 : Int32) : Zj X (fun o : Int32 × Mem => Qr X rm_X8_setMember.cells rm_X8_setMember.slots (some (.int o.1)) o.2) 0 0 0 [(0, .ref v0), (1, .int v1), (2, .int v2), (3, .int v3)] [] M (f_X8_setMember M v0 v1 v2 v3) := by
  unfold f_X8_setMember
  refine z_iload_n hX 1 rfl rfl dX8_setMember_0 ?_
  refine z_aload_n hX 0 rfl rfl dX8_setMember_1 ?_
  refine z_gFR 8 8 hX (by decide) rfl (by decide) rfl q_425 dX8_setMember_2 (fun r1 => ?_)
  refine z_gFI 0 2 hX (by decide) rfl (by decide) rfl q_334 dX8_setMember_5 (fun x2 => ?_)
  refine z_cSIp [.int v1, .int x2] hX (fun l hl o ho => c_X8_isIndex l hl M v1 x2 o ho) dX8_setMember_8 q_657 okS_X8_isIndex rfl ⟨(Nat.le_of_ble_eq_true rfl), (Nat.le_of_ble_eq_true rfl)⟩ rfl (Nat.le_of_ble_eq_true rfl) rfl rfl ⟨(Nat.le_of_ble_eq_true rfl), (Nat.le_of_ble_eq_true rfl)⟩ (fun o3 => ?_)
  refine z_if_eq hX 28 (by decide) dX8_setMember_11 (fun _ => ?_) (fun _ => ?_)
  · refine z_iconst (v := (-1)) hX (by decide) dX8_setMember_28 ?_
    exact z_iretM hX dX8_setMember_29 (Nat.le_of_ble_eq_true rfl) (Nat.le_of_ble_eq_true rfl)
  · refine z_iload_n hX 2 rfl rfl dX8_setMember_14 ?_
    refine z_aload_n hX 0 rfl rfl dX8_setMember_15 ?_
    refine z_gFR 8 8 hX (by decide) rfl (by decide) rfl q_425 dX8_setMember_16 (fun r4 => ?_)
    refine z_gFI 0 0 hX (by decide) rfl (by decide) rfl q_323 dX8_setMember_19 (fun x5 => ?_)
    refine z_cSIp [.int v2, .int x5] hX (fun l hl o ho => c_X8_isIndex l hl M v2 x5 o ho) dX8_setMember_22 q_657 okS_X8_isIndex rfl ⟨(Nat.le_of_ble_eq_true rfl), (Nat.le_of_ble_eq_true rfl)⟩ rfl (Nat.le_of_ble_eq_true rfl) rfl rfl ⟨(Nat.le_of_ble_eq_true rfl), (Nat.le_of_ble_eq_true rfl)⟩ (fun o6 => ?_)
    refine z_if_ne hX 30 (by decide) dX8_setMember_25 (fun _ => ?_) (fun _ => ?_)
    · refine z_aload_n hX 0 rfl rfl dX8_setMember_30 ?_
      refine z_iconst (v := 3) hX (by decide) dX8_setMember_31 ?_
      refine z_iload_n hX 1 rfl rfl dX8_setMember_32 ?_
      refine z_aload_n hX 0 rfl rfl dX8_setMember_33 ?_
      refine z_gFR 8 8 hX (by decide) rfl (by decide) rfl q_425 dX8_setMember_34 (fun r7 => ?_)
      refine z_gFR 0 9 hX (by decide) rfl (by decide) rfl q_370 dX8_setMember_37 (fun r8 => ?_)
      refine z_iload_n hX 1 rfl rfl dX8_setMember_40 ?_
      refine z_aI hX dX8_setMember_41 (fun x9 => ?_)
      refine z_iload_n hX 2 rfl rfl dX8_setMember_42 ?_
      refine z_iload_n hX 3 rfl rfl dX8_setMember_43 ?_
      refine z_cSIp [.int x9, .int v2, .int v3] hX (fun l hl o ho => c_X8_with l hl M x9 v2 v3 o ho) dX8_setMember_44 q_973 okS_X8_with rfl ⟨(Nat.le_of_ble_eq_true rfl), (Nat.le_of_ble_eq_true rfl)⟩ rfl (Nat.le_of_ble_eq_true rfl) rfl rfl ⟨(Nat.le_of_ble_eq_true rfl), (Nat.le_of_ble_eq_true rfl)⟩ (fun o10 => ?_)
      refine z_cVIm 8 [.int 3, .int v1, .int o10] hX (fun l hl o ho => c_X8_change l hl M v0 3 v1 o10 o ho) dX8_setMember_47 (by decide) rfl rfl q_945 okV_X8_change rfl ⟨(Nat.le_of_ble_eq_true rfl), (Nat.le_of_ble_eq_true rfl)⟩ rfl (Nat.le_of_ble_eq_true rfl) rfl rfl ⟨(Nat.le_of_ble_eq_true rfl), (Nat.le_of_ble_eq_true rfl)⟩ (fun o11 => ?_)
      refine z_pop hX rfl dX8_setMember_50 ?_
      refine z_aload_n hX 0 rfl rfl dX8_setMember_51 ?_
      refine z_gFR 8 8 hX (by decide) rfl (by decide) rfl q_425 dX8_setMember_52 (fun r12 => ?_)
      refine z_gFR 0 9 hX (by decide) rfl (by decide) rfl q_370 dX8_setMember_55 (fun r13 => ?_)
      refine z_iload_n hX 1 rfl rfl dX8_setMember_58 ?_
      refine z_aI hX dX8_setMember_59 (fun x14 => ?_)
      exact z_iretM hX dX8_setMember_60 (Nat.le_of_ble_eq_true rfl) (Nat.le_of_ble_eq_true rfl)
    · refine z_iconst (v := (-1)) hX (by decide) dX8_setMember_28 ?_
      exact z_iretM hX dX8_setMember_29 (Nat.le_of_ble_eq_true rfl) (Nat.le_of_ble_eq_true rfl)
theorem c_X8_setMember (l : Launch) (hl : l.stackTraces = false) (M : Mem) (v0 : Nat) (v1 : Int32) (v2 : Int32) (v3 : Int32) (o : Int32 × Mem) (ho : f_X8_setMember M v0 v1 v2 v3 = some o) : Ct l yX8_setMember cX8_setMember 4 (some .int) rm_X8_setMember [.ref v0, .int v1, .int v2, .int v3] M (some (.int o.1)) o.2 :=
  Ct.of hl (by decide +kernel) (Nat.le_of_ble_eq_true rfl) rfl (fun X hX hin => z_X8_setMember hX M v0 v1 v2 v3 o ho)
theorem okV_X8_setMember : okV yX8_setMember cX8_setMember 4 (some .int) 3 := ⟨q_970, q_971, q_86, q_972, by unfold okY; decide +kernel⟩
/-! ParticipatoryBudget.setApproval(IIZ)I -/
abbrev rm_X8_setApproval : Room := { frames := 4, cells := 0, slots := 0, locals := 110 }
set_option maxRecDepth 20000 in
set_option maxHeartbeats 4000000 in
theorem z_X8_setApproval {X : Cxt} (hX : okX X cX8_setApproval RX8 rm_X8_setApproval (some .int) 4) (M : Mem) (v0 : Nat) (v1 : Int32) (v2 : Int32) (v3 : Int32) : Zj X (fun o : Int32 × Mem => Qr X rm_X8_setApproval.cells rm_X8_setApproval.slots (some (.int o.1)) o.2) 0 0 0 [(0, .ref v0), (1, .int v1), (2, .int v2), (3, .int v3)] [] M (f_X8_setApproval M v0 v1 v2 v3) := by
  unfold f_X8_setApproval
  refine z_iload_n hX 1 rfl rfl dX8_setApproval_0 ?_
  refine z_aload_n hX 0 rfl rfl dX8_setApproval_1 ?_
  refine z_gFR 8 8 hX (by decide) rfl (by decide) rfl q_425 dX8_setApproval_2 (fun r1 => ?_)
  refine z_gFI 0 2 hX (by decide) rfl (by decide) rfl q_334 dX8_setApproval_5 (fun x2 => ?_)
  refine z_cSIp [.int v1, .int x2] hX (fun l hl o ho => c_X8_isIndex l hl M v1 x2 o ho) dX8_setApproval_8 q_657 okS_X8_isIndex rfl ⟨(Nat.le_of_ble_eq_true rfl), (Nat.le_of_ble_eq_true rfl)⟩ rfl (Nat.le_of_ble_eq_true rfl) rfl rfl ⟨(Nat.le_of_ble_eq_true rfl), (Nat.le_of_ble_eq_true rfl)⟩ (fun o3 => ?_)
  refine z_if_eq hX 28 (by decide) dX8_setApproval_11 (fun _ => ?_) (fun _ => ?_)
  · refine z_iconst (v := (-1)) hX (by decide) dX8_setApproval_28 ?_
    exact z_iretM hX dX8_setApproval_29 (Nat.le_of_ble_eq_true rfl) (Nat.le_of_ble_eq_true rfl)
  · refine z_iload_n hX 2 rfl rfl dX8_setApproval_14 ?_
    refine z_aload_n hX 0 rfl rfl dX8_setApproval_15 ?_
    refine z_gFR 8 8 hX (by decide) rfl (by decide) rfl q_425 dX8_setApproval_16 (fun r4 => ?_)
    refine z_gFI 0 1 hX (by decide) rfl (by decide) rfl q_330 dX8_setApproval_19 (fun x5 => ?_)
    refine z_cSIp [.int v2, .int x5] hX (fun l hl o ho => c_X8_isIndex l hl M v2 x5 o ho) dX8_setApproval_22 q_657 okS_X8_isIndex rfl ⟨(Nat.le_of_ble_eq_true rfl), (Nat.le_of_ble_eq_true rfl)⟩ rfl (Nat.le_of_ble_eq_true rfl) rfl rfl ⟨(Nat.le_of_ble_eq_true rfl), (Nat.le_of_ble_eq_true rfl)⟩ (fun o6 => ?_)
    refine z_if_ne hX 30 (by decide) dX8_setApproval_25 (fun _ => ?_) (fun _ => ?_)
    · refine z_aload_n hX 0 rfl rfl dX8_setApproval_30 ?_
      refine z_iconst (v := 4) hX (by decide) dX8_setApproval_31 ?_
      refine z_iload_n hX 1 rfl rfl dX8_setApproval_32 ?_
      refine z_aload_n hX 0 rfl rfl dX8_setApproval_33 ?_
      refine z_gFR 8 8 hX (by decide) rfl (by decide) rfl q_425 dX8_setApproval_34 (fun r7 => ?_)
      refine z_gFR 0 10 hX (by decide) rfl (by decide) rfl q_374 dX8_setApproval_37 (fun r8 => ?_)
      refine z_iload_n hX 1 rfl rfl dX8_setApproval_40 ?_
      refine z_aI hX dX8_setApproval_41 (fun x9 => ?_)
      refine z_iload_n hX 2 rfl rfl dX8_setApproval_42 ?_
      refine z_iload_n hX 3 rfl rfl dX8_setApproval_43 ?_
      refine z_cSIp [.int x9, .int v2, .int v3] hX (fun l hl o ho => c_X8_with l hl M x9 v2 v3 o ho) dX8_setApproval_44 q_973 okS_X8_with rfl ⟨(Nat.le_of_ble_eq_true rfl), (Nat.le_of_ble_eq_true rfl)⟩ rfl (Nat.le_of_ble_eq_true rfl) rfl rfl ⟨(Nat.le_of_ble_eq_true rfl), (Nat.le_of_ble_eq_true rfl)⟩ (fun o10 => ?_)
      refine z_cVIm 8 [.int 4, .int v1, .int o10] hX (fun l hl o ho => c_X8_change l hl M v0 4 v1 o10 o ho) dX8_setApproval_47 (by decide) rfl rfl q_945 okV_X8_change rfl ⟨(Nat.le_of_ble_eq_true rfl), (Nat.le_of_ble_eq_true rfl)⟩ rfl (Nat.le_of_ble_eq_true rfl) rfl rfl ⟨(Nat.le_of_ble_eq_true rfl), (Nat.le_of_ble_eq_true rfl)⟩ (fun o11 => ?_)
      refine z_pop hX rfl dX8_setApproval_50 ?_
      refine z_aload_n hX 0 rfl rfl dX8_setApproval_51 ?_
      refine z_gFR 8 8 hX (by decide) rfl (by decide) rfl q_425 dX8_setApproval_52 (fun r12 => ?_)
      refine z_gFR 0 13 hX (by decide) rfl (by decide) rfl q_387 dX8_setApproval_55 (fun r13 => ?_)
      refine z_iload_n hX 2 rfl rfl dX8_setApproval_58 ?_
      refine z_aI hX dX8_setApproval_59 (fun x14 => ?_)
      exact z_iretM hX dX8_setApproval_60 (Nat.le_of_ble_eq_true rfl) (Nat.le_of_ble_eq_true rfl)
    · refine z_iconst (v := (-1)) hX (by decide) dX8_setApproval_28 ?_
      exact z_iretM hX dX8_setApproval_29 (Nat.le_of_ble_eq_true rfl) (Nat.le_of_ble_eq_true rfl)
theorem c_X8_setApproval (l : Launch) (hl : l.stackTraces = false) (M : Mem) (v0 : Nat) (v1 : Int32) (v2 : Int32) (v3 : Int32) (o : Int32 × Mem) (ho : f_X8_setApproval M v0 v1 v2 v3 = some o) : Ct l yX8_setApproval cX8_setApproval 4 (some .int) rm_X8_setApproval [.ref v0, .int v1, .int v2, .int v3] M (some (.int o.1)) o.2 :=
  Ct.of hl (by decide +kernel) (Nat.le_of_ble_eq_true rfl) rfl (fun X hX hin => z_X8_setApproval hX M v0 v1 v2 v3 o ho)
theorem okV_X8_setApproval : okV yX8_setApproval cX8_setApproval 4 (some .int) 3 := ⟨q_977, q_978, q_86, q_979, by unfold okY; decide +kernel⟩
/-! ParticipatoryBudget.setSetting(II)I -/
abbrev rm_X8_setSetting : Room := { frames := 4, cells := 0, slots := 0, locals := 110 }
set_option maxRecDepth 20000 in
set_option maxHeartbeats 4000000 in
theorem z_X8_setSetting {X : Cxt} (hX : okX X cX8_setSetting RX8 rm_X8_setSetting (some .int) 3) (M : Mem) (v0 : Nat) (v1 : Int32) (v2 : Int32) : Zj X (fun o : Int32 × Mem => Qr X rm_X8_setSetting.cells rm_X8_setSetting.slots (some (.int o.1)) o.2) 0 0 0 [(0, .ref v0), (1, .int v1), (2, .int v2)] [] M (f_X8_setSetting M v0 v1 v2) := by
  unfold f_X8_setSetting
  refine z_iload_n hX 1 rfl rfl dX8_setSetting_0 ?_
  refine z_iconst (v := 4) hX (by decide) dX8_setSetting_1 ?_
  refine z_cSIp [.int v1, .int 4] hX (fun l hl o ho => c_X8_isIndex l hl M v1 4 o ho) dX8_setSetting_2 q_657 okS_X8_isIndex rfl ⟨(Nat.le_of_ble_eq_true rfl), (Nat.le_of_ble_eq_true rfl)⟩ rfl (Nat.le_of_ble_eq_true rfl) rfl rfl ⟨(Nat.le_of_ble_eq_true rfl), (Nat.le_of_ble_eq_true rfl)⟩ (fun o1 => ?_)
  refine z_if_eq hX 26 (by decide) dX8_setSetting_5 (fun _ => ?_) (fun _ => ?_)
  · refine z_bipush (v := (-2)) hX (by decide) dX8_setSetting_26 ?_
    exact z_iretM hX dX8_setSetting_28 (Nat.le_of_ble_eq_true rfl) (Nat.le_of_ble_eq_true rfl)
  · refine z_iload_n hX 2 rfl rfl dX8_setSetting_8 ?_
    refine z_gST 1 hX (by decide) rfl q_984 dX8_setSetting_9 (fun r2 => ?_)
    refine z_iload_n hX 1 rfl rfl dX8_setSetting_12 ?_
    refine z_aI hX dX8_setSetting_13 (fun x3 => ?_)
    refine z_icmp_lt hX 26 (by decide) dX8_setSetting_14 (fun _ => ?_) (fun _ => ?_)
    · refine z_bipush (v := (-2)) hX (by decide) dX8_setSetting_26 ?_
      exact z_iretM hX dX8_setSetting_28 (Nat.le_of_ble_eq_true rfl) (Nat.le_of_ble_eq_true rfl)
    · refine z_iload_n hX 2 rfl rfl dX8_setSetting_17 ?_
      refine z_gST 2 hX (by decide) rfl q_985 dX8_setSetting_18 (fun r4 => ?_)
      refine z_iload_n hX 1 rfl rfl dX8_setSetting_21 ?_
      refine z_aI hX dX8_setSetting_22 (fun x5 => ?_)
      refine z_icmp_le hX 29 (by decide) dX8_setSetting_23 (fun _ => ?_) (fun _ => ?_)
      · refine z_aload_n hX 0 rfl rfl dX8_setSetting_29 ?_
        refine z_iconst (v := 5) hX (by decide) dX8_setSetting_30 ?_
        refine z_iload_n hX 1 rfl rfl dX8_setSetting_31 ?_
        refine z_iload_n hX 2 rfl rfl dX8_setSetting_32 ?_
        refine z_cVIm 8 [.int 5, .int v1, .int v2] hX (fun l hl o ho => c_X8_change l hl M v0 5 v1 v2 o ho) dX8_setSetting_33 (by decide) rfl rfl q_945 okV_X8_change rfl ⟨(Nat.le_of_ble_eq_true rfl), (Nat.le_of_ble_eq_true rfl)⟩ rfl (Nat.le_of_ble_eq_true rfl) rfl rfl ⟨(Nat.le_of_ble_eq_true rfl), (Nat.le_of_ble_eq_true rfl)⟩ (fun o6 => ?_)
        exact z_iretM hX dX8_setSetting_36 (Nat.le_of_ble_eq_true rfl) (Nat.le_of_ble_eq_true rfl)
      · refine z_bipush (v := (-2)) hX (by decide) dX8_setSetting_26 ?_
        exact z_iretM hX dX8_setSetting_28 (Nat.le_of_ble_eq_true rfl) (Nat.le_of_ble_eq_true rfl)
theorem c_X8_setSetting (l : Launch) (hl : l.stackTraces = false) (M : Mem) (v0 : Nat) (v1 : Int32) (v2 : Int32) (o : Int32 × Mem) (ho : f_X8_setSetting M v0 v1 v2 = some o) : Ct l yX8_setSetting cX8_setSetting 3 (some .int) rm_X8_setSetting [.ref v0, .int v1, .int v2] M (some (.int o.1)) o.2 :=
  Ct.of hl (by decide +kernel) (Nat.le_of_ble_eq_true rfl) rfl (fun X hX hin => z_X8_setSetting hX M v0 v1 v2 o ho)
theorem okV_X8_setSetting : okV yX8_setSetting cX8_setSetting 3 (some .int) 2 := ⟨q_981, q_982, q_86, q_983, by unfold okY; decide +kernel⟩
/-! ParticipatoryBudget.undo()I -/
abbrev rm_X8_undo : Room := { frames := 3, cells := 0, slots := 0, locals := 63 }
set_option maxRecDepth 20000 in
set_option maxHeartbeats 4000000 in
theorem z_X8_undo {X : Cxt} (hX : okX X cX8_undo RX8 rm_X8_undo (some .int) 1) (M : Mem) (v0 : Nat) : Zj X (fun o : Int32 × Mem => Qr X rm_X8_undo.cells rm_X8_undo.slots (some (.int o.1)) o.2) 0 0 0 [(0, .ref v0)] [] M (f_X8_undo M v0) := by
  unfold f_X8_undo
  refine z_aload_n hX 0 rfl rfl dX8_undo_0 ?_
  refine z_gFR 8 2 hX (by decide) rfl (by decide) rfl q_419 dX8_undo_1 (fun r1 => ?_)
  refine z_gFI 3 3 hX (by decide) rfl (by decide) rfl q_165 dX8_undo_4 (fun x2 => ?_)
  refine z_if_ne hX 12 (by decide) dX8_undo_7 (fun _ => ?_) (fun _ => ?_)
  · refine z_aload_n hX 0 rfl rfl dX8_undo_12 ?_
    refine z_gFR 8 2 hX (by decide) rfl (by decide) rfl q_419 dX8_undo_13 (fun r3 => ?_)
    refine z_aload_n hX 0 rfl rfl dX8_undo_16 ?_
    refine z_gFR 8 8 hX (by decide) rfl (by decide) rfl q_425 dX8_undo_17 (fun r4 => ?_)
    refine z_cVVm 3 [.ref r4] hX (fun l hl o ho => c_X3_undoLatest l hl M r3 r4 o ho) dX8_undo_20 (by decide) rfl rfl q_990 okV_X3_undoLatest rfl ⟨(Nat.le_of_ble_eq_true rfl), (Nat.le_of_ble_eq_true rfl)⟩ rfl (Nat.le_of_ble_eq_true rfl) rfl rfl ⟨(Nat.le_of_ble_eq_true rfl), (Nat.le_of_ble_eq_true rfl)⟩ (fun o5 => ?_)
    refine z_aload_n hX 0 rfl rfl dX8_undo_23 ?_
    refine z_cVVm 8 [] hX (fun l hl o ho => c_X8_settle l hl o5 v0 o ho) dX8_undo_24 (by decide) rfl rfl q_615 okV_X8_settle rfl ⟨(Nat.le_of_ble_eq_true rfl), (Nat.le_of_ble_eq_true rfl)⟩ rfl (Nat.le_of_ble_eq_true rfl) rfl rfl ⟨(Nat.le_of_ble_eq_true rfl), (Nat.le_of_ble_eq_true rfl)⟩ (fun o6 => ?_)
    refine z_aload_n hX 0 rfl rfl dX8_undo_27 ?_
    refine z_gFR 8 2 hX (by decide) rfl (by decide) rfl q_419 dX8_undo_28 (fun r7 => ?_)
    refine z_gFI 3 3 hX (by decide) rfl (by decide) rfl q_165 dX8_undo_31 (fun x8 => ?_)
    exact z_iretM hX dX8_undo_34 (Nat.le_of_ble_eq_true rfl) (Nat.le_of_ble_eq_true rfl)
  · refine z_iconst (v := (-1)) hX (by decide) dX8_undo_10 ?_
    exact z_iretM hX dX8_undo_11 (Nat.le_of_ble_eq_true rfl) (Nat.le_of_ble_eq_true rfl)
theorem c_X8_undo (l : Launch) (hl : l.stackTraces = false) (M : Mem) (v0 : Nat) (o : Int32 × Mem) (ho : f_X8_undo M v0 = some o) : Ct l yX8_undo cX8_undo 1 (some .int) rm_X8_undo [.ref v0] M (some (.int o.1)) o.2 :=
  Ct.of hl (by decide +kernel) (Nat.le_of_ble_eq_true rfl) rfl (fun X hX hin => z_X8_undo hX M v0 o ho)
theorem okV_X8_undo : okV yX8_undo cX8_undo 1 (some .int) 0 := ⟨q_987, q_988, q_86, q_989, by unfold okY; decide +kernel⟩
/-! ParticipatoryBudgetModel.reset([I)V -/
abbrev rm_X9_reset : Room := { frames := 0, cells := 0, slots := 0, locals := 0 }
set_option maxRecDepth 20000 in
set_option maxHeartbeats 4000000 in
theorem z_X9_reset {X : Cxt} (hX : okX X cX9_reset RX9 rm_X9_reset (none) 2) (M : Mem) (v0 : Nat) : Zj X (fun o : Mem => Qr X rm_X9_reset.cells rm_X9_reset.slots (none) o) 0 0 0 [(0, .ref v0)] [] M (f_X9_reset M v0) := by
  unfold f_X9_reset
  refine z_iconst (v := 0) hX (by decide) dX9_reset_0 ?_
  refine z_istore_n hX [(1, .int 0), (0, .ref v0)] rfl (by decide) rfl dX9_reset_1 ?_
  refine z_sub [1, 0] rfl ?_
  refine z_lp (x0 := (0, M)) (bd_X9_reset_2 v0) 2 18 (fun (u1 : Int32 × Mem) => [(0, .ref v0), (1, .int u1.1)]) (fun (e2 : Int32 × Mem) => [(0, .ref v0)]) (fun (u1 : Int32 × Mem) => u1.2) ?_ ?_
  · intro e2
    refine z_aload_n hX 0 rfl rfl dX9_reset_18 ?_
    refine z_iconst (v := 2) hX (by decide) dX9_reset_19 ?_
    refine z_bipush (v := 10) hX (by decide) dX9_reset_20 ?_
    refine z_wI hX dX9_reset_22 (fun M6 => ?_)
    exact z_vretM hX dX9_reset_23 (Nat.le_of_ble_eq_true rfl) (Nat.le_of_ble_eq_true rfl)
  · intro kk3 rc4 hkk3 hrc4 u1
    unfold bd_X9_reset_2
    refine z_iload_n hX 1 rfl rfl dX9_reset_2 ?_
    refine z_bipush (v := 92) hX (by decide) dX9_reset_3 ?_
    refine z_icmp_ge hX 18 (by decide) dX9_reset_5 (fun _ => ?_) (fun _ => ?_)
    · refine z_sub [0] rfl ?_
      exact hkk3 (u1.1, u1.2)
    · refine z_aload_n hX 0 rfl rfl dX9_reset_8 ?_
      refine z_iload_n hX 1 rfl rfl dX9_reset_9 ?_
      refine z_iconst (v := 0) hX (by decide) dX9_reset_10 ?_
      refine z_wI hX dX9_reset_11 (fun M5 => ?_)
      refine z_iinc hX 1 [(1, .int (u1.1 + 1)), (0, .ref v0)] rfl rfl (by decide) rfl dX9_reset_12 ?_
      refine z_goto hX 2 (by decide) dX9_reset_15 ?_
      refine z_sub [1, 0] rfl ?_
      exact hrc4 (u1.1 + 1, M5)
theorem c_X9_reset (l : Launch) (hl : l.stackTraces = false) (M : Mem) (v0 : Nat) (o : Mem) (ho : f_X9_reset M v0 = some o) : Ct l yX9_reset cX9_reset 2 (none) rm_X9_reset [.ref v0] M (none) o :=
  Ct.of hl (by decide +kernel) (Nat.le_of_ble_eq_true rfl) rfl (fun X hX hin => z_X9_reset hX M v0 o ho)
theorem okS_X9_reset : okS yX9_reset cX9_reset 2 (none) 1 := ⟨q_1309, q_96, q_1310, by unfold okY; decide +kernel⟩
/-! ParticipatoryBudgetModel.<init>()V -/
abbrev rm_X9_init : Room := { frames := 1, cells := 18, slots := 2856, locals := 21 }
set_option maxRecDepth 20000 in
set_option maxHeartbeats 4000000 in
theorem z_X9_init {X : Cxt} (hX : okX X cX9_init RX9 rm_X9_init (none) 1) (hin : inX X) (M : Mem) (v0 : Nat) : Zj X (fun o : Mem => Qr X rm_X9_init.cells rm_X9_init.slots (none) o) 0 0 0 [(0, .ref v0)] [] M (f_X9_init M v0) := by
  unfold f_X9_init
  refine z_aload_n hX 0 rfl rfl dX9_init_0 ?_
  refine z_oI hX dX9_init_1 q_1307 q_114 q_115 (Nat.le_of_ble_eq_true rfl) (Nat.le_of_ble_eq_true rfl) ?_
  refine z_aload_n hX 0 rfl rfl dX9_init_4 ?_
  refine z_bipush (v := 92) hX (by decide) dX9_init_5 ?_
  refine z_newA (aty := .int) 20 92 hX (Or.inl ⟨rfl, rfl⟩) q_175 (by decide) (by decide) (by decide) dX9_init_7 rfl rfl (Nat.le_of_ble_eq_true rfl) (Nat.le_of_ble_eq_true rfl) (fun o1 => ?_)
  refine z_pFRf 9 0 hX hin (by decide) rfl (by decide) rfl q_1311 rfl rfl pd_0 rfl rfl dX9_init_9 (fun M2 => ?_)
  refine z_aload_n hX 0 rfl rfl dX9_init_12 ?_
  refine z_bipush (v := 92) hX (by decide) dX9_init_13 ?_
  refine z_newA (aty := .int) 20 92 hX (Or.inl ⟨rfl, rfl⟩) q_175 (by decide) (by decide) (by decide) dX9_init_15 rfl rfl (Nat.le_of_ble_eq_true rfl) (Nat.le_of_ble_eq_true rfl) (fun o3 => ?_)
  refine z_pFRf 9 1 hX hin (by decide) rfl (by decide) rfl q_1312 rfl rfl pd_0 rfl rfl dX9_init_17 (fun M4 => ?_)
  refine z_aload_n hX 0 rfl rfl dX9_init_20 ?_
  refine z_sipush (v := 920) hX (by decide) dX9_init_21 ?_
  refine z_newA (aty := .int) 20 920 hX (Or.inl ⟨rfl, rfl⟩) q_175 (by decide) (by decide) (by decide) dX9_init_24 rfl rfl (Nat.le_of_ble_eq_true rfl) (Nat.le_of_ble_eq_true rfl) (fun o5 => ?_)
  refine z_pFRf 9 2 hX hin (by decide) rfl (by decide) rfl q_1313 rfl rfl pd_0 rfl rfl dX9_init_26 (fun M6 => ?_)
  refine z_aload_n hX 0 rfl rfl dX9_init_29 ?_
  refine z_iconst (v := 4) hX (by decide) dX9_init_30 ?_
  refine z_newA (aty := .int) 20 4 hX (Or.inl ⟨rfl, rfl⟩) q_175 (by decide) (by decide) (by decide) dX9_init_31 rfl rfl (Nat.le_of_ble_eq_true rfl) (Nat.le_of_ble_eq_true rfl) (fun o7 => ?_)
  refine z_pFRf 9 8 hX hin (by decide) rfl (by decide) rfl q_1319 rfl rfl pd_0 rfl rfl dX9_init_33 (fun M8 => ?_)
  refine z_aload_n hX 0 rfl rfl dX9_init_36 ?_
  refine z_bipush (v := 12) hX (by decide) dX9_init_37 ?_
  refine z_newA (aty := .int) 20 12 hX (Or.inl ⟨rfl, rfl⟩) q_175 (by decide) (by decide) (by decide) dX9_init_39 rfl rfl (Nat.le_of_ble_eq_true rfl) (Nat.le_of_ble_eq_true rfl) (fun o9 => ?_)
  refine z_pFRf 9 9 hX hin (by decide) rfl (by decide) rfl q_1320 rfl rfl pd_0 rfl rfl dX9_init_41 (fun M10 => ?_)
  refine z_aload_n hX 0 rfl rfl dX9_init_44 ?_
  refine z_bipush (v := 12) hX (by decide) dX9_init_45 ?_
  refine z_newA (aty := .int) 20 12 hX (Or.inl ⟨rfl, rfl⟩) q_175 (by decide) (by decide) (by decide) dX9_init_47 rfl rfl (Nat.le_of_ble_eq_true rfl) (Nat.le_of_ble_eq_true rfl) (fun o11 => ?_)
  refine z_pFRf 9 10 hX hin (by decide) rfl (by decide) rfl q_1321 rfl rfl pd_0 rfl rfl dX9_init_49 (fun M12 => ?_)
  refine z_aload_n hX 0 rfl rfl dX9_init_52 ?_
  refine z_iconst (v := 4) hX (by decide) dX9_init_53 ?_
  refine z_newA (aty := .int) 20 4 hX (Or.inl ⟨rfl, rfl⟩) q_175 (by decide) (by decide) (by decide) dX9_init_54 rfl rfl (Nat.le_of_ble_eq_true rfl) (Nat.le_of_ble_eq_true rfl) (fun o13 => ?_)
  refine z_pFRf 9 14 hX hin (by decide) rfl (by decide) rfl q_1325 rfl rfl pd_0 rfl rfl dX9_init_56 (fun M14 => ?_)
  refine z_aload_n hX 0 rfl rfl dX9_init_59 ?_
  refine z_bipush (v := 12) hX (by decide) dX9_init_60 ?_
  refine z_newA (aty := .int) 20 12 hX (Or.inl ⟨rfl, rfl⟩) q_175 (by decide) (by decide) (by decide) dX9_init_62 rfl rfl (Nat.le_of_ble_eq_true rfl) (Nat.le_of_ble_eq_true rfl) (fun o15 => ?_)
  refine z_pFRf 9 15 hX hin (by decide) rfl (by decide) rfl q_1326 rfl rfl pd_0 rfl rfl dX9_init_64 (fun M16 => ?_)
  refine z_aload_n hX 0 rfl rfl dX9_init_67 ?_
  refine z_bipush (v := 12) hX (by decide) dX9_init_68 ?_
  refine z_newA (aty := .int) 20 12 hX (Or.inl ⟨rfl, rfl⟩) q_175 (by decide) (by decide) (by decide) dX9_init_70 rfl rfl (Nat.le_of_ble_eq_true rfl) (Nat.le_of_ble_eq_true rfl) (fun o17 => ?_)
  refine z_pFRf 9 16 hX hin (by decide) rfl (by decide) rfl q_1327 rfl rfl pd_0 rfl rfl dX9_init_72 (fun M18 => ?_)
  refine z_aload_n hX 0 rfl rfl dX9_init_75 ?_
  refine z_sipush (v := 1200) hX (by decide) dX9_init_76 ?_
  refine z_newA (aty := .byte) 21 1200 hX (Or.inr (Or.inl ⟨rfl, rfl⟩)) q_144 (by decide) (by decide) (by decide) dX9_init_79 rfl rfl (Nat.le_of_ble_eq_true rfl) (Nat.le_of_ble_eq_true rfl) (fun o19 => ?_)
  refine z_pFRf 9 17 hX hin (by decide) rfl (by decide) rfl q_1328 rfl rfl pd_5 rfl rfl dX9_init_81 (fun M20 => ?_)
  refine z_aload_n hX 0 rfl rfl dX9_init_84 ?_
  refine z_iconst (v := (-1)) hX (by decide) dX9_init_85 ?_
  refine z_pFI 9 26 hX (by decide) rfl (by decide) rfl q_1337 rfl pd_1 rfl rfl dX9_init_86 (fun M21 => ?_)
  refine z_aload_n hX 0 rfl rfl dX9_init_89 ?_
  refine z_bipush (v := 96) hX (by decide) dX9_init_90 ?_
  refine z_newA (aty := .int) 20 96 hX (Or.inl ⟨rfl, rfl⟩) q_175 (by decide) (by decide) (by decide) dX9_init_92 rfl rfl (Nat.le_of_ble_eq_true rfl) (Nat.le_of_ble_eq_true rfl) (fun o22 => ?_)
  refine z_pFRf 9 29 hX hin (by decide) rfl (by decide) rfl q_1340 rfl rfl pd_0 rfl rfl dX9_init_94 (fun M23 => ?_)
  refine z_aload_n hX 0 rfl rfl dX9_init_97 ?_
  refine z_bipush (v := 12) hX (by decide) dX9_init_98 ?_
  refine z_newA (aty := .int) 20 12 hX (Or.inl ⟨rfl, rfl⟩) q_175 (by decide) (by decide) (by decide) dX9_init_100 rfl rfl (Nat.le_of_ble_eq_true rfl) (Nat.le_of_ble_eq_true rfl) (fun o24 => ?_)
  refine z_pFRf 9 32 hX hin (by decide) rfl (by decide) rfl q_1343 rfl rfl pd_0 rfl rfl dX9_init_102 (fun M25 => ?_)
  refine z_aload_n hX 0 rfl rfl dX9_init_105 ?_
  refine z_bipush (v := 12) hX (by decide) dX9_init_106 ?_
  refine z_newA (aty := .int) 20 12 hX (Or.inl ⟨rfl, rfl⟩) q_175 (by decide) (by decide) (by decide) dX9_init_108 rfl rfl (Nat.le_of_ble_eq_true rfl) (Nat.le_of_ble_eq_true rfl) (fun o26 => ?_)
  refine z_pFRf 9 33 hX hin (by decide) rfl (by decide) rfl q_1344 rfl rfl pd_0 rfl rfl dX9_init_110 (fun M27 => ?_)
  refine z_aload_n hX 0 rfl rfl dX9_init_113 ?_
  refine z_sipush (v := 288) hX (by decide) dX9_init_114 ?_
  refine z_newA (aty := .int) 20 288 hX (Or.inl ⟨rfl, rfl⟩) q_175 (by decide) (by decide) (by decide) dX9_init_117 rfl rfl (Nat.le_of_ble_eq_true rfl) (Nat.le_of_ble_eq_true rfl) (fun o28 => ?_)
  refine z_pFRf 9 34 hX hin (by decide) rfl (by decide) rfl q_1345 rfl rfl pd_0 rfl rfl dX9_init_119 (fun M29 => ?_)
  refine z_aload_n hX 0 rfl rfl dX9_init_122 ?_
  refine z_bipush (v := 48) hX (by decide) dX9_init_123 ?_
  refine z_newA (aty := .int) 20 48 hX (Or.inl ⟨rfl, rfl⟩) q_175 (by decide) (by decide) (by decide) dX9_init_125 rfl rfl (Nat.le_of_ble_eq_true rfl) (Nat.le_of_ble_eq_true rfl) (fun o30 => ?_)
  refine z_pFRf 9 35 hX hin (by decide) rfl (by decide) rfl q_1346 rfl rfl pd_0 rfl rfl dX9_init_127 (fun M31 => ?_)
  refine z_aload_n hX 0 rfl rfl dX9_init_130 ?_
  refine z_iconst (v := 4) hX (by decide) dX9_init_131 ?_
  refine z_newA (aty := .int) 20 4 hX (Or.inl ⟨rfl, rfl⟩) q_175 (by decide) (by decide) (by decide) dX9_init_132 rfl rfl (Nat.le_of_ble_eq_true rfl) (Nat.le_of_ble_eq_true rfl) (fun o32 => ?_)
  refine z_pFRf 9 36 hX hin (by decide) rfl (by decide) rfl q_1347 rfl rfl pd_0 rfl rfl dX9_init_134 (fun M33 => ?_)
  refine z_aload_n hX 0 rfl rfl dX9_init_137 ?_
  refine z_bipush (v := 12) hX (by decide) dX9_init_138 ?_
  refine z_pFI 9 37 hX (by decide) rfl (by decide) rfl q_1348 rfl pd_1 rfl rfl dX9_init_140 (fun M34 => ?_)
  refine z_aload_n hX 0 rfl rfl dX9_init_143 ?_
  refine z_bipush (v := 12) hX (by decide) dX9_init_144 ?_
  refine z_newA (aty := .long) 22 12 hX (Or.inr (Or.inr ⟨rfl, rfl⟩)) q_1438 (by decide) (by decide) (by decide) dX9_init_146 rfl rfl (Nat.le_of_ble_eq_true rfl) (Nat.le_of_ble_eq_true rfl) (fun o35 => ?_)
  refine z_pFRf 9 40 hX hin (by decide) rfl (by decide) rfl q_1351 rfl rfl pd_13 rfl rfl dX9_init_148 (fun M36 => ?_)
  refine z_aload_n hX 0 rfl rfl dX9_init_151 ?_
  refine z_bipush (v := 24) hX (by decide) dX9_init_152 ?_
  refine z_newA (aty := .int) 20 24 hX (Or.inl ⟨rfl, rfl⟩) q_175 (by decide) (by decide) (by decide) dX9_init_154 rfl rfl (Nat.le_of_ble_eq_true rfl) (Nat.le_of_ble_eq_true rfl) (fun o37 => ?_)
  refine z_pFRf 9 41 hX hin (by decide) rfl (by decide) rfl q_1352 rfl rfl pd_0 rfl rfl dX9_init_156 (fun M38 => ?_)
  refine z_aload_n hX 0 rfl rfl dX9_init_159 ?_
  refine z_gFR 9 0 hX (by decide) rfl (by decide) rfl q_1311 dX9_init_160 (fun r39 => ?_)
  refine z_cSVm [.ref r39] hX (fun l hl o ho => c_X9_reset l hl M38 r39 o ho) dX9_init_163 q_1308 okS_X9_reset rfl ⟨(Nat.le_of_ble_eq_true rfl), (Nat.le_of_ble_eq_true rfl)⟩ rfl (Nat.le_of_ble_eq_true rfl) rfl rfl ⟨(Nat.le_of_ble_eq_true rfl), (Nat.le_of_ble_eq_true rfl)⟩ (fun o40 => ?_)
  exact z_vretM hX dX9_init_166 (Nat.le_of_ble_eq_true rfl) (Nat.le_of_ble_eq_true rfl)
theorem c_X9_init (l : Launch) (hl : l.stackTraces = false) (M : Mem) (v0 : Nat) (o : Mem) (ho : f_X9_init M v0 = some o) : Ct l yX9_init cX9_init 1 (none) rm_X9_init [.ref v0] M (none) o :=
  Ct.of hl (by decide +kernel) (Nat.le_of_ble_eq_true rfl) rfl (fun X hX hin => z_X9_init hX (hin rfl) M v0 o ho)
theorem okI_X9_init : okI yX9_init cX9_init 1 0 := ⟨rfl, q_1305, q_96, q_1306, by unfold okY; decide +kernel⟩
/-! ParticipatoryBudgetModel.thrown()I -/
abbrev rm_X9_thrown : Room := { frames := 0, cells := 0, slots := 0, locals := 0 }
set_option maxRecDepth 20000 in
set_option maxHeartbeats 4000000 in
theorem z_X9_thrown {X : Cxt} (hX : okX X cX9_thrown RX9 rm_X9_thrown (some .int) 1) (M : Mem) (v0 : Nat) : Zj X (fun o : Int32 => Qr X rm_X9_thrown.cells rm_X9_thrown.slots (some (.int o)) M) 0 0 0 [(0, .ref v0)] [] M (f_X9_thrown M v0) := by
  unfold f_X9_thrown
  refine z_aload_n hX 0 rfl rfl dX9_thrown_0 ?_
  refine z_gFI 9 4 hX (by decide) rfl (by decide) rfl q_1315 dX9_thrown_1 (fun x1 => ?_)
  exact z_iretP hX dX9_thrown_4 (Nat.le_of_ble_eq_true rfl) (Nat.le_of_ble_eq_true rfl)
theorem c_X9_thrown (l : Launch) (hl : l.stackTraces = false) (M : Mem) (v0 : Nat) (o : Int32) (ho : f_X9_thrown M v0 = some o) : Ct l yX9_thrown cX9_thrown 1 (some .int) rm_X9_thrown [.ref v0] M (some (.int o)) M :=
  Ct.of hl (by decide +kernel) (Nat.le_of_ble_eq_true rfl) rfl (fun X hX hin => z_X9_thrown hX M v0 o ho)
theorem okV_X9_thrown : okV yX9_thrown cX9_thrown 1 (some .int) 0 := ⟨q_1440, q_1441, q_96, q_1442, by unfold okY; decide +kernel⟩
/-! ParticipatoryBudgetModel.inRange(III)Z -/
abbrev rm_X9_inRange : Room := { frames := 0, cells := 0, slots := 0, locals := 0 }
set_option maxRecDepth 20000 in
set_option maxHeartbeats 4000000 in
theorem z_X9_inRange {X : Cxt} (hX : okX X cX9_inRange RX9 rm_X9_inRange (some .boolean) 3) (M : Mem) (v0 : Int32) (v1 : Int32) (v2 : Int32) : Zj X (fun o : Int32 => Qr X rm_X9_inRange.cells rm_X9_inRange.slots (some (.int o)) M) 0 0 0 [(0, .int v0), (1, .int v1), (2, .int v2)] [] M (f_X9_inRange M v0 v1 v2) := by
  unfold f_X9_inRange
  refine z_iload_n hX 0 rfl rfl dX9_inRange_0 ?_
  refine z_iload_n hX 1 rfl rfl dX9_inRange_1 ?_
  refine z_jn (C' := 0) (S' := 0) 15 (fun (j1 : Int32) => []) (fun (j1 : Int32) => [.int j1]) (fun (j1 : Int32) => M) (fun j1 => ?_) (fun kj1 => ?_)
  · exact z_zretP hX dX9_inRange_15 (Nat.le_of_ble_eq_true rfl) (Nat.le_of_ble_eq_true rfl)
  · refine z_iteB ?_
    refine z_icmp_lt hX 14 (by decide) dX9_inRange_2 (fun _ => ?_) (fun _ => ?_)
    · refine z_iconst (v := 0) hX (by decide) dX9_inRange_14 ?_
      refine z_pure ?_
      refine z_sub [] rfl ?_
      exact kj1 0
    · refine z_iload_n hX 0 rfl rfl dX9_inRange_5 ?_
      refine z_iload_n hX 2 rfl rfl dX9_inRange_6 ?_
      refine z_iteB ?_
      refine z_icmp_gt hX 14 (by decide) dX9_inRange_7 (fun _ => ?_) (fun _ => ?_)
      · refine z_iconst (v := 0) hX (by decide) dX9_inRange_14 ?_
        refine z_pure ?_
        refine z_sub [] rfl ?_
        exact kj1 0
      · refine z_iconst (v := 1) hX (by decide) dX9_inRange_10 ?_
        refine z_goto hX 15 (by decide) dX9_inRange_11 ?_
        refine z_pure ?_
        refine z_sub [] rfl ?_
        exact kj1 1
theorem c_X9_inRange (l : Launch) (hl : l.stackTraces = false) (M : Mem) (v0 : Int32) (v1 : Int32) (v2 : Int32) (o : Int32) (ho : f_X9_inRange M v0 v1 v2 = some o) : Ct l yX9_inRange cX9_inRange 3 (some .boolean) rm_X9_inRange [.int v0, .int v1, .int v2] M (some (.int o)) M :=
  Ct.of hl (by decide +kernel) (Nat.le_of_ble_eq_true rfl) rfl (fun X hX hin => z_X9_inRange hX M v0 v1 v2 o ho)
theorem okS_X9_inRange : okS yX9_inRange cX9_inRange 3 (some .boolean) 3 := ⟨q_1468, q_96, q_1469, by unfold okY; decide +kernel⟩
/-! ParticipatoryBudgetModel.has(II)Z -/
abbrev rm_X9_has : Room := { frames := 0, cells := 0, slots := 0, locals := 0 }
set_option maxRecDepth 20000 in
set_option maxHeartbeats 4000000 in
theorem z_X9_has {X : Cxt} (hX : okX X cX9_has RX9 rm_X9_has (some .boolean) 2) (M : Mem) (v0 : Int32) (v1 : Int32) : Zj X (fun o : Int32 => Qr X rm_X9_has.cells rm_X9_has.slots (some (.int o)) M) 0 0 0 [(0, .int v0), (1, .int v1)] [] M (f_X9_has M v0 v1) := by
  unfold f_X9_has
  refine z_iload_n hX 0 rfl rfl dX9_has_0 ?_
  refine z_iload_n hX 1 rfl rfl dX9_has_1 ?_
  refine z_ishr hX dX9_has_2 ?_
  refine z_iconst (v := 1) hX (by decide) dX9_has_3 ?_
  refine z_iand hX dX9_has_4 ?_
  refine z_iconst (v := 1) hX (by decide) dX9_has_5 ?_
  refine z_jn (C' := 0) (S' := 0) 14 (fun (j1 : Int32) => []) (fun (j1 : Int32) => [.int j1]) (fun (j1 : Int32) => M) (fun j1 => ?_) (fun kj1 => ?_)
  · exact z_zretP hX dX9_has_14 (Nat.le_of_ble_eq_true rfl) (Nat.le_of_ble_eq_true rfl)
  · refine z_iteB ?_
    refine z_icmp_ne hX 13 (by decide) dX9_has_6 (fun _ => ?_) (fun _ => ?_)
    · refine z_iconst (v := 0) hX (by decide) dX9_has_13 ?_
      refine z_pure ?_
      refine z_sub [] rfl ?_
      exact kj1 0
    · refine z_iconst (v := 1) hX (by decide) dX9_has_9 ?_
      refine z_goto hX 14 (by decide) dX9_has_10 ?_
      refine z_pure ?_
      refine z_sub [] rfl ?_
      exact kj1 1
theorem c_X9_has (l : Launch) (hl : l.stackTraces = false) (M : Mem) (v0 : Int32) (v1 : Int32) (o : Int32) (ho : f_X9_has M v0 v1 = some o) : Ct l yX9_has cX9_has 2 (some .boolean) rm_X9_has [.int v0, .int v1] M (some (.int o)) M :=
  Ct.of hl (by decide +kernel) (Nat.le_of_ble_eq_true rfl) rfl (fun X hX hin => z_X9_has hX M v0 v1 o ho)
theorem okS_X9_has : okS yX9_has cX9_has 2 (some .boolean) 2 := ⟨q_1538, q_96, q_1539, by unfold okY; decide +kernel⟩
/-! ParticipatoryBudgetModel.fails(Z)Z -/
abbrev rm_X9_fails : Room := { frames := 0, cells := 0, slots := 0, locals := 0 }
set_option maxRecDepth 20000 in
set_option maxHeartbeats 4000000 in
theorem z_X9_fails {X : Cxt} (hX : okX X cX9_fails RX9 rm_X9_fails (some .boolean) 2) (M : Mem) (v0 : Nat) (v1 : Int32) : Zj X (fun o : Int32 × Mem => Qr X rm_X9_fails.cells rm_X9_fails.slots (some (.int o.1)) o.2) 0 0 0 [(0, .ref v0), (1, .int v1)] [] M (f_X9_fails M v0 v1) := by
  unfold f_X9_fails
  refine z_aload_n hX 0 rfl rfl dX9_fails_0 ?_
  refine z_iload_n hX 1 rfl rfl dX9_fails_1 ?_
  refine z_jn (C' := 0) (S' := 0) 10 (fun (j1 : Int32) => [(1, .int v1)]) (fun (j1 : Int32) => [.int j1, .ref v0]) (fun (j1 : Int32) => M) (fun j1 => ?_) (fun kj1 => ?_)
  · refine z_pFI 9 4 hX (by decide) rfl (by decide) rfl q_1315 rfl pd_1 rfl rfl dX9_fails_10 (fun M2 => ?_)
    refine z_iload_n hX 0 rfl rfl dX9_fails_13 ?_
    refine z_jn (C' := 0) (S' := 0) 22 (fun (j3 : Int32) => []) (fun (j3 : Int32) => [.int j3]) (fun (j3 : Int32) => M2) (fun j3 => ?_) (fun kj3 => ?_)
    · exact z_zretM hX dX9_fails_22 (Nat.le_of_ble_eq_true rfl) (Nat.le_of_ble_eq_true rfl)
    · refine z_iteB ?_
      refine z_if_ne hX 21 (by decide) dX9_fails_14 (fun _ => ?_) (fun _ => ?_)
      · refine z_iconst (v := 0) hX (by decide) dX9_fails_21 ?_
        refine z_pure ?_
        refine z_sub [] rfl ?_
        exact kj3 0
      · refine z_iconst (v := 1) hX (by decide) dX9_fails_17 ?_
        refine z_goto hX 22 (by decide) dX9_fails_18 ?_
        refine z_pure ?_
        refine z_sub [] rfl ?_
        exact kj3 1
  · refine z_iteB ?_
    refine z_if_eq hX 9 (by decide) dX9_fails_2 (fun _ => ?_) (fun _ => ?_)
    · refine z_iconst (v := 1) hX (by decide) dX9_fails_9 ?_
      refine z_pure ?_
      refine z_sub [1] rfl ?_
      exact kj1 1
    · refine z_iconst (v := 0) hX (by decide) dX9_fails_5 ?_
      refine z_goto hX 10 (by decide) dX9_fails_6 ?_
      refine z_pure ?_
      refine z_sub [1] rfl ?_
      exact kj1 0
theorem c_X9_fails (l : Launch) (hl : l.stackTraces = false) (M : Mem) (v0 : Nat) (v1 : Int32) (o : Int32 × Mem) (ho : f_X9_fails M v0 v1 = some o) : Ct l yX9_fails cX9_fails 2 (some .boolean) rm_X9_fails [.ref v0, .int v1] M (some (.int o.1)) o.2 :=
  Ct.of hl (by decide +kernel) (Nat.le_of_ble_eq_true rfl) rfl (fun X hX hin => z_X9_fails hX M v0 v1 o ho)
theorem okV_X9_fails : okV yX9_fails cX9_fails 2 (some .boolean) 1 := ⟨q_1589, q_44, q_96, q_1590, by unfold okY; decide +kernel⟩
/-! ParticipatoryBudgetModel.leastOf(I)I -/
abbrev rm_X9_leastOf : Room := { frames := 0, cells := 0, slots := 0, locals := 0 }
set_option maxRecDepth 20000 in
set_option maxHeartbeats 4000000 in
theorem z_X9_leastOf {X : Cxt} (hX : okX X cX9_leastOf RX9 rm_X9_leastOf (some .int) 1) (M : Mem) (v0 : Int32) : Zj X (fun o : Int32 => Qr X rm_X9_leastOf.cells rm_X9_leastOf.slots (some (.int o)) M) 0 0 0 [(0, .int v0)] [] M (f_X9_leastOf M v0) := by
  unfold f_X9_leastOf
  refine z_iload_n hX 0 rfl rfl dX9_leastOf_0 ?_
  refine z_iconst (v := 2) hX (by decide) dX9_leastOf_1 ?_
  refine z_jn (C' := 0) (S' := 0) 10 (fun (j1 : Int32) => []) (fun (j1 : Int32) => [.int j1]) (fun (j1 : Int32) => M) (fun j1 => ?_) (fun kj1 => ?_)
  · exact z_iretP hX dX9_leastOf_10 (Nat.le_of_ble_eq_true rfl) (Nat.le_of_ble_eq_true rfl)
  · refine z_iteB ?_
    refine z_icmp_ne hX 9 (by decide) dX9_leastOf_2 (fun _ => ?_) (fun _ => ?_)
    · refine z_iconst (v := 0) hX (by decide) dX9_leastOf_9 ?_
      refine z_pure ?_
      refine z_sub [] rfl ?_
      exact kj1 0
    · refine z_iconst (v := 1) hX (by decide) dX9_leastOf_5 ?_
      refine z_goto hX 10 (by decide) dX9_leastOf_6 ?_
      refine z_pure ?_
      refine z_sub [] rfl ?_
      exact kj1 1
theorem c_X9_leastOf (l : Launch) (hl : l.stackTraces = false) (M : Mem) (v0 : Int32) (o : Int32) (ho : f_X9_leastOf M v0 = some o) : Ct l yX9_leastOf cX9_leastOf 1 (some .int) rm_X9_leastOf [.int v0] M (some (.int o)) M :=
  Ct.of hl (by decide +kernel) (Nat.le_of_ble_eq_true rfl) rfl (fun X hX hin => z_X9_leastOf hX M v0 o ho)
theorem okS_X9_leastOf : okS yX9_leastOf cX9_leastOf 1 (some .int) 1 := ⟨q_1554, q_96, q_1555, by unfold okY; decide +kernel⟩
/-! ParticipatoryBudgetModel.mostOf(I)I -/
abbrev rm_X9_mostOf : Room := { frames := 0, cells := 0, slots := 0, locals := 0 }
set_option maxRecDepth 20000 in
set_option maxHeartbeats 4000000 in
theorem z_X9_mostOf {X : Cxt} (hX : okX X cX9_mostOf RX9 rm_X9_mostOf (some .int) 1) (M : Mem) (v0 : Int32) : Zj X (fun o : Int32 => Qr X rm_X9_mostOf.cells rm_X9_mostOf.slots (some (.int o)) M) 0 0 0 [(0, .int v0)] [] M (f_X9_mostOf M v0) := by
  unfold f_X9_mostOf
  refine z_iload_n hX 0 rfl rfl dX9_mostOf_0 ?_
  refine z_iconst (v := 2) hX (by decide) dX9_mostOf_1 ?_
  refine z_jn (C' := 0) (S' := 0) 21 (fun (j1 : Int32) => []) (fun (j1 : Int32) => [.int j1]) (fun (j1 : Int32) => M) (fun j1 => ?_) (fun kj1 => ?_)
  · exact z_iretP hX dX9_mostOf_21 (Nat.le_of_ble_eq_true rfl) (Nat.le_of_ble_eq_true rfl)
  · refine z_iteB ?_
    refine z_icmp_ne hX 11 (by decide) dX9_mostOf_2 (fun _ => ?_) (fun _ => ?_)
    · refine z_iload_n hX 0 rfl rfl dX9_mostOf_11 ?_
      refine z_iconst (v := 1) hX (by decide) dX9_mostOf_12 ?_
      refine z_iteB ?_
      refine z_icmp_ne hX 20 (by decide) dX9_mostOf_13 (fun _ => ?_) (fun _ => ?_)
      · refine z_iconst (v := 1) hX (by decide) dX9_mostOf_20 ?_
        refine z_pure ?_
        refine z_sub [] rfl ?_
        exact kj1 1
      · refine z_iconst (v := 2) hX (by decide) dX9_mostOf_16 ?_
        refine z_goto hX 21 (by decide) dX9_mostOf_17 ?_
        refine z_pure ?_
        refine z_sub [] rfl ?_
        exact kj1 2
    · refine z_sipush (v := 1000) hX (by decide) dX9_mostOf_5 ?_
      refine z_goto hX 21 (by decide) dX9_mostOf_8 ?_
      refine z_pure ?_
      refine z_sub [] rfl ?_
      exact kj1 1000
theorem c_X9_mostOf (l : Launch) (hl : l.stackTraces = false) (M : Mem) (v0 : Int32) (o : Int32) (ho : f_X9_mostOf M v0 = some o) : Ct l yX9_mostOf cX9_mostOf 1 (some .int) rm_X9_mostOf [.int v0] M (some (.int o)) M :=
  Ct.of hl (by decide +kernel) (Nat.le_of_ble_eq_true rfl) rfl (fun X hX hin => z_X9_mostOf hX M v0 o ho)
theorem okS_X9_mostOf : okS yX9_mostOf cX9_mostOf 1 (some .int) 1 := ⟨q_1557, q_96, q_1558, by unfold okY; decide +kernel⟩
/-! ParticipatoryBudgetModel.remember()V -/
abbrev rm_X9_remember : Room := { frames := 0, cells := 0, slots := 0, locals := 0 }
set_option maxRecDepth 20000 in
set_option maxHeartbeats 4000000 in
theorem z_X9_remember {X : Cxt} (hX : okX X cX9_remember RX9 rm_X9_remember (none) 2) (M : Mem) (v0 : Nat) : Zj X (fun o : Mem => Qr X rm_X9_remember.cells rm_X9_remember.slots (none) o) 0 0 0 [(0, .ref v0)] [] M (f_X9_remember M v0) := by
  unfold f_X9_remember
  refine z_aload_n hX 0 rfl rfl dX9_remember_0 ?_
  refine z_gFI 9 3 hX (by decide) rfl (by decide) rfl q_1314 dX9_remember_1 (fun x1 => ?_)
  refine z_bipush (v := 10) hX (by decide) dX9_remember_4 ?_
  refine z_jn (C' := 0) (S' := 0) 50 (fun (j2 : Mem) => [(0, .ref v0)]) (fun (j2 : Mem) => []) (fun (j2 : Mem) => j2) (fun j2 => ?_) (fun kj2 => ?_)
  · refine z_iconst (v := 0) hX (by decide) dX9_remember_50 ?_
    refine z_istore_n hX [(1, .int 0), (0, .ref v0)] rfl (by decide) rfl dX9_remember_51 ?_
    refine z_sub [1, 0] rfl ?_
    refine z_lp (x0 := (0, j2)) (bd_X9_remember_52 v0) 52 84 (fun (u3 : Int32 × Mem) => [(0, .ref v0), (1, .int u3.1)]) (fun (e4 : Int32 × Mem) => [(0, .ref v0)]) (fun (u3 : Int32 × Mem) => u3.2) ?_ ?_
    · intro e4
      refine z_aload_n hX 0 rfl rfl dX9_remember_84 ?_
      refine z_dup hX rfl dX9_remember_85 ?_
      refine z_gFI 9 3 hX (by decide) rfl (by decide) rfl q_1314 dX9_remember_86 (fun x12 => ?_)
      refine z_iconst (v := 1) hX (by decide) dX9_remember_89 ?_
      refine z_iadd hX dX9_remember_90 ?_
      refine z_pFI 9 3 hX (by decide) rfl (by decide) rfl q_1314 rfl pd_1 rfl rfl dX9_remember_91 (fun M13 => ?_)
      exact z_vretM hX dX9_remember_94 (Nat.le_of_ble_eq_true rfl) (Nat.le_of_ble_eq_true rfl)
    · intro kk5 rc6 hkk5 hrc6 u3
      unfold bd_X9_remember_52
      refine z_iload_n hX 1 rfl rfl dX9_remember_52 ?_
      refine z_bipush (v := 92) hX (by decide) dX9_remember_53 ?_
      refine z_icmp_ge hX 84 (by decide) dX9_remember_55 (fun _ => ?_) (fun _ => ?_)
      · refine z_sub [0] rfl ?_
        exact hkk5 (u3.1, u3.2)
      · refine z_aload_n hX 0 rfl rfl dX9_remember_58 ?_
        refine z_gFR 9 2 hX (by decide) rfl (by decide) rfl q_1313 dX9_remember_59 (fun r7 => ?_)
        refine z_aload_n hX 0 rfl rfl dX9_remember_62 ?_
        refine z_gFI 9 3 hX (by decide) rfl (by decide) rfl q_1314 dX9_remember_63 (fun x8 => ?_)
        refine z_bipush (v := 92) hX (by decide) dX9_remember_66 ?_
        refine z_imul hX dX9_remember_68 ?_
        refine z_iload_n hX 1 rfl rfl dX9_remember_69 ?_
        refine z_iadd hX dX9_remember_70 ?_
        refine z_aload_n hX 0 rfl rfl dX9_remember_71 ?_
        refine z_gFR 9 0 hX (by decide) rfl (by decide) rfl q_1311 dX9_remember_72 (fun r9 => ?_)
        refine z_iload_n hX 1 rfl rfl dX9_remember_75 ?_
        refine z_aI hX dX9_remember_76 (fun x10 => ?_)
        refine z_wI hX dX9_remember_77 (fun M11 => ?_)
        refine z_iinc hX 1 [(1, .int (u3.1 + 1)), (0, .ref v0)] rfl rfl (by decide) rfl dX9_remember_78 ?_
        refine z_goto hX 52 (by decide) dX9_remember_81 ?_
        refine z_sub [1, 0] rfl ?_
        exact hrc6 (u3.1 + 1, M11)
  · refine z_iteB ?_
    refine z_icmp_ne hX 50 (by decide) dX9_remember_6 (fun _ => ?_) (fun _ => ?_)
    · refine z_pure ?_
      refine z_sub [0] rfl ?_
      exact kj2 M
    · refine z_bipush (v := 92) hX (by decide) dX9_remember_9 ?_
      refine z_istore_n hX [(1, .int 92), (0, .ref v0)] rfl (by decide) rfl dX9_remember_11 ?_
      refine z_sub [1, 0] rfl ?_
      refine z_lpB (x0 := (92, M)) (bd_X9_remember_12 v0) 12 40 (fun (u14 : Int32 × Mem) => [(0, .ref v0), (1, .int u14.1)]) (fun (e15 : Int32 × Mem) => [(0, .ref v0)]) (fun (u14 : Int32 × Mem) => u14.2) ?_ ?_
      · intro e15
        refine z_aload_n hX 0 rfl rfl dX9_remember_40 ?_
        refine z_dup hX rfl dX9_remember_41 ?_
        refine z_asc ?_
        refine z_gFI 9 3 hX (by decide) rfl (by decide) rfl q_1314 dX9_remember_42 (fun x22 => ?_)
        refine z_iconst (v := 1) hX (by decide) dX9_remember_45 ?_
        refine z_isub hX dX9_remember_46 ?_
        refine z_asc ?_
        refine z_pFI 9 3 hX (by decide) rfl (by decide) rfl q_1314 rfl pd_1 rfl rfl dX9_remember_47 (fun M23 => ?_)
        refine z_pure ?_
        refine z_sub [0] rfl ?_
        exact kj2 M23
      · intro kk16 rc17 hkk16 hrc17 u14
        unfold bd_X9_remember_12
        refine z_iload_n hX 1 rfl rfl dX9_remember_12 ?_
        refine z_sipush (v := 920) hX (by decide) dX9_remember_13 ?_
        refine z_iteB ?_
        refine z_icmp_ge hX 40 (by decide) dX9_remember_16 (fun _ => ?_) (fun _ => ?_)
        · refine z_sub [0] rfl ?_
          exact hkk16 (u14.1, u14.2)
        · refine z_aload_n hX 0 rfl rfl dX9_remember_19 ?_
          refine z_asc ?_
          refine z_gFR 9 2 hX (by decide) rfl (by decide) rfl q_1313 dX9_remember_20 (fun r18 => ?_)
          refine z_iload_n hX 1 rfl rfl dX9_remember_23 ?_
          refine z_bipush (v := 92) hX (by decide) dX9_remember_24 ?_
          refine z_isub hX dX9_remember_26 ?_
          refine z_aload_n hX 0 rfl rfl dX9_remember_27 ?_
          refine z_asc ?_
          refine z_gFR 9 2 hX (by decide) rfl (by decide) rfl q_1313 dX9_remember_28 (fun r19 => ?_)
          refine z_iload_n hX 1 rfl rfl dX9_remember_31 ?_
          refine z_asc ?_
          refine z_aI hX dX9_remember_32 (fun x20 => ?_)
          refine z_asc ?_
          refine z_wI hX dX9_remember_33 (fun M21 => ?_)
          refine z_iinc hX 1 [(1, .int (u14.1 + 1)), (0, .ref v0)] rfl rfl (by decide) rfl dX9_remember_34 ?_
          refine z_goto hX 12 (by decide) dX9_remember_37 ?_
          refine z_sub [1, 0] rfl ?_
          exact hrc17 (u14.1 + 1, M21)
theorem c_X9_remember (l : Launch) (hl : l.stackTraces = false) (M : Mem) (v0 : Nat) (o : Mem) (ho : f_X9_remember M v0 = some o) : Ct l yX9_remember cX9_remember 2 (none) rm_X9_remember [.ref v0] M (none) o :=
  Ct.of hl (by decide +kernel) (Nat.le_of_ble_eq_true rfl) rfl (fun X hX hin => z_X9_remember hX M v0 o ho)
theorem okV_X9_remember : okV yX9_remember cX9_remember 2 (none) 0 := ⟨q_1945, q_84, q_96, q_1946, by unfold okY; decide +kernel⟩
/-! ParticipatoryBudgetModel.undo()I -/
abbrev rm_X9_undo : Room := { frames := 0, cells := 0, slots := 0, locals := 0 }
set_option maxRecDepth 20000 in
set_option maxHeartbeats 4000000 in
theorem z_X9_undo {X : Cxt} (hX : okX X cX9_undo RX9 rm_X9_undo (some .int) 2) (M : Mem) (v0 : Nat) : Zj X (fun o : Int32 × Mem => Qr X rm_X9_undo.cells rm_X9_undo.slots (some (.int o.1)) o.2) 0 0 0 [(0, .ref v0)] [] M (f_X9_undo M v0) := by
  unfold f_X9_undo
  refine z_aload_n hX 0 rfl rfl dX9_undo_0 ?_
  refine z_iconst (v := 0) hX (by decide) dX9_undo_1 ?_
  refine z_pFI 9 4 hX (by decide) rfl (by decide) rfl q_1315 rfl pd_1 rfl rfl dX9_undo_2 (fun M1 => ?_)
  refine z_aload_n hX 0 rfl rfl dX9_undo_5 ?_
  refine z_gFI 9 3 hX (by decide) rfl (by decide) rfl q_1314 dX9_undo_6 (fun x2 => ?_)
  refine z_if_ne hX 14 (by decide) dX9_undo_9 (fun _ => ?_) (fun _ => ?_)
  · refine z_aload_n hX 0 rfl rfl dX9_undo_14 ?_
    refine z_dup hX rfl dX9_undo_15 ?_
    refine z_gFI 9 3 hX (by decide) rfl (by decide) rfl q_1314 dX9_undo_16 (fun x3 => ?_)
    refine z_iconst (v := 1) hX (by decide) dX9_undo_19 ?_
    refine z_isub hX dX9_undo_20 ?_
    refine z_pFI 9 3 hX (by decide) rfl (by decide) rfl q_1314 rfl pd_1 rfl rfl dX9_undo_21 (fun M4 => ?_)
    refine z_iconst (v := 0) hX (by decide) dX9_undo_24 ?_
    refine z_istore_n hX [(1, .int 0), (0, .ref v0)] rfl (by decide) rfl dX9_undo_25 ?_
    refine z_sub [1, 0] rfl ?_
    refine z_lp (x0 := (0, M4)) (bd_X9_undo_26 v0) 26 58 (fun (u5 : Int32 × Mem) => [(0, .ref v0), (1, .int u5.1)]) (fun (e6 : Int32 × Mem) => [(0, .ref v0)]) (fun (u5 : Int32 × Mem) => u5.2) ?_ ?_
    · intro e6
      refine z_aload_n hX 0 rfl rfl dX9_undo_58 ?_
      refine z_gFI 9 3 hX (by decide) rfl (by decide) rfl q_1314 dX9_undo_59 (fun x14 => ?_)
      exact z_iretM hX dX9_undo_62 (Nat.le_of_ble_eq_true rfl) (Nat.le_of_ble_eq_true rfl)
    · intro kk7 rc8 hkk7 hrc8 u5
      unfold bd_X9_undo_26
      refine z_iload_n hX 1 rfl rfl dX9_undo_26 ?_
      refine z_bipush (v := 92) hX (by decide) dX9_undo_27 ?_
      refine z_icmp_ge hX 58 (by decide) dX9_undo_29 (fun _ => ?_) (fun _ => ?_)
      · refine z_sub [0] rfl ?_
        exact hkk7 (u5.1, u5.2)
      · refine z_aload_n hX 0 rfl rfl dX9_undo_32 ?_
        refine z_gFR 9 0 hX (by decide) rfl (by decide) rfl q_1311 dX9_undo_33 (fun r9 => ?_)
        refine z_iload_n hX 1 rfl rfl dX9_undo_36 ?_
        refine z_aload_n hX 0 rfl rfl dX9_undo_37 ?_
        refine z_gFR 9 2 hX (by decide) rfl (by decide) rfl q_1313 dX9_undo_38 (fun r10 => ?_)
        refine z_aload_n hX 0 rfl rfl dX9_undo_41 ?_
        refine z_gFI 9 3 hX (by decide) rfl (by decide) rfl q_1314 dX9_undo_42 (fun x11 => ?_)
        refine z_bipush (v := 92) hX (by decide) dX9_undo_45 ?_
        refine z_imul hX dX9_undo_47 ?_
        refine z_iload_n hX 1 rfl rfl dX9_undo_48 ?_
        refine z_iadd hX dX9_undo_49 ?_
        refine z_aI hX dX9_undo_50 (fun x12 => ?_)
        refine z_wI hX dX9_undo_51 (fun M13 => ?_)
        refine z_iinc hX 1 [(1, .int (u5.1 + 1)), (0, .ref v0)] rfl rfl (by decide) rfl dX9_undo_52 ?_
        refine z_goto hX 26 (by decide) dX9_undo_55 ?_
        refine z_sub [1, 0] rfl ?_
        exact hrc8 (u5.1 + 1, M13)
  · refine z_iconst (v := (-1)) hX (by decide) dX9_undo_12 ?_
    exact z_iretM hX dX9_undo_13 (Nat.le_of_ble_eq_true rfl) (Nat.le_of_ble_eq_true rfl)
theorem c_X9_undo (l : Launch) (hl : l.stackTraces = false) (M : Mem) (v0 : Nat) (o : Int32 × Mem) (ho : f_X9_undo M v0 = some o) : Ct l yX9_undo cX9_undo 2 (some .int) rm_X9_undo [.ref v0] M (some (.int o.1)) o.2 :=
  Ct.of hl (by decide +kernel) (Nat.le_of_ble_eq_true rfl) rfl (fun X hX hin => z_X9_undo hX M v0 o ho)
theorem okV_X9_undo : okV yX9_undo cX9_undo 2 (some .int) 0 := ⟨q_1444, q_1445, q_96, q_1446, by unfold okY; decide +kernel⟩
/-! ParticipatoryBudgetModel.undoCount()I -/
abbrev rm_X9_undoCount : Room := { frames := 0, cells := 0, slots := 0, locals := 0 }
set_option maxRecDepth 20000 in
set_option maxHeartbeats 4000000 in
theorem z_X9_undoCount {X : Cxt} (hX : okX X cX9_undoCount RX9 rm_X9_undoCount (some .int) 1) (M : Mem) (v0 : Nat) : Zj X (fun o : Int32 × Mem => Qr X rm_X9_undoCount.cells rm_X9_undoCount.slots (some (.int o.1)) o.2) 0 0 0 [(0, .ref v0)] [] M (f_X9_undoCount M v0) := by
  unfold f_X9_undoCount
  refine z_aload_n hX 0 rfl rfl dX9_undoCount_0 ?_
  refine z_iconst (v := 0) hX (by decide) dX9_undoCount_1 ?_
  refine z_pFI 9 4 hX (by decide) rfl (by decide) rfl q_1315 rfl pd_1 rfl rfl dX9_undoCount_2 (fun M1 => ?_)
  refine z_aload_n hX 0 rfl rfl dX9_undoCount_5 ?_
  refine z_gFI 9 3 hX (by decide) rfl (by decide) rfl q_1314 dX9_undoCount_6 (fun x2 => ?_)
  exact z_iretM hX dX9_undoCount_9 (Nat.le_of_ble_eq_true rfl) (Nat.le_of_ble_eq_true rfl)
theorem c_X9_undoCount (l : Launch) (hl : l.stackTraces = false) (M : Mem) (v0 : Nat) (o : Int32 × Mem) (ho : f_X9_undoCount M v0 = some o) : Ct l yX9_undoCount cX9_undoCount 1 (some .int) rm_X9_undoCount [.ref v0] M (some (.int o.1)) o.2 :=
  Ct.of hl (by decide +kernel) (Nat.le_of_ble_eq_true rfl) rfl (fun X hX hin => z_X9_undoCount hX M v0 o ho)
theorem okV_X9_undoCount : okV yX9_undoCount cX9_undoCount 1 (some .int) 0 := ⟨q_1448, q_1449, q_96, q_1450, by unfold okY; decide +kernel⟩
/-! ParticipatoryBudgetModel.append(I)V -/
abbrev rm_X9_append : Room := { frames := 0, cells := 0, slots := 0, locals := 0 }
set_option maxRecDepth 20000 in
set_option maxHeartbeats 4000000 in
theorem z_X9_append {X : Cxt} (hX : okX X cX9_append RX9 rm_X9_append (none) 3) (M : Mem) (v0 : Nat) (v1 : Int32) : Zj X (fun o : Mem => Qr X rm_X9_append.cells rm_X9_append.slots (none) o) 0 0 0 [(0, .ref v0), (1, .int v1)] [] M (f_X9_append M v0 v1) := by
  unfold f_X9_append
  refine z_bipush (v := 24) hX (by decide) dX9_append_0 ?_
  refine z_istore_n hX [(2, .int 24), (0, .ref v0), (1, .int v1)] rfl (by decide) rfl dX9_append_2 ?_
  refine z_sub [1, 2, 0] rfl ?_
  refine z_lp (x0 := (24, M)) (bd_X9_append_3 v0 v1) 3 36 (fun (u1 : Int32 × Mem) => [(0, .ref v0), (1, .int v1), (2, .int u1.1)]) (fun (e2 : Int32 × Mem) => []) (fun (u1 : Int32 × Mem) => u1.2) ?_ ?_
  · intro e2
    exact z_vretM hX dX9_append_36 (Nat.le_of_ble_eq_true rfl) (Nat.le_of_ble_eq_true rfl)
  · intro kk3 rc4 hkk3 hrc4 u1
    unfold bd_X9_append_3
    refine z_iload_n hX 2 rfl rfl dX9_append_3 ?_
    refine z_if_lt hX 36 (by decide) dX9_append_4 (fun _ => ?_) (fun _ => ?_)
    · refine z_sub [] rfl ?_
      exact hkk3 (u1.1, u1.2)
    · refine z_aload_n hX 0 rfl rfl dX9_append_7 ?_
      refine z_gFR 9 17 hX (by decide) rfl (by decide) rfl q_1328 dX9_append_8 (fun r5 => ?_)
      refine z_aload_n hX 0 rfl rfl dX9_append_11 ?_
      refine z_gFI 9 18 hX (by decide) rfl (by decide) rfl q_1329 dX9_append_12 (fun x6 => ?_)
      refine z_iload_n hX 1 rfl rfl dX9_append_15 ?_
      refine z_iload_n hX 2 rfl rfl dX9_append_16 ?_
      refine z_ishr hX dX9_append_17 ?_
      refine z_i2b hX rfl dX9_append_18 ?_
      refine z_wB hX dX9_append_19 (fun M7 => ?_)
      refine z_aload_n hX 0 rfl rfl dX9_append_20 ?_
      refine z_dup hX rfl dX9_append_21 ?_
      refine z_gFI 9 18 hX (by decide) rfl (by decide) rfl q_1329 dX9_append_22 (fun x8 => ?_)
      refine z_iconst (v := 1) hX (by decide) dX9_append_25 ?_
      refine z_iadd hX dX9_append_26 ?_
      refine z_pFI 9 18 hX (by decide) rfl (by decide) rfl q_1329 rfl pd_1 rfl rfl dX9_append_27 (fun M9 => ?_)
      obtain ⟨w10, hw10⟩ : ∃ z : Int32, u1.1 + (-8) = z := ⟨_, rfl⟩
      rw [hw10]
      refine z_iinc hX 2 [(2, .int w10), (0, .ref v0), (1, .int v1)] rfl ((congrArg (fun z : Int32 => u1.1 + z) (show Int32.ofInt (-8) = (-8) by decide)).trans hw10) (by decide) rfl dX9_append_30 ?_
      refine z_goto hX 3 (by decide) dX9_append_33 ?_
      refine z_sub [1, 2, 0] rfl ?_
      exact hrc4 (w10, M9)
theorem c_X9_append (l : Launch) (hl : l.stackTraces = false) (M : Mem) (v0 : Nat) (v1 : Int32) (o : Mem) (ho : f_X9_append M v0 v1 = some o) : Ct l yX9_append cX9_append 3 (none) rm_X9_append [.ref v0, .int v1] M (none) o :=
  Ct.of hl (by decide +kernel) (Nat.le_of_ble_eq_true rfl) rfl (fun X hX hin => z_X9_append hX M v0 v1 o ho)
theorem okV_X9_append : okV yX9_append cX9_append 3 (none) 1 := ⟨q_1457, q_26, q_96, q_1458, by unfold okY; decide +kernel⟩
/-! ParticipatoryBudgetModel.feed(IIIII)I -/
abbrev rm_X9_feed : Room := { frames := 1, cells := 0, slots := 0, locals := 22 }
set_option maxRecDepth 20000 in
set_option maxHeartbeats 4000000 in
theorem z_X9_feed {X : Cxt} (hX : okX X cX9_feed RX9 rm_X9_feed (some .int) 6) (M : Mem) (v0 : Nat) (v1 : Int32) (v2 : Int32) (v3 : Int32) (v4 : Int32) (v5 : Int32) : Zj X (fun o : Int32 × Mem => Qr X rm_X9_feed.cells rm_X9_feed.slots (some (.int o.1)) o.2) 0 0 0 [(0, .ref v0), (1, .int v1), (2, .int v2), (3, .int v3), (4, .int v4), (5, .int v5)] [] M (f_X9_feed M v0 v1 v2 v3 v4 v5) := by
  unfold f_X9_feed
  refine z_aload_n hX 0 rfl rfl dX9_feed_0 ?_
  refine z_iconst (v := 0) hX (by decide) dX9_feed_1 ?_
  refine z_pFI 9 4 hX (by decide) rfl (by decide) rfl q_1315 rfl pd_1 rfl rfl dX9_feed_2 (fun M1 => ?_)
  refine z_aload_n hX 0 rfl rfl dX9_feed_5 ?_
  refine z_gFI 9 18 hX (by decide) rfl (by decide) rfl q_1329 dX9_feed_6 (fun x2 => ?_)
  refine z_bipush (v := 20) hX (by decide) dX9_feed_9 ?_
  refine z_iadd hX dX9_feed_11 ?_
  refine z_sipush (v := 1200) hX (by decide) dX9_feed_12 ?_
  refine z_icmp_le hX 21 (by decide) dX9_feed_15 (fun _ => ?_) (fun _ => ?_)
  · refine z_aload_n hX 0 rfl rfl dX9_feed_21 ?_
    refine z_iload_n hX 1 rfl rfl dX9_feed_22 ?_
    refine z_cVVm 9 [.int v1] hX (fun l hl o ho => c_X9_append l hl M1 v0 v1 o ho) dX9_feed_23 (by decide) rfl rfl q_1455 okV_X9_append rfl ⟨(Nat.le_of_ble_eq_true rfl), (Nat.le_of_ble_eq_true rfl)⟩ rfl (Nat.le_of_ble_eq_true rfl) rfl rfl ⟨(Nat.le_of_ble_eq_true rfl), (Nat.le_of_ble_eq_true rfl)⟩ (fun o3 => ?_)
    refine z_aload_n hX 0 rfl rfl dX9_feed_26 ?_
    refine z_iload_n hX 2 rfl rfl dX9_feed_27 ?_
    refine z_cVVm 9 [.int v2] hX (fun l hl o ho => c_X9_append l hl o3 v0 v2 o ho) dX9_feed_28 (by decide) rfl rfl q_1455 okV_X9_append rfl ⟨(Nat.le_of_ble_eq_true rfl), (Nat.le_of_ble_eq_true rfl)⟩ rfl (Nat.le_of_ble_eq_true rfl) rfl rfl ⟨(Nat.le_of_ble_eq_true rfl), (Nat.le_of_ble_eq_true rfl)⟩ (fun o4 => ?_)
    refine z_aload_n hX 0 rfl rfl dX9_feed_31 ?_
    refine z_iload_n hX 3 rfl rfl dX9_feed_32 ?_
    refine z_cVVm 9 [.int v3] hX (fun l hl o ho => c_X9_append l hl o4 v0 v3 o ho) dX9_feed_33 (by decide) rfl rfl q_1455 okV_X9_append rfl ⟨(Nat.le_of_ble_eq_true rfl), (Nat.le_of_ble_eq_true rfl)⟩ rfl (Nat.le_of_ble_eq_true rfl) rfl rfl ⟨(Nat.le_of_ble_eq_true rfl), (Nat.le_of_ble_eq_true rfl)⟩ (fun o5 => ?_)
    refine z_aload_n hX 0 rfl rfl dX9_feed_36 ?_
    refine z_iload hX 4 rfl dX9_feed_37 ?_
    refine z_cVVm 9 [.int v4] hX (fun l hl o ho => c_X9_append l hl o5 v0 v4 o ho) dX9_feed_39 (by decide) rfl rfl q_1455 okV_X9_append rfl ⟨(Nat.le_of_ble_eq_true rfl), (Nat.le_of_ble_eq_true rfl)⟩ rfl (Nat.le_of_ble_eq_true rfl) rfl rfl ⟨(Nat.le_of_ble_eq_true rfl), (Nat.le_of_ble_eq_true rfl)⟩ (fun o6 => ?_)
    refine z_aload_n hX 0 rfl rfl dX9_feed_42 ?_
    refine z_iload hX 5 rfl dX9_feed_43 ?_
    refine z_cVVm 9 [.int v5] hX (fun l hl o ho => c_X9_append l hl o6 v0 v5 o ho) dX9_feed_45 (by decide) rfl rfl q_1455 okV_X9_append rfl ⟨(Nat.le_of_ble_eq_true rfl), (Nat.le_of_ble_eq_true rfl)⟩ rfl (Nat.le_of_ble_eq_true rfl) rfl rfl ⟨(Nat.le_of_ble_eq_true rfl), (Nat.le_of_ble_eq_true rfl)⟩ (fun o7 => ?_)
    refine z_aload_n hX 0 rfl rfl dX9_feed_48 ?_
    refine z_gFI 9 18 hX (by decide) rfl (by decide) rfl q_1329 dX9_feed_49 (fun x8 => ?_)
    exact z_iretM hX dX9_feed_52 (Nat.le_of_ble_eq_true rfl) (Nat.le_of_ble_eq_true rfl)
  · refine z_bipush (v := (-3)) hX (by decide) dX9_feed_18 ?_
    exact z_iretM hX dX9_feed_20 (Nat.le_of_ble_eq_true rfl) (Nat.le_of_ble_eq_true rfl)
theorem c_X9_feed (l : Launch) (hl : l.stackTraces = false) (M : Mem) (v0 : Nat) (v1 : Int32) (v2 : Int32) (v3 : Int32) (v4 : Int32) (v5 : Int32) (o : Int32 × Mem) (ho : f_X9_feed M v0 v1 v2 v3 v4 v5 = some o) : Ct l yX9_feed cX9_feed 6 (some .int) rm_X9_feed [.ref v0, .int v1, .int v2, .int v3, .int v4, .int v5] M (some (.int o.1)) o.2 :=
  Ct.of hl (by decide +kernel) (Nat.le_of_ble_eq_true rfl) rfl (fun X hX hin => z_X9_feed hX M v0 v1 v2 v3 v4 v5 o ho)
theorem okV_X9_feed : okV yX9_feed cX9_feed 6 (some .int) 5 := ⟨q_1452, q_1453, q_96, q_1454, by unfold okY; decide +kernel⟩
/-! ParticipatoryBudgetModel.errorPosition()I -/
abbrev rm_X9_errorPosition : Room := { frames := 0, cells := 0, slots := 0, locals := 0 }
set_option maxRecDepth 20000 in
set_option maxHeartbeats 4000000 in
theorem z_X9_errorPosition {X : Cxt} (hX : okX X cX9_errorPosition RX9 rm_X9_errorPosition (some .int) 1) (M : Mem) (v0 : Nat) : Zj X (fun o : Int32 × Mem => Qr X rm_X9_errorPosition.cells rm_X9_errorPosition.slots (some (.int o.1)) o.2) 0 0 0 [(0, .ref v0)] [] M (f_X9_errorPosition M v0) := by
  unfold f_X9_errorPosition
  refine z_aload_n hX 0 rfl rfl dX9_errorPosition_0 ?_
  refine z_iconst (v := 0) hX (by decide) dX9_errorPosition_1 ?_
  refine z_pFI 9 4 hX (by decide) rfl (by decide) rfl q_1315 rfl pd_1 rfl rfl dX9_errorPosition_2 (fun M1 => ?_)
  refine z_aload_n hX 0 rfl rfl dX9_errorPosition_5 ?_
  refine z_gFI 9 26 hX (by decide) rfl (by decide) rfl q_1337 dX9_errorPosition_6 (fun x2 => ?_)
  exact z_iretM hX dX9_errorPosition_9 (Nat.le_of_ble_eq_true rfl) (Nat.le_of_ble_eq_true rfl)
theorem c_X9_errorPosition (l : Launch) (hl : l.stackTraces = false) (M : Mem) (v0 : Nat) (o : Int32 × Mem) (ho : f_X9_errorPosition M v0 = some o) : Ct l yX9_errorPosition cX9_errorPosition 1 (some .int) rm_X9_errorPosition [.ref v0] M (some (.int o.1)) o.2 :=
  Ct.of hl (by decide +kernel) (Nat.le_of_ble_eq_true rfl) rfl (fun X hX hin => z_X9_errorPosition hX M v0 o ho)
theorem okV_X9_errorPosition : okV yX9_errorPosition cX9_errorPosition 1 (some .int) 0 := ⟨q_1460, q_1461, q_96, q_1462, by unfold okY; decide +kernel⟩
/-! ParticipatoryBudgetModel.peek()I -/
abbrev rm_X9_peek : Room := { frames := 0, cells := 0, slots := 0, locals := 0 }
set_option maxRecDepth 20000 in
set_option maxHeartbeats 4000000 in
theorem z_X9_peek {X : Cxt} (hX : okX X cX9_peek RX9 rm_X9_peek (some .int) 1) (M : Mem) (v0 : Nat) : Zj X (fun o : Int32 => Qr X rm_X9_peek.cells rm_X9_peek.slots (some (.int o)) M) 0 0 0 [(0, .ref v0)] [] M (f_X9_peek M v0) := by
  unfold f_X9_peek
  refine z_aload_n hX 0 rfl rfl dX9_peek_0 ?_
  refine z_gFI 9 20 hX (by decide) rfl (by decide) rfl q_1331 dX9_peek_1 (fun x1 => ?_)
  refine z_aload_n hX 0 rfl rfl dX9_peek_4 ?_
  refine z_gFI 9 19 hX (by decide) rfl (by decide) rfl q_1330 dX9_peek_5 (fun x2 => ?_)
  refine z_jn (C' := 0) (S' := 0) 28 (fun (j3 : Int32) => []) (fun (j3 : Int32) => [.int j3]) (fun (j3 : Int32) => M) (fun j3 => ?_) (fun kj3 => ?_)
  · exact z_iretP hX dX9_peek_28 (Nat.le_of_ble_eq_true rfl) (Nat.le_of_ble_eq_true rfl)
  · refine z_iteB ?_
    refine z_icmp_ge hX 27 (by decide) dX9_peek_8 (fun _ => ?_) (fun _ => ?_)
    · refine z_iconst (v := (-1)) hX (by decide) dX9_peek_27 ?_
      refine z_pure ?_
      refine z_sub [] rfl ?_
      exact kj3 (-1)
    · refine z_aload_n hX 0 rfl rfl dX9_peek_11 ?_
      refine z_asc ?_
      refine z_gFR 9 17 hX (by decide) rfl (by decide) rfl q_1328 dX9_peek_12 (fun r4 => ?_)
      refine z_aload_n hX 0 rfl rfl dX9_peek_15 ?_
      refine z_asc ?_
      refine z_gFI 9 20 hX (by decide) rfl (by decide) rfl q_1331 dX9_peek_16 (fun x5 => ?_)
      refine z_asc ?_
      refine z_aB hX dX9_peek_19 (fun x6 => ?_)
      refine z_sipush (v := 255) hX (by decide) dX9_peek_20 ?_
      refine z_iand hX dX9_peek_23 ?_
      refine z_goto hX 28 (by decide) dX9_peek_24 ?_
      refine z_pure ?_
      refine z_sub [] rfl ?_
      exact kj3 (x6 &&& 255)
theorem c_X9_peek (l : Launch) (hl : l.stackTraces = false) (M : Mem) (v0 : Nat) (o : Int32) (ho : f_X9_peek M v0 = some o) : Ct l yX9_peek cX9_peek 1 (some .int) rm_X9_peek [.ref v0] M (some (.int o)) M :=
  Ct.of hl (by decide +kernel) (Nat.le_of_ble_eq_true rfl) rfl (fun X hX hin => z_X9_peek hX M v0 o ho)
theorem okV_X9_peek : okV yX9_peek cX9_peek 1 (some .int) 0 := ⟨q_1476, q_28, q_96, q_1477, by unfold okY; decide +kernel⟩
/-! ParticipatoryBudgetModel.advance()V -/
abbrev rm_X9_advance : Room := { frames := 1, cells := 0, slots := 0, locals := 22 }
set_option maxRecDepth 20000 in
set_option maxHeartbeats 4000000 in
theorem z_X9_advance {X : Cxt} (hX : okX X cX9_advance RX9 rm_X9_advance (none) 2) (M : Mem) (v0 : Nat) : Zj X (fun o : Mem => Qr X rm_X9_advance.cells rm_X9_advance.slots (none) o) 0 0 0 [(0, .ref v0)] [] M (f_X9_advance M v0) := by
  unfold f_X9_advance
  refine z_sub [0] rfl ?_
  refine z_lp (x0 := M) (bd_X9_advance_0 v0) 0 31 (fun (u1 : Mem) => [(0, .ref v0)]) (fun (e2 : Mem) => [(0, .ref v0)]) (fun (u1 : Mem) => u1) ?_ ?_
  · intro e2
    refine z_aload_n hX 0 rfl rfl dX9_advance_31 ?_
    refine z_aload_n hX 0 rfl rfl dX9_advance_32 ?_
    refine z_gFI 9 20 hX (by decide) rfl (by decide) rfl q_1331 dX9_advance_33 (fun x11 => ?_)
    refine z_pFI 9 21 hX (by decide) rfl (by decide) rfl q_1332 rfl pd_1 rfl rfl dX9_advance_36 (fun M12 => ?_)
    refine z_aload_n hX 0 rfl rfl dX9_advance_39 ?_
    refine z_lconst (v := 0) hX (by decide) dX9_advance_40 ?_
    refine z_pFL 9 23 hX (by decide) rfl (by decide) rfl q_1334 rfl pd_14 dX9_advance_41 (fun M13 => ?_)
    refine z_aload_n hX 0 rfl rfl dX9_advance_44 ?_
    refine z_iconst (v := 0) hX (by decide) dX9_advance_45 ?_
    refine z_pFI 9 24 hX (by decide) rfl (by decide) rfl q_1335 rfl pd_1 rfl rfl dX9_advance_46 (fun M14 => ?_)
    refine z_aload_n hX 0 rfl rfl dX9_advance_49 ?_
    refine z_cVIp 9 [] hX (fun l hl o ho => c_X9_peek l hl M14 v0 o ho) dX9_advance_50 (by decide) rfl rfl q_1474 okV_X9_peek rfl ⟨(Nat.le_of_ble_eq_true rfl), (Nat.le_of_ble_eq_true rfl)⟩ rfl (Nat.le_of_ble_eq_true rfl) rfl rfl ⟨(Nat.le_of_ble_eq_true rfl), (Nat.le_of_ble_eq_true rfl)⟩ (fun o15 => ?_)
    refine z_istore_n hX [(1, .int o15), (0, .ref v0)] rfl (by decide) rfl dX9_advance_53 ?_
    refine z_iload_n hX 0 rfl rfl dX9_advance_54 ?_
    refine z_jn (C' := 0) (S' := 0) 269 (fun (j16 : Mem) => []) (fun (j16 : Mem) => []) (fun (j16 : Mem) => j16) (fun j16 => ?_) (fun kj16 => ?_)
    · exact z_vretM hX dX9_advance_269 (Nat.le_of_ble_eq_true rfl) (Nat.le_of_ble_eq_true rfl)
    · refine z_iteB ?_
      refine z_if_ge hX 66 (by decide) dX9_advance_55 (fun _ => ?_) (fun _ => ?_)
      · refine z_iload_n hX 0 rfl rfl dX9_advance_66 ?_
        refine z_bipush (v := 97) hX (by decide) dX9_advance_67 ?_
        refine z_bipush (v := 122) hX (by decide) dX9_advance_69 ?_
        refine z_asc ?_
        refine z_cSIp [.int o15, .int 97, .int 122] hX (fun l hl o ho => c_X9_inRange l hl M14 o15 97 122 o ho) dX9_advance_71 q_1467 okS_X9_inRange rfl ⟨(Nat.le_of_ble_eq_true rfl), (Nat.le_of_ble_eq_true rfl)⟩ rfl (Nat.le_of_ble_eq_true rfl) rfl rfl ⟨(Nat.le_of_ble_eq_true rfl), (Nat.le_of_ble_eq_true rfl)⟩ (fun o17 => ?_)
        refine z_iteB ?_
        refine z_if_eq hX 168 (by decide) dX9_advance_74 (fun _ => ?_) (fun _ => ?_)
        · refine z_iload_n hX 0 rfl rfl dX9_advance_168 ?_
          refine z_bipush (v := 48) hX (by decide) dX9_advance_169 ?_
          refine z_bipush (v := 57) hX (by decide) dX9_advance_171 ?_
          refine z_asc ?_
          refine z_cSIp [.int o15, .int 48, .int 57] hX (fun l hl o ho => c_X9_inRange l hl M14 o15 48 57 o ho) dX9_advance_173 q_1467 okS_X9_inRange rfl ⟨(Nat.le_of_ble_eq_true rfl), (Nat.le_of_ble_eq_true rfl)⟩ rfl (Nat.le_of_ble_eq_true rfl) rfl rfl ⟨(Nat.le_of_ble_eq_true rfl), (Nat.le_of_ble_eq_true rfl)⟩ (fun o18 => ?_)
          refine z_iteB ?_
          refine z_if_eq hX 244 (by decide) dX9_advance_176 (fun _ => ?_) (fun _ => ?_)
          · refine z_aload_n hX 1 rfl rfl dX9_advance_244 ?_
            refine z_iload_n hX 0 rfl rfl dX9_advance_245 ?_
            refine z_bipush (v := 59) hX (by decide) dX9_advance_246 ?_
            refine z_asc ?_
            refine z_jn (C' := 0) (S' := 0) 256 (fun (j19 : Int32) => [(0, .ref v0)]) (fun (j19 : Int32) => [.int j19, .ref v0]) (fun (j19 : Int32) => M14) (fun j19 => ?_) (fun kj19 => ?_)
            · refine z_asc ?_
              refine z_pFI 9 22 hX (by decide) rfl (by decide) rfl q_1333 rfl pd_1 rfl rfl dX9_advance_256 (fun M20 => ?_)
              refine z_aload_n hX 0 rfl rfl dX9_advance_259 ?_
              refine z_dup hX rfl dX9_advance_260 ?_
              refine z_asc ?_
              refine z_gFI 9 20 hX (by decide) rfl (by decide) rfl q_1331 dX9_advance_261 (fun x21 => ?_)
              refine z_iconst (v := 1) hX (by decide) dX9_advance_264 ?_
              refine z_iadd hX dX9_advance_265 ?_
              refine z_asc ?_
              refine z_pFI 9 20 hX (by decide) rfl (by decide) rfl q_1331 rfl pd_1 rfl rfl dX9_advance_266 (fun M22 => ?_)
              refine z_pure ?_
              refine z_sub [] rfl ?_
              exact kj16 M22
            · refine z_iteB ?_
              refine z_icmp_ne hX 255 (by decide) dX9_advance_248 (fun _ => ?_) (fun _ => ?_)
              · refine z_iconst (v := 4) hX (by decide) dX9_advance_255 ?_
                refine z_pure ?_
                refine z_sub [1] rfl ?_
                exact kj19 4
              · refine z_iconst (v := 3) hX (by decide) dX9_advance_251 ?_
                refine z_goto hX 256 (by decide) dX9_advance_252 ?_
                refine z_pure ?_
                refine z_sub [1] rfl ?_
                exact kj19 3
          · refine z_aload_n hX 1 rfl rfl dX9_advance_179 ?_
            refine z_iconst (v := 2) hX (by decide) dX9_advance_180 ?_
            refine z_asc ?_
            refine z_pFI 9 22 hX (by decide) rfl (by decide) rfl q_1333 rfl pd_1 rfl rfl dX9_advance_181 (fun M23 => ?_)
            refine z_sub [1] rfl ?_
            refine z_lpB (x0 := M23) (bd_X9_advance_184 v0) 184 269 (fun (u24 : Mem) => [(0, .ref v0)]) (fun (e25 : Mem) => []) (fun (u24 : Mem) => u24) ?_ ?_
            · intro e25
              refine z_pure ?_
              refine z_sub [] rfl ?_
              exact kj16 e25
            · intro kk26 rc27 hkk26 hrc27 u24
              unfold bd_X9_advance_184
              refine z_aload_n hX 0 rfl rfl dX9_advance_184 ?_
              refine z_asc ?_
              refine z_asc2 ?_
              refine z_cVIp 9 [] hX (fun l hl o ho => c_X9_peek l hl u24 v0 o ho) dX9_advance_185 (by decide) rfl rfl q_1474 okV_X9_peek rfl ⟨(Nat.le_of_ble_eq_true rfl), (Nat.le_of_ble_eq_true rfl)⟩ rfl (Nat.le_of_ble_eq_true rfl) rfl rfl ⟨(Nat.le_of_ble_eq_true rfl), (Nat.le_of_ble_eq_true rfl)⟩ (fun o28 => ?_)
              refine z_bipush (v := 48) hX (by decide) dX9_advance_188 ?_
              refine z_bipush (v := 57) hX (by decide) dX9_advance_190 ?_
              refine z_asc ?_
              refine z_cSIp [.int o28, .int 48, .int 57] hX (fun l hl o ho => c_X9_inRange l hl u24 o28 48 57 o ho) dX9_advance_192 q_1467 okS_X9_inRange rfl ⟨(Nat.le_of_ble_eq_true rfl), (Nat.le_of_ble_eq_true rfl)⟩ rfl (Nat.le_of_ble_eq_true rfl) rfl rfl ⟨(Nat.le_of_ble_eq_true rfl), (Nat.le_of_ble_eq_true rfl)⟩ (fun o29 => ?_)
              refine z_iteB ?_
              refine z_if_eq hX 269 (by decide) dX9_advance_195 (fun _ => ?_) (fun _ => ?_)
              · refine z_sub [] rfl ?_
                exact hkk26 u24
              · refine z_aload_n hX 0 rfl rfl dX9_advance_198 ?_
                refine z_aload_n hX 0 rfl rfl dX9_advance_199 ?_
                refine z_asc ?_
                refine z_gFI 9 24 hX (by decide) rfl (by decide) rfl q_1335 dX9_advance_200 (fun x30 => ?_)
                refine z_ldc (v := 100000000) hX q_1478 dX9_advance_203 ?_
                refine z_asc ?_
                refine z_jn (C' := 0) (S' := 0) 228 (fun (j31 : Int32) => [(0, .ref v0)]) (fun (j31 : Int32) => [.int j31, .ref v0]) (fun (j31 : Int32) => u24) (fun j31 => ?_) (fun kj31 => ?_)
                · refine z_asc ?_
                  refine z_pFI 9 24 hX (by decide) rfl (by decide) rfl q_1335 rfl pd_1 rfl rfl dX9_advance_228 (fun M32 => ?_)
                  refine z_aload_n hX 0 rfl rfl dX9_advance_231 ?_
                  refine z_dup hX rfl dX9_advance_232 ?_
                  refine z_asc ?_
                  refine z_gFI 9 20 hX (by decide) rfl (by decide) rfl q_1331 dX9_advance_233 (fun x33 => ?_)
                  refine z_iconst (v := 1) hX (by decide) dX9_advance_236 ?_
                  refine z_iadd hX dX9_advance_237 ?_
                  refine z_asc ?_
                  refine z_pFI 9 20 hX (by decide) rfl (by decide) rfl q_1331 rfl pd_1 rfl rfl dX9_advance_238 (fun M34 => ?_)
                  refine z_goto hX 184 (by decide) dX9_advance_241 ?_
                  refine z_sub [0] rfl ?_
                  exact hrc27 M34
                · refine z_iteB ?_
                  refine z_icmp_le hX 213 (by decide) dX9_advance_205 (fun _ => ?_) (fun _ => ?_)
                  · refine z_bipush (v := 10) hX (by decide) dX9_advance_213 ?_
                    refine z_aload_n hX 0 rfl rfl dX9_advance_215 ?_
                    refine z_asc ?_
                    refine z_gFI 9 24 hX (by decide) rfl (by decide) rfl q_1335 dX9_advance_216 (fun x35 => ?_)
                    refine z_imul hX dX9_advance_219 ?_
                    refine z_aload_n hX 0 rfl rfl dX9_advance_220 ?_
                    refine z_asc ?_
                    refine z_asc2 ?_
                    refine z_cVIp 9 [] hX (fun l hl o ho => c_X9_peek l hl u24 v0 o ho) dX9_advance_221 (by decide) rfl rfl q_1474 okV_X9_peek rfl ⟨(Nat.le_of_ble_eq_true rfl), (Nat.le_of_ble_eq_true rfl)⟩ rfl (Nat.le_of_ble_eq_true rfl) rfl rfl ⟨(Nat.le_of_ble_eq_true rfl), (Nat.le_of_ble_eq_true rfl)⟩ (fun o36 => ?_)
                    refine z_iadd hX dX9_advance_224 ?_
                    refine z_bipush (v := 48) hX (by decide) dX9_advance_225 ?_
                    refine z_isub hX dX9_advance_227 ?_
                    refine z_pure ?_
                    refine z_sub [0] rfl ?_
                    exact kj31 (((10 * x35) + o36) - 48)
                  · refine z_ldc (v := 1000000000) hX q_1479 dX9_advance_208 ?_
                    refine z_goto hX 228 (by decide) dX9_advance_210 ?_
                    refine z_pure ?_
                    refine z_sub [0] rfl ?_
                    exact kj31 1000000000
        · refine z_aload_n hX 1 rfl rfl dX9_advance_77 ?_
          refine z_iconst (v := 1) hX (by decide) dX9_advance_78 ?_
          refine z_asc ?_
          refine z_pFI 9 22 hX (by decide) rfl (by decide) rfl q_1333 rfl pd_1 rfl rfl dX9_advance_79 (fun M37 => ?_)
          refine z_sub [1] rfl ?_
          refine z_lpB (x0 := M37) (bd_X9_advance_82 v0) 82 146 (fun (u38 : Mem) => [(0, .ref v0)]) (fun (e39 : Mem) => [(0, .ref v0)]) (fun (u38 : Mem) => u38) ?_ ?_
          · intro e39
            refine z_aload_n hX 0 rfl rfl dX9_advance_146 ?_
            refine z_asc ?_
            refine z_gFI 9 20 hX (by decide) rfl (by decide) rfl q_1331 dX9_advance_147 (fun x52 => ?_)
            refine z_aload_n hX 0 rfl rfl dX9_advance_150 ?_
            refine z_asc ?_
            refine z_gFI 9 21 hX (by decide) rfl (by decide) rfl q_1332 dX9_advance_151 (fun x53 => ?_)
            refine z_isub hX dX9_advance_154 ?_
            refine z_bipush (v := 12) hX (by decide) dX9_advance_155 ?_
            refine z_iteB ?_
            refine z_icmp_le hX 269 (by decide) dX9_advance_157 (fun _ => ?_) (fun _ => ?_)
            · refine z_pure ?_
              refine z_sub [] rfl ?_
              exact kj16 e39
            · refine z_aload_n hX 0 rfl rfl dX9_advance_160 ?_
              refine z_lconst (v := 0) hX (by decide) dX9_advance_161 ?_
              refine z_asc ?_
              refine z_pFL 9 23 hX (by decide) rfl (by decide) rfl q_1334 rfl pd_14 dX9_advance_162 (fun M54 => ?_)
              refine z_goto hX 269 (by decide) dX9_advance_165 ?_
              refine z_pure ?_
              refine z_sub [] rfl ?_
              exact kj16 M54
          · intro kk40 rc41 hkk40 hrc41 u38
            unfold bd_X9_advance_82
            refine z_aload_n hX 0 rfl rfl dX9_advance_82 ?_
            refine z_asc ?_
            refine z_asc2 ?_
            refine z_cVIp 9 [] hX (fun l hl o ho => c_X9_peek l hl u38 v0 o ho) dX9_advance_83 (by decide) rfl rfl q_1474 okV_X9_peek rfl ⟨(Nat.le_of_ble_eq_true rfl), (Nat.le_of_ble_eq_true rfl)⟩ rfl (Nat.le_of_ble_eq_true rfl) rfl rfl ⟨(Nat.le_of_ble_eq_true rfl), (Nat.le_of_ble_eq_true rfl)⟩ (fun o42 => ?_)
            refine z_bipush (v := 97) hX (by decide) dX9_advance_86 ?_
            refine z_bipush (v := 122) hX (by decide) dX9_advance_88 ?_
            refine z_asc ?_
            refine z_cSIp [.int o42, .int 97, .int 122] hX (fun l hl o ho => c_X9_inRange l hl u38 o42 97 122 o ho) dX9_advance_90 q_1467 okS_X9_inRange rfl ⟨(Nat.le_of_ble_eq_true rfl), (Nat.le_of_ble_eq_true rfl)⟩ rfl (Nat.le_of_ble_eq_true rfl) rfl rfl ⟨(Nat.le_of_ble_eq_true rfl), (Nat.le_of_ble_eq_true rfl)⟩ (fun o43 => ?_)
            refine z_iteB ?_
            refine z_if_eq hX 146 (by decide) dX9_advance_93 (fun _ => ?_) (fun _ => ?_)
            · refine z_sub [0] rfl ?_
              exact hkk40 u38
            · refine z_aload_n hX 0 rfl rfl dX9_advance_96 ?_
              refine z_aload_n hX 0 rfl rfl dX9_advance_97 ?_
              refine z_asc ?_
              refine z_gFI 9 20 hX (by decide) rfl (by decide) rfl q_1331 dX9_advance_98 (fun x44 => ?_)
              refine z_aload_n hX 0 rfl rfl dX9_advance_101 ?_
              refine z_asc ?_
              refine z_gFI 9 21 hX (by decide) rfl (by decide) rfl q_1332 dX9_advance_102 (fun x45 => ?_)
              refine z_isub hX dX9_advance_105 ?_
              refine z_bipush (v := 12) hX (by decide) dX9_advance_106 ?_
              refine z_asc ?_
              refine z_jn (C' := 0) (S' := 0) 130 (fun (j46 : Int64) => [(0, .ref v0)]) (fun (j46 : Int64) => [.long j46, .ref v0]) (fun (j46 : Int64) => u38) (fun j46 => ?_) (fun kj46 => ?_)
              · refine z_asc ?_
                refine z_pFL 9 23 hX (by decide) rfl (by decide) rfl q_1334 rfl pd_14 dX9_advance_130 (fun M47 => ?_)
                refine z_aload_n hX 0 rfl rfl dX9_advance_133 ?_
                refine z_dup hX rfl dX9_advance_134 ?_
                refine z_asc ?_
                refine z_gFI 9 20 hX (by decide) rfl (by decide) rfl q_1331 dX9_advance_135 (fun x48 => ?_)
                refine z_iconst (v := 1) hX (by decide) dX9_advance_138 ?_
                refine z_iadd hX dX9_advance_139 ?_
                refine z_asc ?_
                refine z_pFI 9 20 hX (by decide) rfl (by decide) rfl q_1331 rfl pd_1 rfl rfl dX9_advance_140 (fun M49 => ?_)
                refine z_goto hX 82 (by decide) dX9_advance_143 ?_
                refine z_sub [0] rfl ?_
                exact hrc41 M49
              · refine z_iteB ?_
                refine z_icmp_ge hX 129 (by decide) dX9_advance_108 (fun _ => ?_) (fun _ => ?_)
                · refine z_lconst (v := 0) hX (by decide) dX9_advance_129 ?_
                  refine z_pure ?_
                  refine z_sub [0] rfl ?_
                  exact kj46 0
                · refine z_aload_n hX 0 rfl rfl dX9_advance_111 ?_
                  refine z_asc ?_
                  refine z_gFL 9 23 hX (by decide) rfl (by decide) rfl q_1334 dX9_advance_112 (fun x50 => ?_)
                  refine z_iconst (v := 5) hX (by decide) dX9_advance_115 ?_
                  refine z_lshl hX rfl dX9_advance_116 ?_
                  refine z_aload_n hX 0 rfl rfl dX9_advance_117 ?_
                  refine z_asc ?_
                  refine z_asc2 ?_
                  refine z_cVIp 9 [] hX (fun l hl o ho => c_X9_peek l hl u38 v0 o ho) dX9_advance_118 (by decide) rfl rfl q_1474 okV_X9_peek rfl ⟨(Nat.le_of_ble_eq_true rfl), (Nat.le_of_ble_eq_true rfl)⟩ rfl (Nat.le_of_ble_eq_true rfl) rfl rfl ⟨(Nat.le_of_ble_eq_true rfl), (Nat.le_of_ble_eq_true rfl)⟩ (fun o51 => ?_)
                  refine z_bipush (v := 96) hX (by decide) dX9_advance_121 ?_
                  refine z_isub hX dX9_advance_123 ?_
                  refine z_i2l hX rfl dX9_advance_124 ?_
                  refine z_lor hX dX9_advance_125 ?_
                  refine z_goto hX 130 (by decide) dX9_advance_126 ?_
                  refine z_pure ?_
                  refine z_sub [0] rfl ?_
                  exact kj46 ((x50 <<< ((5 : Int32).toInt64 &&& 63)) ||| ((o51 - 96 : Int32).toInt64))
      · refine z_aload_n hX 1 rfl rfl dX9_advance_58 ?_
        refine z_iconst (v := 0) hX (by decide) dX9_advance_59 ?_
        refine z_asc ?_
        refine z_pFI 9 22 hX (by decide) rfl (by decide) rfl q_1333 rfl pd_1 rfl rfl dX9_advance_60 (fun M55 => ?_)
        refine z_goto hX 269 (by decide) dX9_advance_63 ?_
        refine z_pure ?_
        refine z_sub [] rfl ?_
        exact kj16 M55
  · intro kk3 rc4 hkk3 hrc4 u1
    unfold bd_X9_advance_0
    refine z_aload_n hX 0 rfl rfl dX9_advance_0 ?_
    refine z_cVIp 9 [] hX (fun l hl o ho => c_X9_peek l hl u1 v0 o ho) dX9_advance_1 (by decide) rfl rfl q_1474 okV_X9_peek rfl ⟨(Nat.le_of_ble_eq_true rfl), (Nat.le_of_ble_eq_true rfl)⟩ rfl (Nat.le_of_ble_eq_true rfl) rfl rfl ⟨(Nat.le_of_ble_eq_true rfl), (Nat.le_of_ble_eq_true rfl)⟩ (fun o5 => ?_)
    refine z_bipush (v := 32) hX (by decide) dX9_advance_4 ?_
    refine z_icmp_eq hX 18 (by decide) dX9_advance_6 (fun _ => ?_) (fun _ => ?_)
    · refine z_aload_n hX 0 rfl rfl dX9_advance_18 ?_
      refine z_dup hX rfl dX9_advance_19 ?_
      refine z_gFI 9 20 hX (by decide) rfl (by decide) rfl q_1331 dX9_advance_20 (fun x6 => ?_)
      refine z_iconst (v := 1) hX (by decide) dX9_advance_23 ?_
      refine z_iadd hX dX9_advance_24 ?_
      refine z_pFI 9 20 hX (by decide) rfl (by decide) rfl q_1331 rfl pd_1 rfl rfl dX9_advance_25 (fun M7 => ?_)
      refine z_goto hX 0 (by decide) dX9_advance_28 ?_
      refine z_sub [0] rfl ?_
      exact hrc4 M7
    · refine z_aload_n hX 0 rfl rfl dX9_advance_9 ?_
      refine z_cVIp 9 [] hX (fun l hl o ho => c_X9_peek l hl u1 v0 o ho) dX9_advance_10 (by decide) rfl rfl q_1474 okV_X9_peek rfl ⟨(Nat.le_of_ble_eq_true rfl), (Nat.le_of_ble_eq_true rfl)⟩ rfl (Nat.le_of_ble_eq_true rfl) rfl rfl ⟨(Nat.le_of_ble_eq_true rfl), (Nat.le_of_ble_eq_true rfl)⟩ (fun o8 => ?_)
      refine z_bipush (v := 10) hX (by decide) dX9_advance_13 ?_
      refine z_icmp_ne hX 31 (by decide) dX9_advance_15 (fun _ => ?_) (fun _ => ?_)
      · refine z_sub [0] rfl ?_
        exact hkk3 u1
      · refine z_aload_n hX 0 rfl rfl dX9_advance_18 ?_
        refine z_dup hX rfl dX9_advance_19 ?_
        refine z_gFI 9 20 hX (by decide) rfl (by decide) rfl q_1331 dX9_advance_20 (fun x9 => ?_)
        refine z_iconst (v := 1) hX (by decide) dX9_advance_23 ?_
        refine z_iadd hX dX9_advance_24 ?_
        refine z_pFI 9 20 hX (by decide) rfl (by decide) rfl q_1331 rfl pd_1 rfl rfl dX9_advance_25 (fun M10 => ?_)
        refine z_goto hX 0 (by decide) dX9_advance_28 ?_
        refine z_sub [0] rfl ?_
        exact hrc4 M10
theorem c_X9_advance (l : Launch) (hl : l.stackTraces = false) (M : Mem) (v0 : Nat) (o : Mem) (ho : f_X9_advance M v0 = some o) : Ct l yX9_advance cX9_advance 2 (none) rm_X9_advance [.ref v0] M (none) o :=
  Ct.of hl (by decide +kernel) (Nat.le_of_ble_eq_true rfl) rfl (fun X hX hin => z_X9_advance hX M v0 o ho)
theorem okV_X9_advance : okV yX9_advance cX9_advance 2 (none) 0 := ⟨q_1472, q_27, q_96, q_1473, by unfold okY; decide +kernel⟩
/-! ParticipatoryBudgetModel.check(ZI)V -/
abbrev rm_X9_check : Room := { frames := 0, cells := 0, slots := 0, locals := 0 }
set_option maxRecDepth 20000 in
set_option maxHeartbeats 4000000 in
theorem z_X9_check {X : Cxt} (hX : okX X cX9_check RX9 rm_X9_check (none) 3) (M : Mem) (v0 : Nat) (v1 : Int32) (v2 : Int32) : Zj X (fun o : Mem => Qr X rm_X9_check.cells rm_X9_check.slots (none) o) 0 0 0 [(0, .ref v0), (1, .int v1), (2, .int v2)] [] M (f_X9_check M v0 v1 v2) := by
  unfold f_X9_check
  refine z_iload_n hX 1 rfl rfl dX9_check_0 ?_
  refine z_if_ne hX 11 (by decide) dX9_check_1 (fun _ => ?_) (fun _ => ?_)
  · exact z_vretM hX dX9_check_11 (Nat.le_of_ble_eq_true rfl) (Nat.le_of_ble_eq_true rfl)
  · refine z_aload_n hX 0 rfl rfl dX9_check_4 ?_
    refine z_gFI 9 25 hX (by decide) rfl (by decide) rfl q_1336 dX9_check_5 (fun x1 => ?_)
    refine z_if_eq hX 12 (by decide) dX9_check_8 (fun _ => ?_) (fun _ => ?_)
    · refine z_aload_n hX 0 rfl rfl dX9_check_12 ?_
      refine z_iload_n hX 2 rfl rfl dX9_check_13 ?_
      refine z_pFI 9 25 hX (by decide) rfl (by decide) rfl q_1336 rfl pd_1 rfl rfl dX9_check_14 (fun M2 => ?_)
      refine z_aload_n hX 0 rfl rfl dX9_check_17 ?_
      refine z_aload_n hX 0 rfl rfl dX9_check_18 ?_
      refine z_gFI 9 21 hX (by decide) rfl (by decide) rfl q_1332 dX9_check_19 (fun x3 => ?_)
      refine z_pFI 9 26 hX (by decide) rfl (by decide) rfl q_1337 rfl pd_1 rfl rfl dX9_check_22 (fun M4 => ?_)
      exact z_vretM hX dX9_check_25 (Nat.le_of_ble_eq_true rfl) (Nat.le_of_ble_eq_true rfl)
    · exact z_vretM hX dX9_check_11 (Nat.le_of_ble_eq_true rfl) (Nat.le_of_ble_eq_true rfl)
theorem c_X9_check (l : Launch) (hl : l.stackTraces = false) (M : Mem) (v0 : Nat) (v1 : Int32) (v2 : Int32) (o : Mem) (ho : f_X9_check M v0 v1 v2 = some o) : Ct l yX9_check cX9_check 3 (none) rm_X9_check [.ref v0, .int v1, .int v2] M (none) o :=
  Ct.of hl (by decide +kernel) (Nat.le_of_ble_eq_true rfl) rfl (fun X hX hin => z_X9_check hX M v0 v1 v2 o ho)
theorem okV_X9_check : okV yX9_check cX9_check 3 (none) 2 := ⟨q_1495, q_32, q_96, q_1496, by unfold okY; decide +kernel⟩
/-! ParticipatoryBudgetModel.advanceIfGood()V -/
abbrev rm_X9_advanceIfGood : Room := { frames := 2, cells := 0, slots := 0, locals := 43 }
set_option maxRecDepth 20000 in
set_option maxHeartbeats 4000000 in
theorem z_X9_advanceIfGood {X : Cxt} (hX : okX X cX9_advanceIfGood RX9 rm_X9_advanceIfGood (none) 1) (M : Mem) (v0 : Nat) : Zj X (fun o : Mem => Qr X rm_X9_advanceIfGood.cells rm_X9_advanceIfGood.slots (none) o) 0 0 0 [(0, .ref v0)] [] M (f_X9_advanceIfGood M v0) := by
  unfold f_X9_advanceIfGood
  refine z_aload_n hX 0 rfl rfl dX9_advanceIfGood_0 ?_
  refine z_gFI 9 25 hX (by decide) rfl (by decide) rfl q_1336 dX9_advanceIfGood_1 (fun x1 => ?_)
  refine z_jn (C' := 0) (S' := 0) 11 (fun (j2 : Mem) => []) (fun (j2 : Mem) => []) (fun (j2 : Mem) => j2) (fun j2 => ?_) (fun kj2 => ?_)
  · exact z_vretM hX dX9_advanceIfGood_11 (Nat.le_of_ble_eq_true rfl) (Nat.le_of_ble_eq_true rfl)
  · refine z_iteB ?_
    refine z_if_ne hX 11 (by decide) dX9_advanceIfGood_4 (fun _ => ?_) (fun _ => ?_)
    · refine z_pure ?_
      refine z_sub [] rfl ?_
      exact kj2 M
    · refine z_aload_n hX 0 rfl rfl dX9_advanceIfGood_7 ?_
      refine z_asc ?_
      refine z_asc2 ?_
      refine z_cVVm 9 [] hX (fun l hl o ho => c_X9_advance l hl M v0 o ho) dX9_advanceIfGood_8 (by decide) rfl rfl q_1470 okV_X9_advance rfl ⟨(Nat.le_of_ble_eq_true rfl), (Nat.le_of_ble_eq_true rfl)⟩ rfl (Nat.le_of_ble_eq_true rfl) rfl rfl ⟨(Nat.le_of_ble_eq_true rfl), (Nat.le_of_ble_eq_true rfl)⟩ (fun o3 => ?_)
      refine z_pure ?_
      refine z_sub [] rfl ?_
      exact kj2 o3
theorem c_X9_advanceIfGood (l : Launch) (hl : l.stackTraces = false) (M : Mem) (v0 : Nat) (o : Mem) (ho : f_X9_advanceIfGood M v0 = some o) : Ct l yX9_advanceIfGood cX9_advanceIfGood 1 (none) rm_X9_advanceIfGood [.ref v0] M (none) o :=
  Ct.of hl (by decide +kernel) (Nat.le_of_ble_eq_true rfl) rfl (fun X hX hin => z_X9_advanceIfGood hX M v0 o ho)
theorem okV_X9_advanceIfGood : okV yX9_advanceIfGood cX9_advanceIfGood 1 (none) 0 := ⟨q_1499, q_33, q_96, q_1500, by unfold okY; decide +kernel⟩
/-! ParticipatoryBudgetModel.isWord(J)Z -/
abbrev rm_X9_isWord : Room := { frames := 0, cells := 0, slots := 0, locals := 0 }
set_option maxRecDepth 20000 in
set_option maxHeartbeats 4000000 in
theorem z_X9_isWord {X : Cxt} (hX : okX X cX9_isWord RX9 rm_X9_isWord (some .boolean) 3) (M : Mem) (v0 : Nat) (v1 : Int64) : Zj X (fun o : Int32 => Qr X rm_X9_isWord.cells rm_X9_isWord.slots (some (.int o)) M) 0 0 0 [(0, .ref v0), (1, .long v1)] [] M (f_X9_isWord M v0 v1) := by
  unfold f_X9_isWord
  refine z_aload_n hX 0 rfl rfl dX9_isWord_0 ?_
  refine z_gFI 9 25 hX (by decide) rfl (by decide) rfl q_1336 dX9_isWord_1 (fun x1 => ?_)
  refine z_jn (C' := 0) (S' := 0) 29 (fun (j2 : Int32) => []) (fun (j2 : Int32) => [.int j2]) (fun (j2 : Int32) => M) (fun j2 => ?_) (fun kj2 => ?_)
  · exact z_zretP hX dX9_isWord_29 (Nat.le_of_ble_eq_true rfl) (Nat.le_of_ble_eq_true rfl)
  · refine z_iteB ?_
    refine z_if_ne hX 28 (by decide) dX9_isWord_4 (fun _ => ?_) (fun _ => ?_)
    · refine z_iconst (v := 0) hX (by decide) dX9_isWord_28 ?_
      refine z_pure ?_
      refine z_sub [] rfl ?_
      exact kj2 0
    · refine z_aload_n hX 0 rfl rfl dX9_isWord_7 ?_
      refine z_asc ?_
      refine z_gFI 9 22 hX (by decide) rfl (by decide) rfl q_1333 dX9_isWord_8 (fun x3 => ?_)
      refine z_iconst (v := 1) hX (by decide) dX9_isWord_11 ?_
      refine z_iteB ?_
      refine z_icmp_ne hX 28 (by decide) dX9_isWord_12 (fun _ => ?_) (fun _ => ?_)
      · refine z_iconst (v := 0) hX (by decide) dX9_isWord_28 ?_
        refine z_pure ?_
        refine z_sub [] rfl ?_
        exact kj2 0
      · refine z_aload_n hX 0 rfl rfl dX9_isWord_15 ?_
        refine z_asc ?_
        refine z_gFL 9 23 hX (by decide) rfl (by decide) rfl q_1334 dX9_isWord_16 (fun x4 => ?_)
        refine z_lload_n hX 1 rfl rfl dX9_isWord_19 ?_
        refine z_lcmp hX dX9_isWord_20 ?_
        refine z_iteB ?_
        refine z_if_ne hX 28 (by decide) dX9_isWord_21 (fun _ => ?_) (fun _ => ?_)
        · refine z_iconst (v := 0) hX (by decide) dX9_isWord_28 ?_
          refine z_pure ?_
          refine z_sub [] rfl ?_
          exact kj2 0
        · refine z_iconst (v := 1) hX (by decide) dX9_isWord_24 ?_
          refine z_goto hX 29 (by decide) dX9_isWord_25 ?_
          refine z_pure ?_
          refine z_sub [] rfl ?_
          exact kj2 1
theorem c_X9_isWord (l : Launch) (hl : l.stackTraces = false) (M : Mem) (v0 : Nat) (v1 : Int64) (o : Int32) (ho : f_X9_isWord M v0 v1 = some o) : Ct l yX9_isWord cX9_isWord 3 (some .boolean) rm_X9_isWord [.ref v0, .long v1] M (some (.int o)) M :=
  Ct.of hl (by decide +kernel) (Nat.le_of_ble_eq_true rfl) rfl (fun X hX hin => z_X9_isWord hX M v0 v1 o ho)
theorem okV_X9_isWord : okV yX9_isWord cX9_isWord 3 (some .boolean) 1 := ⟨q_1487, q_30, q_96, q_1488, by unfold okY; decide +kernel⟩
/-! ParticipatoryBudgetModel.readInteger(II)I -/
abbrev rm_X9_readInteger : Room := { frames := 3, cells := 0, slots := 0, locals := 63 }
set_option maxRecDepth 20000 in
set_option maxHeartbeats 4000000 in
theorem z_X9_readInteger {X : Cxt} (hX : okX X cX9_readInteger RX9 rm_X9_readInteger (some .int) 4) (M : Mem) (v0 : Nat) (v1 : Int32) (v2 : Int32) : Zj X (fun o : Int32 × Mem => Qr X rm_X9_readInteger.cells rm_X9_readInteger.slots (some (.int o.1)) o.2) 0 0 0 [(0, .ref v0), (1, .int v1), (2, .int v2)] [] M (f_X9_readInteger M v0 v1 v2) := by
  unfold f_X9_readInteger
  refine z_aload_n hX 0 rfl rfl dX9_readInteger_0 ?_
  refine z_aload_n hX 0 rfl rfl dX9_readInteger_1 ?_
  refine z_gFI 9 22 hX (by decide) rfl (by decide) rfl q_1333 dX9_readInteger_2 (fun x1 => ?_)
  refine z_iconst (v := 2) hX (by decide) dX9_readInteger_5 ?_
  refine z_jn (C' := 0) (S' := 0) 14 (fun (j2 : Int32) => [(0, .ref v0), (1, .int v1), (2, .int v2)]) (fun (j2 : Int32) => [.int j2, .ref v0]) (fun (j2 : Int32) => M) (fun j2 => ?_) (fun kj2 => ?_)
  · refine z_bipush (v := (-11)) hX (by decide) dX9_readInteger_14 ?_
    refine z_cVVm 9 [.int j2, .int (-11)] hX (fun l hl o ho => c_X9_check l hl M v0 j2 (-11) o ho) dX9_readInteger_16 (by decide) rfl rfl q_1493 okV_X9_check rfl ⟨(Nat.le_of_ble_eq_true rfl), (Nat.le_of_ble_eq_true rfl)⟩ rfl (Nat.le_of_ble_eq_true rfl) rfl rfl ⟨(Nat.le_of_ble_eq_true rfl), (Nat.le_of_ble_eq_true rfl)⟩ (fun o3 => ?_)
    refine z_aload_n hX 0 rfl rfl dX9_readInteger_19 ?_
    refine z_aload_n hX 0 rfl rfl dX9_readInteger_20 ?_
    refine z_gFI 9 24 hX (by decide) rfl (by decide) rfl q_1335 dX9_readInteger_21 (fun x4 => ?_)
    refine z_iload_n hX 1 rfl rfl dX9_readInteger_24 ?_
    refine z_iload_n hX 2 rfl rfl dX9_readInteger_25 ?_
    refine z_cSIp [.int x4, .int v1, .int v2] hX (fun l hl o ho => c_X9_inRange l hl o3 x4 v1 v2 o ho) dX9_readInteger_26 q_1467 okS_X9_inRange rfl ⟨(Nat.le_of_ble_eq_true rfl), (Nat.le_of_ble_eq_true rfl)⟩ rfl (Nat.le_of_ble_eq_true rfl) rfl rfl ⟨(Nat.le_of_ble_eq_true rfl), (Nat.le_of_ble_eq_true rfl)⟩ (fun o5 => ?_)
    refine z_bipush (v := (-12)) hX (by decide) dX9_readInteger_29 ?_
    refine z_cVVm 9 [.int o5, .int (-12)] hX (fun l hl o ho => c_X9_check l hl o3 v0 o5 (-12) o ho) dX9_readInteger_31 (by decide) rfl rfl q_1493 okV_X9_check rfl ⟨(Nat.le_of_ble_eq_true rfl), (Nat.le_of_ble_eq_true rfl)⟩ rfl (Nat.le_of_ble_eq_true rfl) rfl rfl ⟨(Nat.le_of_ble_eq_true rfl), (Nat.le_of_ble_eq_true rfl)⟩ (fun o6 => ?_)
    refine z_aload_n hX 0 rfl rfl dX9_readInteger_34 ?_
    refine z_gFI 9 24 hX (by decide) rfl (by decide) rfl q_1335 dX9_readInteger_35 (fun x7 => ?_)
    refine z_istore_n hX [(3, .int x7), (0, .ref v0), (1, .int v1), (2, .int v2)] rfl (by decide) rfl dX9_readInteger_38 ?_
    refine z_aload_n hX 1 rfl rfl dX9_readInteger_39 ?_
    refine z_cVVm 9 [] hX (fun l hl o ho => c_X9_advanceIfGood l hl o6 v0 o ho) dX9_readInteger_40 (by decide) rfl rfl q_1497 okV_X9_advanceIfGood rfl ⟨(Nat.le_of_ble_eq_true rfl), (Nat.le_of_ble_eq_true rfl)⟩ rfl (Nat.le_of_ble_eq_true rfl) rfl rfl ⟨(Nat.le_of_ble_eq_true rfl), (Nat.le_of_ble_eq_true rfl)⟩ (fun o8 => ?_)
    refine z_iload_n hX 0 rfl rfl dX9_readInteger_43 ?_
    exact z_iretM hX dX9_readInteger_44 (Nat.le_of_ble_eq_true rfl) (Nat.le_of_ble_eq_true rfl)
  · refine z_iteB ?_
    refine z_icmp_ne hX 13 (by decide) dX9_readInteger_6 (fun _ => ?_) (fun _ => ?_)
    · refine z_iconst (v := 0) hX (by decide) dX9_readInteger_13 ?_
      refine z_pure ?_
      refine z_sub [0, 1, 2] rfl ?_
      exact kj2 0
    · refine z_iconst (v := 1) hX (by decide) dX9_readInteger_9 ?_
      refine z_goto hX 14 (by decide) dX9_readInteger_10 ?_
      refine z_pure ?_
      refine z_sub [0, 1, 2] rfl ?_
      exact kj2 1
theorem c_X9_readInteger (l : Launch) (hl : l.stackTraces = false) (M : Mem) (v0 : Nat) (v1 : Int32) (v2 : Int32) (o : Int32 × Mem) (ho : f_X9_readInteger M v0 v1 v2 = some o) : Ct l yX9_readInteger cX9_readInteger 4 (some .int) rm_X9_readInteger [.ref v0, .int v1, .int v2] M (some (.int o.1)) o.2 :=
  Ct.of hl (by decide +kernel) (Nat.le_of_ble_eq_true rfl) rfl (fun X hX hin => z_X9_readInteger hX M v0 v1 v2 o ho)
theorem okV_X9_readInteger : okV yX9_readInteger cX9_readInteger 4 (some .int) 2 := ⟨q_1526, q_37, q_96, q_1527, by unfold okY; decide +kernel⟩
/-! ParticipatoryBudgetModel.isKeyword()Z -/
abbrev rm_X9_isKeyword : Room := { frames := 0, cells := 0, slots := 0, locals := 0 }
set_option maxRecDepth 20000 in
set_option maxHeartbeats 4000000 in
theorem z_X9_isKeyword {X : Cxt} (hX : okX X cX9_isKeyword RX9 rm_X9_isKeyword (some .boolean) 1) (M : Mem) (v0 : Nat) : Zj X (fun o : Int32 => Qr X rm_X9_isKeyword.cells rm_X9_isKeyword.slots (some (.int o)) M) 0 0 0 [(0, .ref v0)] [] M (f_X9_isKeyword M v0) := by
  unfold f_X9_isKeyword
  refine z_aload_n hX 0 rfl rfl dX9_isKeyword_0 ?_
  refine z_gFL 9 23 hX (by decide) rfl (by decide) rfl q_1334 dX9_isKeyword_1 (fun x1 => ?_)
  refine z_ldc2 (v := 23580850) hX q_1513 dX9_isKeyword_4 ?_
  refine z_lcmp hX dX9_isKeyword_7 ?_
  refine z_jn (C' := 0) (S' := 0) 82 (fun (j2 : Int32) => []) (fun (j2 : Int32) => [.int j2]) (fun (j2 : Int32) => M) (fun j2 => ?_) (fun kj2 => ?_)
  · exact z_zretP hX dX9_isKeyword_82 (Nat.le_of_ble_eq_true rfl) (Nat.le_of_ble_eq_true rfl)
  · refine z_iteB ?_
    refine z_if_eq hX 77 (by decide) dX9_isKeyword_8 (fun _ => ?_) (fun _ => ?_)
    · refine z_iconst (v := 1) hX (by decide) dX9_isKeyword_77 ?_
      refine z_goto hX 82 (by decide) dX9_isKeyword_78 ?_
      refine z_pure ?_
      refine z_sub [] rfl ?_
      exact kj2 1
    · refine z_aload_n hX 0 rfl rfl dX9_isKeyword_11 ?_
      refine z_asc ?_
      refine z_gFL 9 23 hX (by decide) rfl (by decide) rfl q_1334 dX9_isKeyword_12 (fun x3 => ?_)
      refine z_ldc2 (v := 302) hX q_1514 dX9_isKeyword_15 ?_
      refine z_lcmp hX dX9_isKeyword_18 ?_
      refine z_iteB ?_
      refine z_if_eq hX 77 (by decide) dX9_isKeyword_19 (fun _ => ?_) (fun _ => ?_)
      · refine z_iconst (v := 1) hX (by decide) dX9_isKeyword_77 ?_
        refine z_goto hX 82 (by decide) dX9_isKeyword_78 ?_
        refine z_pure ?_
        refine z_sub [] rfl ?_
        exact kj2 1
      · refine z_aload_n hX 0 rfl rfl dX9_isKeyword_22 ?_
        refine z_asc ?_
        refine z_gFL 9 23 hX (by decide) rfl (by decide) rfl q_1334 dX9_isKeyword_23 (fun x4 => ?_)
        refine z_ldc2 (v := 6642) hX q_1515 dX9_isKeyword_26 ?_
        refine z_lcmp hX dX9_isKeyword_29 ?_
        refine z_iteB ?_
        refine z_if_eq hX 77 (by decide) dX9_isKeyword_30 (fun _ => ?_) (fun _ => ?_)
        · refine z_iconst (v := 1) hX (by decide) dX9_isKeyword_77 ?_
          refine z_goto hX 82 (by decide) dX9_isKeyword_78 ?_
          refine z_pure ?_
          refine z_sub [] rfl ?_
          exact kj2 1
        · refine z_aload_n hX 0 rfl rfl dX9_isKeyword_33 ?_
          refine z_asc ?_
          refine z_gFL 9 23 hX (by decide) rfl (by decide) rfl q_1334 dX9_isKeyword_34 (fun x5 => ?_)
          refine z_ldc2 (v := 19636) hX q_1516 dX9_isKeyword_37 ?_
          refine z_lcmp hX dX9_isKeyword_40 ?_
          refine z_iteB ?_
          refine z_if_eq hX 77 (by decide) dX9_isKeyword_41 (fun _ => ?_) (fun _ => ?_)
          · refine z_iconst (v := 1) hX (by decide) dX9_isKeyword_77 ?_
            refine z_goto hX 82 (by decide) dX9_isKeyword_78 ?_
            refine z_pure ?_
            refine z_sub [] rfl ?_
            exact kj2 1
          · refine z_aload_n hX 0 rfl rfl dX9_isKeyword_44 ?_
            refine z_asc ?_
            refine z_gFL 9 23 hX (by decide) rfl (by decide) rfl q_1334 dX9_isKeyword_45 (fun x6 => ?_)
            refine z_ldc2 (v := 24627848) hX q_1517 dX9_isKeyword_48 ?_
            refine z_lcmp hX dX9_isKeyword_51 ?_
            refine z_iteB ?_
            refine z_if_eq hX 77 (by decide) dX9_isKeyword_52 (fun _ => ?_) (fun _ => ?_)
            · refine z_iconst (v := 1) hX (by decide) dX9_isKeyword_77 ?_
              refine z_goto hX 82 (by decide) dX9_isKeyword_78 ?_
              refine z_pure ?_
              refine z_sub [] rfl ?_
              exact kj2 1
            · refine z_aload_n hX 0 rfl rfl dX9_isKeyword_55 ?_
              refine z_asc ?_
              refine z_gFL 9 23 hX (by decide) rfl (by decide) rfl q_1334 dX9_isKeyword_56 (fun x7 => ?_)
              refine z_ldc2 (v := 643248) hX q_1518 dX9_isKeyword_59 ?_
              refine z_lcmp hX dX9_isKeyword_62 ?_
              refine z_iteB ?_
              refine z_if_eq hX 77 (by decide) dX9_isKeyword_63 (fun _ => ?_) (fun _ => ?_)
              · refine z_iconst (v := 1) hX (by decide) dX9_isKeyword_77 ?_
                refine z_goto hX 82 (by decide) dX9_isKeyword_78 ?_
                refine z_pure ?_
                refine z_sub [] rfl ?_
                exact kj2 1
              · refine z_aload_n hX 0 rfl rfl dX9_isKeyword_66 ?_
                refine z_asc ?_
                refine z_gFL 9 23 hX (by decide) rfl (by decide) rfl q_1334 dX9_isKeyword_67 (fun x8 => ?_)
                refine z_ldc2 (v := 16322738) hX q_1519 dX9_isKeyword_70 ?_
                refine z_lcmp hX dX9_isKeyword_73 ?_
                refine z_iteB ?_
                refine z_if_ne hX 81 (by decide) dX9_isKeyword_74 (fun _ => ?_) (fun _ => ?_)
                · refine z_iconst (v := 0) hX (by decide) dX9_isKeyword_81 ?_
                  refine z_pure ?_
                  refine z_sub [] rfl ?_
                  exact kj2 0
                · refine z_iconst (v := 1) hX (by decide) dX9_isKeyword_77 ?_
                  refine z_goto hX 82 (by decide) dX9_isKeyword_78 ?_
                  refine z_pure ?_
                  refine z_sub [] rfl ?_
                  exact kj2 1
theorem c_X9_isKeyword (l : Launch) (hl : l.stackTraces = false) (M : Mem) (v0 : Nat) (o : Int32) (ho : f_X9_isKeyword M v0 = some o) : Ct l yX9_isKeyword cX9_isKeyword 1 (some .boolean) rm_X9_isKeyword [.ref v0] M (some (.int o)) M :=
  Ct.of hl (by decide +kernel) (Nat.le_of_ble_eq_true rfl) rfl (fun X hX hin => z_X9_isKeyword hX M v0 o ho)
theorem okV_X9_isKeyword : okV yX9_isKeyword cX9_isKeyword 1 (some .boolean) 0 := ⟨q_1511, q_36, q_96, q_1512, by unfold okY; decide +kernel⟩
/-! ParticipatoryBudgetModel.lettersHere()I -/
abbrev rm_X9_lettersHere : Room := { frames := 1, cells := 0, slots := 0, locals := 22 }
set_option maxRecDepth 20000 in
set_option maxHeartbeats 4000000 in
theorem z_X9_lettersHere {X : Cxt} (hX : okX X cX9_lettersHere RX9 rm_X9_lettersHere (some .int) 3) (M : Mem) (v0 : Nat) : Zj X (fun o : Int32 × Mem => Qr X rm_X9_lettersHere.cells rm_X9_lettersHere.slots (some (.int o.1)) o.2) 0 0 0 [(0, .ref v0)] [] M (f_X9_lettersHere M v0) := by
  unfold f_X9_lettersHere
  refine z_aload_n hX 0 rfl rfl dX9_lettersHere_0 ?_
  refine z_aload_n hX 0 rfl rfl dX9_lettersHere_1 ?_
  refine z_gFI 9 22 hX (by decide) rfl (by decide) rfl q_1333 dX9_lettersHere_2 (fun x1 => ?_)
  refine z_iconst (v := 1) hX (by decide) dX9_lettersHere_5 ?_
  refine z_jn (C' := 0) (S' := 0) 35 (fun (j2 : Int32) => [(0, .ref v0)]) (fun (j2 : Int32) => [.int j2, .ref v0]) (fun (j2 : Int32) => M) (fun j2 => ?_) (fun kj2 => ?_)
  · refine z_bipush (v := (-11)) hX (by decide) dX9_lettersHere_35 ?_
    refine z_cVVm 9 [.int j2, .int (-11)] hX (fun l hl o ho => c_X9_check l hl M v0 j2 (-11) o ho) dX9_lettersHere_37 (by decide) rfl rfl q_1493 okV_X9_check rfl ⟨(Nat.le_of_ble_eq_true rfl), (Nat.le_of_ble_eq_true rfl)⟩ rfl (Nat.le_of_ble_eq_true rfl) rfl rfl ⟨(Nat.le_of_ble_eq_true rfl), (Nat.le_of_ble_eq_true rfl)⟩ (fun o3 => ?_)
    refine z_aload_n hX 0 rfl rfl dX9_lettersHere_40 ?_
    refine z_gFL 9 23 hX (by decide) rfl (by decide) rfl q_1334 dX9_lettersHere_41 (fun x4 => ?_)
    refine z_l2i hX rfl dX9_lettersHere_44 ?_
    refine z_ltI (fun x5 => ?_)
    refine z_istore_n hX [(1, .int x5), (0, .ref v0)] rfl (by decide) rfl dX9_lettersHere_45 ?_
    refine z_aload_n hX 1 rfl rfl dX9_lettersHere_46 ?_
    refine z_gFI 9 20 hX (by decide) rfl (by decide) rfl q_1331 dX9_lettersHere_47 (fun x6 => ?_)
    refine z_aload_n hX 1 rfl rfl dX9_lettersHere_50 ?_
    refine z_gFI 9 21 hX (by decide) rfl (by decide) rfl q_1332 dX9_lettersHere_51 (fun x7 => ?_)
    refine z_isub hX dX9_lettersHere_54 ?_
    refine z_ltI (fun x8 => ?_)
    refine z_istore_n hX [(2, .int x8), (1, .int x5), (0, .ref v0)] rfl (by decide) rfl dX9_lettersHere_55 ?_
    refine z_sub [1, 0] rfl ?_
    refine z_lp (x0 := (x5, x8)) (bd_X9_lettersHere_56) 56 72 (fun (u9 : Int32 × Int32) => [(1, .int u9.1), (2, .int u9.2)]) (fun (e10 : Int32 × Int32) => [(1, .int e10.1)]) (fun (u9 : Int32 × Int32) => o3) ?_ ?_
    · intro e10
      refine z_iload_n hX 0 rfl rfl dX9_lettersHere_72 ?_
      exact z_iretM hX dX9_lettersHere_73 (Nat.le_of_ble_eq_true rfl) (Nat.le_of_ble_eq_true rfl)
    · intro kk11 rc12 hkk11 hrc12 u9
      unfold bd_X9_lettersHere_56
      refine z_iload_n hX 1 rfl rfl dX9_lettersHere_56 ?_
      refine z_bipush (v := 6) hX (by decide) dX9_lettersHere_57 ?_
      refine z_icmp_ge hX 72 (by decide) dX9_lettersHere_59 (fun _ => ?_) (fun _ => ?_)
      · refine z_sub [0] rfl ?_
        exact hkk11 (u9.1, u9.2)
      · refine z_iload_n hX 0 rfl rfl dX9_lettersHere_62 ?_
        refine z_iconst (v := 5) hX (by decide) dX9_lettersHere_63 ?_
        refine z_ishl hX dX9_lettersHere_64 ?_
        refine z_ltI (fun x13 => ?_)
        refine z_istore_n hX [(1, .int x13), (2, .int u9.2)] rfl (by decide) rfl dX9_lettersHere_65 ?_
        refine z_iinc hX 1 [(2, .int (u9.2 + 1)), (1, .int x13)] rfl rfl (by decide) rfl dX9_lettersHere_66 ?_
        refine z_goto hX 56 (by decide) dX9_lettersHere_69 ?_
        refine z_sub [1, 0] rfl ?_
        exact hrc12 (x13, u9.2 + 1)
  · refine z_iteB ?_
    refine z_icmp_ne hX 34 (by decide) dX9_lettersHere_6 (fun _ => ?_) (fun _ => ?_)
    · refine z_iconst (v := 0) hX (by decide) dX9_lettersHere_34 ?_
      refine z_pure ?_
      refine z_sub [0] rfl ?_
      exact kj2 0
    · refine z_aload_n hX 0 rfl rfl dX9_lettersHere_9 ?_
      refine z_asc ?_
      refine z_gFI 9 20 hX (by decide) rfl (by decide) rfl q_1331 dX9_lettersHere_10 (fun x14 => ?_)
      refine z_aload_n hX 0 rfl rfl dX9_lettersHere_13 ?_
      refine z_asc ?_
      refine z_gFI 9 21 hX (by decide) rfl (by decide) rfl q_1332 dX9_lettersHere_14 (fun x15 => ?_)
      refine z_isub hX dX9_lettersHere_17 ?_
      refine z_bipush (v := 6) hX (by decide) dX9_lettersHere_18 ?_
      refine z_iteB ?_
      refine z_icmp_gt hX 34 (by decide) dX9_lettersHere_20 (fun _ => ?_) (fun _ => ?_)
      · refine z_iconst (v := 0) hX (by decide) dX9_lettersHere_34 ?_
        refine z_pure ?_
        refine z_sub [0] rfl ?_
        exact kj2 0
      · refine z_aload_n hX 0 rfl rfl dX9_lettersHere_23 ?_
        refine z_asc ?_
        refine z_asc2 ?_
        refine z_cVIp 9 [] hX (fun l hl o ho => c_X9_isKeyword l hl M v0 o ho) dX9_lettersHere_24 (by decide) rfl rfl q_1509 okV_X9_isKeyword rfl ⟨(Nat.le_of_ble_eq_true rfl), (Nat.le_of_ble_eq_true rfl)⟩ rfl (Nat.le_of_ble_eq_true rfl) rfl rfl ⟨(Nat.le_of_ble_eq_true rfl), (Nat.le_of_ble_eq_true rfl)⟩ (fun o16 => ?_)
        refine z_iteB ?_
        refine z_if_ne hX 34 (by decide) dX9_lettersHere_27 (fun _ => ?_) (fun _ => ?_)
        · refine z_iconst (v := 0) hX (by decide) dX9_lettersHere_34 ?_
          refine z_pure ?_
          refine z_sub [0] rfl ?_
          exact kj2 0
        · refine z_iconst (v := 1) hX (by decide) dX9_lettersHere_30 ?_
          refine z_goto hX 35 (by decide) dX9_lettersHere_31 ?_
          refine z_pure ?_
          refine z_sub [0] rfl ?_
          exact kj2 1
theorem c_X9_lettersHere (l : Launch) (hl : l.stackTraces = false) (M : Mem) (v0 : Nat) (o : Int32 × Mem) (ho : f_X9_lettersHere M v0 = some o) : Ct l yX9_lettersHere cX9_lettersHere 3 (some .int) rm_X9_lettersHere [.ref v0] M (some (.int o.1)) o.2 :=
  Ct.of hl (by decide +kernel) (Nat.le_of_ble_eq_true rfl) rfl (fun X hX hin => z_X9_lettersHere hX M v0 o ho)
theorem okV_X9_lettersHere : okV yX9_lettersHere cX9_lettersHere 3 (some .int) 0 := ⟨q_1507, q_35, q_96, q_1508, by unfold okY; decide +kernel⟩
