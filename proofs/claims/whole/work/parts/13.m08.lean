/-! ParticipatoryBudgetModel.lays(I)Z -/
abbrev rm_X9_lays : Room := { frames := 8, cells := 0, slots := 0, locals := 186 }
set_option maxRecDepth 20000 in
set_option maxHeartbeats 4000000 in
theorem z_X9_lays {X : Cxt} (hX : okX X cX9_lays RX9 rm_X9_lays (some .boolean) 2) (M : Mem) (v0 : Nat) (v1 : Int32) : Zj X (fun o : Int32 × Mem => Qr X rm_X9_lays.cells rm_X9_lays.slots (some (.int o.1)) o.2) 0 0 0 [(0, .ref v0), (1, .int v1)] [] M (f_X9_lays M v0 v1) := by
  unfold f_X9_lays
  refine z_iload_n hX 1 rfl rfl dX9_lays_0 ?_
  refine z_iconst (v := 0) hX (by decide) dX9_lays_1 ?_
  refine z_iconst (v := 1) hX (by decide) dX9_lays_2 ?_
  refine z_cSIp [.int v1, .int 0, .int 1] hX (fun l hl o ho => c_X9_inRange l hl M v1 0 1 o ho) dX9_lays_3 q_1467 okS_X9_inRange rfl ⟨(Nat.le_of_ble_eq_true rfl), (Nat.le_of_ble_eq_true rfl)⟩ rfl (Nat.le_of_ble_eq_true rfl) rfl rfl ⟨(Nat.le_of_ble_eq_true rfl), (Nat.le_of_ble_eq_true rfl)⟩ (fun o1 => ?_)
  refine z_jn (C' := 0) (S' := 0) 22 (fun (j2 : Int32 × Mem) => []) (fun (j2 : Int32 × Mem) => [.int j2.1]) (fun (j2 : Int32 × Mem) => j2.2) (fun j2 => ?_) (fun kj2 => ?_)
  · exact z_zretM hX dX9_lays_22 (Nat.le_of_ble_eq_true rfl) (Nat.le_of_ble_eq_true rfl)
  · refine z_iteB ?_
    refine z_if_eq hX 21 (by decide) dX9_lays_6 (fun _ => ?_) (fun _ => ?_)
    · refine z_iconst (v := 0) hX (by decide) dX9_lays_21 ?_
      refine z_pure ?_
      refine z_sub [] rfl ?_
      exact kj2 (0, M)
    · refine z_aload_n hX 0 rfl rfl dX9_lays_9 ?_
      refine z_iload_n hX 1 rfl rfl dX9_lays_10 ?_
      refine z_asc ?_
      refine z_asc2 ?_
      refine z_cVIm 9 [.int v1] hX (fun l hl o ho => c_X9_runs l hl M v0 v1 o ho) dX9_lays_11 (by decide) rfl rfl q_1679 okV_X9_runs rfl ⟨(Nat.le_of_ble_eq_true rfl), (Nat.le_of_ble_eq_true rfl)⟩ rfl (Nat.le_of_ble_eq_true rfl) rfl rfl ⟨(Nat.le_of_ble_eq_true rfl), (Nat.le_of_ble_eq_true rfl)⟩ (fun o3 => ?_)
      refine z_iteB ?_
      refine z_if_eq hX 21 (by decide) dX9_lays_14 (fun _ => ?_) (fun _ => ?_)
      · refine z_iconst (v := 0) hX (by decide) dX9_lays_21 ?_
        refine z_pure ?_
        refine z_sub [] rfl ?_
        exact kj2 (0, o3.2)
      · refine z_iconst (v := 1) hX (by decide) dX9_lays_17 ?_
        refine z_goto hX 22 (by decide) dX9_lays_18 ?_
        refine z_pure ?_
        refine z_sub [] rfl ?_
        exact kj2 (1, o3.2)
theorem c_X9_lays (l : Launch) (hl : l.stackTraces = false) (M : Mem) (v0 : Nat) (v1 : Int32) (o : Int32 × Mem) (ho : f_X9_lays M v0 v1 = some o) : Ct l yX9_lays cX9_lays 2 (some .boolean) rm_X9_lays [.ref v0, .int v1] M (some (.int o.1)) o.2 :=
  Ct.of hl (by decide +kernel) (Nat.le_of_ble_eq_true rfl) rfl (fun X hX hin => z_X9_lays hX M v0 v1 o ho)
theorem okV_X9_lays : okV yX9_lays cX9_lays 2 (some .boolean) 1 := ⟨q_1769, q_74, q_96, q_1770, by unfold okY; decide +kernel⟩
/-! ParticipatoryBudgetModel.paidFrom(III)I -/
abbrev rm_X9_paidFrom : Room := { frames := 9, cells := 0, slots := 0, locals := 207 }
set_option maxRecDepth 20000 in
set_option maxHeartbeats 4000000 in
theorem z_X9_paidFrom {X : Cxt} (hX : okX X cX9_paidFrom RX9 rm_X9_paidFrom (some .int) 4) (M : Mem) (v0 : Nat) (v1 : Int32) (v2 : Int32) (v3 : Int32) : Zj X (fun o : Int32 × Mem => Qr X rm_X9_paidFrom.cells rm_X9_paidFrom.slots (some (.int o.1)) o.2) 0 0 0 [(0, .ref v0), (1, .int v1), (2, .int v2), (3, .int v3)] [] M (f_X9_paidFrom M v0 v1 v2 v3) := by
  unfold f_X9_paidFrom
  refine z_aload_n hX 0 rfl rfl dX9_paidFrom_0 ?_
  refine z_aload_n hX 0 rfl rfl dX9_paidFrom_1 ?_
  refine z_iload_n hX 2 rfl rfl dX9_paidFrom_2 ?_
  refine z_cVIp 9 [.int v2] hX (fun l hl o ho => c_X9_isProject l hl M v0 v2 o ho) dX9_paidFrom_3 (by decide) rfl rfl q_1595 okV_X9_isProject rfl ⟨(Nat.le_of_ble_eq_true rfl), (Nat.le_of_ble_eq_true rfl)⟩ rfl (Nat.le_of_ble_eq_true rfl) rfl rfl ⟨(Nat.le_of_ble_eq_true rfl), (Nat.le_of_ble_eq_true rfl)⟩ (fun o1 => ?_)
  refine z_jn (C' := 0) (S' := 0) 22 (fun (j2 : Int32) => [(0, .ref v0), (1, .int v1), (2, .int v2), (3, .int v3)]) (fun (j2 : Int32) => [.int j2, .ref v0]) (fun (j2 : Int32) => M) (fun j2 => ?_) (fun kj2 => ?_)
  · refine z_cVIm 9 [.int j2] hX (fun l hl o ho => c_X9_fails l hl M v0 j2 o ho) dX9_paidFrom_22 (by decide) rfl rfl q_1587 okV_X9_fails rfl ⟨(Nat.le_of_ble_eq_true rfl), (Nat.le_of_ble_eq_true rfl)⟩ rfl (Nat.le_of_ble_eq_true rfl) rfl rfl ⟨(Nat.le_of_ble_eq_true rfl), (Nat.le_of_ble_eq_true rfl)⟩ (fun o3 => ?_)
    refine z_if_eq hX 30 (by decide) dX9_paidFrom_25 (fun _ => ?_) (fun _ => ?_)
    · refine z_aload_n hX 0 rfl rfl dX9_paidFrom_30 ?_
      refine z_iload_n hX 1 rfl rfl dX9_paidFrom_31 ?_
      refine z_cVIm 9 [.int v1] hX (fun l hl o ho => c_X9_lays l hl o3.2 v0 v1 o ho) dX9_paidFrom_32 (by decide) rfl rfl q_1767 okV_X9_lays rfl ⟨(Nat.le_of_ble_eq_true rfl), (Nat.le_of_ble_eq_true rfl)⟩ rfl (Nat.le_of_ble_eq_true rfl) rfl rfl ⟨(Nat.le_of_ble_eq_true rfl), (Nat.le_of_ble_eq_true rfl)⟩ (fun o4 => ?_)
      refine z_jn (C' := 0) (S' := 0) 53 (fun (j5 : Int32) => []) (fun (j5 : Int32) => [.int j5]) (fun (j5 : Int32) => o4.2) (fun j5 => ?_) (fun kj5 => ?_)
      · exact z_iretM hX dX9_paidFrom_53 (Nat.le_of_ble_eq_true rfl) (Nat.le_of_ble_eq_true rfl)
      · refine z_iteB ?_
        refine z_if_eq hX 51 (by decide) dX9_paidFrom_35 (fun _ => ?_) (fun _ => ?_)
        · refine z_bipush (v := (-2)) hX (by decide) dX9_paidFrom_51 ?_
          refine z_pure ?_
          refine z_sub [] rfl ?_
          exact kj5 (-2)
        · refine z_aload_n hX 0 rfl rfl dX9_paidFrom_38 ?_
          refine z_asc ?_
          refine z_gFR 9 35 hX (by decide) rfl (by decide) rfl q_1346 dX9_paidFrom_39 (fun r6 => ?_)
          refine z_iconst (v := 4) hX (by decide) dX9_paidFrom_42 ?_
          refine z_iload_n hX 2 rfl rfl dX9_paidFrom_43 ?_
          refine z_imul hX dX9_paidFrom_44 ?_
          refine z_iload_n hX 3 rfl rfl dX9_paidFrom_45 ?_
          refine z_iadd hX dX9_paidFrom_46 ?_
          refine z_asc ?_
          refine z_aI hX dX9_paidFrom_47 (fun x7 => ?_)
          refine z_goto hX 53 (by decide) dX9_paidFrom_48 ?_
          refine z_pure ?_
          refine z_sub [] rfl ?_
          exact kj5 x7
    · refine z_iconst (v := 0) hX (by decide) dX9_paidFrom_28 ?_
      exact z_iretM hX dX9_paidFrom_29 (Nat.le_of_ble_eq_true rfl) (Nat.le_of_ble_eq_true rfl)
  · refine z_iteB ?_
    refine z_if_eq hX 21 (by decide) dX9_paidFrom_6 (fun _ => ?_) (fun _ => ?_)
    · refine z_iconst (v := 0) hX (by decide) dX9_paidFrom_21 ?_
      refine z_pure ?_
      refine z_sub [0, 1, 2, 3] rfl ?_
      exact kj2 0
    · refine z_aload_n hX 0 rfl rfl dX9_paidFrom_9 ?_
      refine z_iload_n hX 3 rfl rfl dX9_paidFrom_10 ?_
      refine z_asc ?_
      refine z_asc2 ?_
      refine z_cVIp 9 [.int v3] hX (fun l hl o ho => c_X9_isDistrict l hl M v0 v3 o ho) dX9_paidFrom_11 (by decide) rfl rfl q_1583 okV_X9_isDistrict rfl ⟨(Nat.le_of_ble_eq_true rfl), (Nat.le_of_ble_eq_true rfl)⟩ rfl (Nat.le_of_ble_eq_true rfl) rfl rfl ⟨(Nat.le_of_ble_eq_true rfl), (Nat.le_of_ble_eq_true rfl)⟩ (fun o8 => ?_)
      refine z_iteB ?_
      refine z_if_eq hX 21 (by decide) dX9_paidFrom_14 (fun _ => ?_) (fun _ => ?_)
      · refine z_iconst (v := 0) hX (by decide) dX9_paidFrom_21 ?_
        refine z_pure ?_
        refine z_sub [0, 1, 2, 3] rfl ?_
        exact kj2 0
      · refine z_iconst (v := 1) hX (by decide) dX9_paidFrom_17 ?_
        refine z_goto hX 22 (by decide) dX9_paidFrom_18 ?_
        refine z_pure ?_
        refine z_sub [0, 1, 2, 3] rfl ?_
        exact kj2 1
theorem c_X9_paidFrom (l : Launch) (hl : l.stackTraces = false) (M : Mem) (v0 : Nat) (v1 : Int32) (v2 : Int32) (v3 : Int32) (o : Int32 × Mem) (ho : f_X9_paidFrom M v0 v1 v2 v3 = some o) : Ct l yX9_paidFrom cX9_paidFrom 4 (some .int) rm_X9_paidFrom [.ref v0, .int v1, .int v2, .int v3] M (some (.int o.1)) o.2 :=
  Ct.of hl (by decide +kernel) (Nat.le_of_ble_eq_true rfl) rfl (fun X hX hin => z_X9_paidFrom hX M v0 v1 v2 v3 o ho)
theorem okV_X9_paidFrom : okV yX9_paidFrom cX9_paidFrom 4 (some .int) 3 := ⟨q_1764, q_1765, q_96, q_1766, by unfold okY; decide +kernel⟩
/-! ParticipatoryBudgetModel.leftOf(II)I -/
abbrev rm_X9_leftOf : Room := { frames := 9, cells := 0, slots := 0, locals := 207 }
set_option maxRecDepth 20000 in
set_option maxHeartbeats 4000000 in
theorem z_X9_leftOf {X : Cxt} (hX : okX X cX9_leftOf RX9 rm_X9_leftOf (some .int) 3) (M : Mem) (v0 : Nat) (v1 : Int32) (v2 : Int32) : Zj X (fun o : Int32 × Mem => Qr X rm_X9_leftOf.cells rm_X9_leftOf.slots (some (.int o.1)) o.2) 0 0 0 [(0, .ref v0), (1, .int v1), (2, .int v2)] [] M (f_X9_leftOf M v0 v1 v2) := by
  unfold f_X9_leftOf
  refine z_aload_n hX 0 rfl rfl dX9_leftOf_0 ?_
  refine z_aload_n hX 0 rfl rfl dX9_leftOf_1 ?_
  refine z_iload_n hX 2 rfl rfl dX9_leftOf_2 ?_
  refine z_cVIp 9 [.int v2] hX (fun l hl o ho => c_X9_isDistrict l hl M v0 v2 o ho) dX9_leftOf_3 (by decide) rfl rfl q_1583 okV_X9_isDistrict rfl ⟨(Nat.le_of_ble_eq_true rfl), (Nat.le_of_ble_eq_true rfl)⟩ rfl (Nat.le_of_ble_eq_true rfl) rfl rfl ⟨(Nat.le_of_ble_eq_true rfl), (Nat.le_of_ble_eq_true rfl)⟩ (fun o1 => ?_)
  refine z_cVIm 9 [.int o1] hX (fun l hl o ho => c_X9_fails l hl M v0 o1 o ho) dX9_leftOf_6 (by decide) rfl rfl q_1587 okV_X9_fails rfl ⟨(Nat.le_of_ble_eq_true rfl), (Nat.le_of_ble_eq_true rfl)⟩ rfl (Nat.le_of_ble_eq_true rfl) rfl rfl ⟨(Nat.le_of_ble_eq_true rfl), (Nat.le_of_ble_eq_true rfl)⟩ (fun o2 => ?_)
  refine z_if_eq hX 14 (by decide) dX9_leftOf_9 (fun _ => ?_) (fun _ => ?_)
  · refine z_aload_n hX 0 rfl rfl dX9_leftOf_14 ?_
    refine z_iload_n hX 1 rfl rfl dX9_leftOf_15 ?_
    refine z_cVIm 9 [.int v1] hX (fun l hl o ho => c_X9_lays l hl o2.2 v0 v1 o ho) dX9_leftOf_16 (by decide) rfl rfl q_1767 okV_X9_lays rfl ⟨(Nat.le_of_ble_eq_true rfl), (Nat.le_of_ble_eq_true rfl)⟩ rfl (Nat.le_of_ble_eq_true rfl) rfl rfl ⟨(Nat.le_of_ble_eq_true rfl), (Nat.le_of_ble_eq_true rfl)⟩ (fun o3 => ?_)
    refine z_jn (C' := 0) (S' := 0) 42 (fun (j4 : Int32) => []) (fun (j4 : Int32) => [.int j4]) (fun (j4 : Int32) => o3.2) (fun j4 => ?_) (fun kj4 => ?_)
    · exact z_iretM hX dX9_leftOf_42 (Nat.le_of_ble_eq_true rfl) (Nat.le_of_ble_eq_true rfl)
    · refine z_iteB ?_
      refine z_if_eq hX 40 (by decide) dX9_leftOf_19 (fun _ => ?_) (fun _ => ?_)
      · refine z_bipush (v := (-2)) hX (by decide) dX9_leftOf_40 ?_
        refine z_pure ?_
        refine z_sub [] rfl ?_
        exact kj4 (-2)
      · refine z_aload_n hX 0 rfl rfl dX9_leftOf_22 ?_
        refine z_asc ?_
        refine z_gFR 9 0 hX (by decide) rfl (by decide) rfl q_1311 dX9_leftOf_23 (fun r5 => ?_)
        refine z_iconst (v := 4) hX (by decide) dX9_leftOf_26 ?_
        refine z_iload_n hX 2 rfl rfl dX9_leftOf_27 ?_
        refine z_iadd hX dX9_leftOf_28 ?_
        refine z_asc ?_
        refine z_aI hX dX9_leftOf_29 (fun x6 => ?_)
        refine z_aload_n hX 0 rfl rfl dX9_leftOf_30 ?_
        refine z_asc ?_
        refine z_gFR 9 36 hX (by decide) rfl (by decide) rfl q_1347 dX9_leftOf_31 (fun r7 => ?_)
        refine z_iload_n hX 2 rfl rfl dX9_leftOf_34 ?_
        refine z_asc ?_
        refine z_aI hX dX9_leftOf_35 (fun x8 => ?_)
        refine z_isub hX dX9_leftOf_36 ?_
        refine z_goto hX 42 (by decide) dX9_leftOf_37 ?_
        refine z_pure ?_
        refine z_sub [] rfl ?_
        exact kj4 (x6 - x8)
  · refine z_iconst (v := 0) hX (by decide) dX9_leftOf_12 ?_
    exact z_iretM hX dX9_leftOf_13 (Nat.le_of_ble_eq_true rfl) (Nat.le_of_ble_eq_true rfl)
theorem c_X9_leftOf (l : Launch) (hl : l.stackTraces = false) (M : Mem) (v0 : Nat) (v1 : Int32) (v2 : Int32) (o : Int32 × Mem) (ho : f_X9_leftOf M v0 v1 v2 = some o) : Ct l yX9_leftOf cX9_leftOf 3 (some .int) rm_X9_leftOf [.ref v0, .int v1, .int v2] M (some (.int o.1)) o.2 :=
  Ct.of hl (by decide +kernel) (Nat.le_of_ble_eq_true rfl) rfl (fun X hX hin => z_X9_leftOf hX M v0 v1 v2 o ho)
theorem okV_X9_leftOf : okV yX9_leftOf cX9_leftOf 3 (some .int) 2 := ⟨q_1772, q_1773, q_96, q_1774, by unfold okY; decide +kernel⟩
/-! ParticipatoryBudgetModel.purseLeft(II)I -/
abbrev rm_X9_purseLeft : Room := { frames := 7, cells := 0, slots := 0, locals := 165 }
set_option maxRecDepth 20000 in
set_option maxHeartbeats 4000000 in
theorem z_X9_purseLeft {X : Cxt} (hX : okX X cX9_purseLeft RX9 rm_X9_purseLeft (some .int) 3) (M : Mem) (v0 : Nat) (v1 : Int32) (v2 : Int32) : Zj X (fun o : Int32 × Mem => Qr X rm_X9_purseLeft.cells rm_X9_purseLeft.slots (some (.int o.1)) o.2) 0 0 0 [(0, .ref v0), (1, .int v1), (2, .int v2)] [] M (f_X9_purseLeft M v0 v1 v2) := by
  unfold f_X9_purseLeft
  refine z_aload_n hX 0 rfl rfl dX9_purseLeft_0 ?_
  refine z_aload_n hX 0 rfl rfl dX9_purseLeft_1 ?_
  refine z_iload_n hX 1 rfl rfl dX9_purseLeft_2 ?_
  refine z_cVIp 9 [.int v1] hX (fun l hl o ho => c_X9_isVoter l hl M v0 v1 o ho) dX9_purseLeft_3 (by decide) rfl rfl q_1607 okV_X9_isVoter rfl ⟨(Nat.le_of_ble_eq_true rfl), (Nat.le_of_ble_eq_true rfl)⟩ rfl (Nat.le_of_ble_eq_true rfl) rfl rfl ⟨(Nat.le_of_ble_eq_true rfl), (Nat.le_of_ble_eq_true rfl)⟩ (fun o1 => ?_)
  refine z_jn (C' := 0) (S' := 0) 22 (fun (j2 : Int32) => [(0, .ref v0), (1, .int v1), (2, .int v2)]) (fun (j2 : Int32) => [.int j2, .ref v0]) (fun (j2 : Int32) => M) (fun j2 => ?_) (fun kj2 => ?_)
  · refine z_cVIm 9 [.int j2] hX (fun l hl o ho => c_X9_fails l hl M v0 j2 o ho) dX9_purseLeft_22 (by decide) rfl rfl q_1587 okV_X9_fails rfl ⟨(Nat.le_of_ble_eq_true rfl), (Nat.le_of_ble_eq_true rfl)⟩ rfl (Nat.le_of_ble_eq_true rfl) rfl rfl ⟨(Nat.le_of_ble_eq_true rfl), (Nat.le_of_ble_eq_true rfl)⟩ (fun o3 => ?_)
    refine z_if_eq hX 30 (by decide) dX9_purseLeft_25 (fun _ => ?_) (fun _ => ?_)
    · refine z_aload_n hX 0 rfl rfl dX9_purseLeft_30 ?_
      refine z_cVVm 9 [] hX (fun l hl o ho => c_X9_equal l hl o3.2 v0 o ho) dX9_purseLeft_31 (by decide) rfl rfl q_1683 okV_X9_equal rfl ⟨(Nat.le_of_ble_eq_true rfl), (Nat.le_of_ble_eq_true rfl)⟩ rfl (Nat.le_of_ble_eq_true rfl) rfl rfl ⟨(Nat.le_of_ble_eq_true rfl), (Nat.le_of_ble_eq_true rfl)⟩ (fun o4 => ?_)
      refine z_aload_n hX 0 rfl rfl dX9_purseLeft_34 ?_
      refine z_gFR 9 29 hX (by decide) rfl (by decide) rfl q_1340 dX9_purseLeft_35 (fun r5 => ?_)
      refine z_iconst (v := 4) hX (by decide) dX9_purseLeft_38 ?_
      refine z_iload_n hX 1 rfl rfl dX9_purseLeft_39 ?_
      refine z_imul hX dX9_purseLeft_40 ?_
      refine z_iload_n hX 2 rfl rfl dX9_purseLeft_41 ?_
      refine z_iadd hX dX9_purseLeft_42 ?_
      refine z_aI hX dX9_purseLeft_43 (fun x6 => ?_)
      exact z_iretM hX dX9_purseLeft_44 (Nat.le_of_ble_eq_true rfl) (Nat.le_of_ble_eq_true rfl)
    · refine z_iconst (v := 0) hX (by decide) dX9_purseLeft_28 ?_
      exact z_iretM hX dX9_purseLeft_29 (Nat.le_of_ble_eq_true rfl) (Nat.le_of_ble_eq_true rfl)
  · refine z_iteB ?_
    refine z_if_eq hX 21 (by decide) dX9_purseLeft_6 (fun _ => ?_) (fun _ => ?_)
    · refine z_iconst (v := 0) hX (by decide) dX9_purseLeft_21 ?_
      refine z_pure ?_
      refine z_sub [0, 1, 2] rfl ?_
      exact kj2 0
    · refine z_aload_n hX 0 rfl rfl dX9_purseLeft_9 ?_
      refine z_iload_n hX 2 rfl rfl dX9_purseLeft_10 ?_
      refine z_asc ?_
      refine z_asc2 ?_
      refine z_cVIp 9 [.int v2] hX (fun l hl o ho => c_X9_isDistrict l hl M v0 v2 o ho) dX9_purseLeft_11 (by decide) rfl rfl q_1583 okV_X9_isDistrict rfl ⟨(Nat.le_of_ble_eq_true rfl), (Nat.le_of_ble_eq_true rfl)⟩ rfl (Nat.le_of_ble_eq_true rfl) rfl rfl ⟨(Nat.le_of_ble_eq_true rfl), (Nat.le_of_ble_eq_true rfl)⟩ (fun o7 => ?_)
      refine z_iteB ?_
      refine z_if_eq hX 21 (by decide) dX9_purseLeft_14 (fun _ => ?_) (fun _ => ?_)
      · refine z_iconst (v := 0) hX (by decide) dX9_purseLeft_21 ?_
        refine z_pure ?_
        refine z_sub [0, 1, 2] rfl ?_
        exact kj2 0
      · refine z_iconst (v := 1) hX (by decide) dX9_purseLeft_17 ?_
        refine z_goto hX 22 (by decide) dX9_purseLeft_18 ?_
        refine z_pure ?_
        refine z_sub [0, 1, 2] rfl ?_
        exact kj2 1
theorem c_X9_purseLeft (l : Launch) (hl : l.stackTraces = false) (M : Mem) (v0 : Nat) (v1 : Int32) (v2 : Int32) (o : Int32 × Mem) (ho : f_X9_purseLeft M v0 v1 v2 = some o) : Ct l yX9_purseLeft cX9_purseLeft 3 (some .int) rm_X9_purseLeft [.ref v0, .int v1, .int v2] M (some (.int o.1)) o.2 :=
  Ct.of hl (by decide +kernel) (Nat.le_of_ble_eq_true rfl) rfl (fun X hX hin => z_X9_purseLeft hX M v0 v1 v2 o ho)
theorem okV_X9_purseLeft : okV yX9_purseLeft cX9_purseLeft 3 (some .int) 2 := ⟨q_1776, q_1777, q_96, q_1778, by unfold okY; decide +kernel⟩
/-! ParticipatoryBudgetModel.meansLeft(I)I -/
abbrev rm_X9_meansLeft : Room := { frames := 7, cells := 0, slots := 0, locals := 165 }
set_option maxRecDepth 20000 in
set_option maxHeartbeats 4000000 in
theorem z_X9_meansLeft {X : Cxt} (hX : okX X cX9_meansLeft RX9 rm_X9_meansLeft (some .int) 2) (M : Mem) (v0 : Nat) (v1 : Int32) : Zj X (fun o : Int32 × Mem => Qr X rm_X9_meansLeft.cells rm_X9_meansLeft.slots (some (.int o.1)) o.2) 0 0 0 [(0, .ref v0), (1, .int v1)] [] M (f_X9_meansLeft M v0 v1) := by
  unfold f_X9_meansLeft
  refine z_aload_n hX 0 rfl rfl dX9_meansLeft_0 ?_
  refine z_aload_n hX 0 rfl rfl dX9_meansLeft_1 ?_
  refine z_iload_n hX 1 rfl rfl dX9_meansLeft_2 ?_
  refine z_cVIp 9 [.int v1] hX (fun l hl o ho => c_X9_isProject l hl M v0 v1 o ho) dX9_meansLeft_3 (by decide) rfl rfl q_1595 okV_X9_isProject rfl ⟨(Nat.le_of_ble_eq_true rfl), (Nat.le_of_ble_eq_true rfl)⟩ rfl (Nat.le_of_ble_eq_true rfl) rfl rfl ⟨(Nat.le_of_ble_eq_true rfl), (Nat.le_of_ble_eq_true rfl)⟩ (fun o1 => ?_)
  refine z_cVIm 9 [.int o1] hX (fun l hl o ho => c_X9_fails l hl M v0 o1 o ho) dX9_meansLeft_6 (by decide) rfl rfl q_1587 okV_X9_fails rfl ⟨(Nat.le_of_ble_eq_true rfl), (Nat.le_of_ble_eq_true rfl)⟩ rfl (Nat.le_of_ble_eq_true rfl) rfl rfl ⟨(Nat.le_of_ble_eq_true rfl), (Nat.le_of_ble_eq_true rfl)⟩ (fun o2 => ?_)
  refine z_if_eq hX 14 (by decide) dX9_meansLeft_9 (fun _ => ?_) (fun _ => ?_)
  · refine z_aload_n hX 0 rfl rfl dX9_meansLeft_14 ?_
    refine z_cVVm 9 [] hX (fun l hl o ho => c_X9_equal l hl o2.2 v0 o ho) dX9_meansLeft_15 (by decide) rfl rfl q_1683 okV_X9_equal rfl ⟨(Nat.le_of_ble_eq_true rfl), (Nat.le_of_ble_eq_true rfl)⟩ rfl (Nat.le_of_ble_eq_true rfl) rfl rfl ⟨(Nat.le_of_ble_eq_true rfl), (Nat.le_of_ble_eq_true rfl)⟩ (fun o3 => ?_)
    refine z_aload_n hX 0 rfl rfl dX9_meansLeft_18 ?_
    refine z_iload_n hX 1 rfl rfl dX9_meansLeft_19 ?_
    refine z_cVIp 9 [.int v1] hX (fun l hl o ho => c_X9_allMeans l hl o3 v0 v1 o ho) dX9_meansLeft_20 (by decide) rfl rfl q_1659 okV_X9_allMeans rfl ⟨(Nat.le_of_ble_eq_true rfl), (Nat.le_of_ble_eq_true rfl)⟩ rfl (Nat.le_of_ble_eq_true rfl) rfl rfl ⟨(Nat.le_of_ble_eq_true rfl), (Nat.le_of_ble_eq_true rfl)⟩ (fun o4 => ?_)
    exact z_iretM hX dX9_meansLeft_23 (Nat.le_of_ble_eq_true rfl) (Nat.le_of_ble_eq_true rfl)
  · refine z_iconst (v := 0) hX (by decide) dX9_meansLeft_12 ?_
    exact z_iretM hX dX9_meansLeft_13 (Nat.le_of_ble_eq_true rfl) (Nat.le_of_ble_eq_true rfl)
theorem c_X9_meansLeft (l : Launch) (hl : l.stackTraces = false) (M : Mem) (v0 : Nat) (v1 : Int32) (o : Int32 × Mem) (ho : f_X9_meansLeft M v0 v1 = some o) : Ct l yX9_meansLeft cX9_meansLeft 2 (some .int) rm_X9_meansLeft [.ref v0, .int v1] M (some (.int o.1)) o.2 :=
  Ct.of hl (by decide +kernel) (Nat.le_of_ble_eq_true rfl) rfl (fun X hX hin => z_X9_meansLeft hX M v0 v1 o ho)
theorem okV_X9_meansLeft : okV yX9_meansLeft cX9_meansLeft 2 (some .int) 1 := ⟨q_1780, q_1781, q_96, q_1782, by unfold okY; decide +kernel⟩
/-! ParticipatoryBudgetModel.raises()I -/
abbrev rm_X9_raises : Room := { frames := 7, cells := 0, slots := 0, locals := 165 }
set_option maxRecDepth 20000 in
set_option maxHeartbeats 4000000 in
theorem z_X9_raises {X : Cxt} (hX : okX X cX9_raises RX9 rm_X9_raises (some .int) 1) (M : Mem) (v0 : Nat) : Zj X (fun o : Int32 × Mem => Qr X rm_X9_raises.cells rm_X9_raises.slots (some (.int o.1)) o.2) 0 0 0 [(0, .ref v0)] [] M (f_X9_raises M v0) := by
  unfold f_X9_raises
  refine z_aload_n hX 0 rfl rfl dX9_raises_0 ?_
  refine z_iconst (v := 0) hX (by decide) dX9_raises_1 ?_
  refine z_pFI 9 4 hX (by decide) rfl (by decide) rfl q_1315 rfl pd_1 rfl rfl dX9_raises_2 (fun M1 => ?_)
  refine z_aload_n hX 0 rfl rfl dX9_raises_5 ?_
  refine z_cVVm 9 [] hX (fun l hl o ho => c_X9_equal l hl M1 v0 o ho) dX9_raises_6 (by decide) rfl rfl q_1683 okV_X9_equal rfl ⟨(Nat.le_of_ble_eq_true rfl), (Nat.le_of_ble_eq_true rfl)⟩ rfl (Nat.le_of_ble_eq_true rfl) rfl rfl ⟨(Nat.le_of_ble_eq_true rfl), (Nat.le_of_ble_eq_true rfl)⟩ (fun o2 => ?_)
  refine z_aload_n hX 0 rfl rfl dX9_raises_9 ?_
  refine z_gFI 9 39 hX (by decide) rfl (by decide) rfl q_1350 dX9_raises_10 (fun x3 => ?_)
  exact z_iretM hX dX9_raises_13 (Nat.le_of_ble_eq_true rfl) (Nat.le_of_ble_eq_true rfl)
theorem c_X9_raises (l : Launch) (hl : l.stackTraces = false) (M : Mem) (v0 : Nat) (o : Int32 × Mem) (ho : f_X9_raises M v0 = some o) : Ct l yX9_raises cX9_raises 1 (some .int) rm_X9_raises [.ref v0] M (some (.int o.1)) o.2 :=
  Ct.of hl (by decide +kernel) (Nat.le_of_ble_eq_true rfl) rfl (fun X hX hin => z_X9_raises hX M v0 o ho)
theorem okV_X9_raises : okV yX9_raises cX9_raises 1 (some .int) 0 := ⟨q_1784, q_1785, q_96, q_1786, by unfold okY; decide +kernel⟩
/-! ParticipatoryBudgetModel.many(I)I -/
abbrev rm_X9_many : Room := { frames := 1, cells := 0, slots := 0, locals := 21 }
set_option maxRecDepth 20000 in
set_option maxHeartbeats 4000000 in
theorem z_X9_many {X : Cxt} (hX : okX X cX9_many RX9 rm_X9_many (some .int) 4) (M : Mem) (v0 : Nat) (v1 : Int32) : Zj X (fun o : Int32 => Qr X rm_X9_many.cells rm_X9_many.slots (some (.int o)) M) 0 0 0 [(0, .ref v0), (1, .int v1)] [] M (f_X9_many M v0 v1) := by
  unfold f_X9_many
  refine z_iconst (v := 0) hX (by decide) dX9_many_0 ?_
  refine z_istore_n hX [(2, .int 0), (0, .ref v0), (1, .int v1)] rfl (by decide) rfl dX9_many_1 ?_
  refine z_iconst (v := 0) hX (by decide) dX9_many_2 ?_
  refine z_istore_n hX [(3, .int 0), (2, .int 0), (0, .ref v0), (1, .int v1)] rfl (by decide) rfl dX9_many_3 ?_
  refine z_sub [2, 3, 1, 0] rfl ?_
  refine z_lp (x0 := (0, 0)) (bd_X9_many_4 M v0 v1) 4 34 (fun (u1 : Int32 × Int32) => [(0, .ref v0), (1, .int v1), (2, .int u1.1), (3, .int u1.2)]) (fun (e2 : Int32 × Int32) => [(2, .int e2.1)]) (fun (u1 : Int32 × Int32) => M) ?_ ?_
  · intro e2
    refine z_iload_n hX 0 rfl rfl dX9_many_34 ?_
    exact z_iretP hX dX9_many_35 (Nat.le_of_ble_eq_true rfl) (Nat.le_of_ble_eq_true rfl)
  · intro kk3 rc4 hkk3 hrc4 u1
    unfold bd_X9_many_4
    refine z_iload_n hX 3 rfl rfl dX9_many_4 ?_
    refine z_aload_n hX 0 rfl rfl dX9_many_5 ?_
    refine z_gFI 9 6 hX (by decide) rfl (by decide) rfl q_1317 dX9_many_6 (fun x5 => ?_)
    refine z_icmp_ge hX 34 (by decide) dX9_many_9 (fun _ => ?_) (fun _ => ?_)
    · refine z_sub [2] rfl ?_
      exact hkk3 (u1.1, u1.2)
    · refine z_iload_n hX 2 rfl rfl dX9_many_12 ?_
      refine z_iload_n hX 1 rfl rfl dX9_many_13 ?_
      refine z_iload_n hX 3 rfl rfl dX9_many_14 ?_
      refine z_cSIp [.int v1, .int u1.2] hX (fun l hl o ho => c_X9_has l hl M v1 u1.2 o ho) dX9_many_15 q_1537 okS_X9_has rfl ⟨(Nat.le_of_ble_eq_true rfl), (Nat.le_of_ble_eq_true rfl)⟩ rfl (Nat.le_of_ble_eq_true rfl) rfl rfl ⟨(Nat.le_of_ble_eq_true rfl), (Nat.le_of_ble_eq_true rfl)⟩ (fun o6 => ?_)
      refine z_jn (C' := 0) (S' := 0) 26 (fun (j7 : Int32) => [(0, .ref v0), (1, .int v1), (3, .int u1.2)]) (fun (j7 : Int32) => [.int j7, .int u1.1]) (fun (j7 : Int32) => M) (fun j7 => ?_) (fun kj7 => ?_)
      · refine z_iadd hX dX9_many_26 ?_
        refine z_ltI (fun x8 => ?_)
        refine z_istore_n hX [(2, .int x8), (0, .ref v0), (1, .int v1), (3, .int u1.2)] rfl (by decide) rfl dX9_many_27 ?_
        refine z_iinc hX 3 [(3, .int (u1.2 + 1)), (2, .int x8), (0, .ref v0), (1, .int v1)] rfl rfl (by decide) rfl dX9_many_28 ?_
        refine z_goto hX 4 (by decide) dX9_many_31 ?_
        refine z_sub [2, 3, 1, 0] rfl ?_
        exact hrc4 (x8, u1.2 + 1)
      · refine z_iteB ?_
        refine z_if_eq hX 25 (by decide) dX9_many_18 (fun _ => ?_) (fun _ => ?_)
        · refine z_iconst (v := 0) hX (by decide) dX9_many_25 ?_
          refine z_pure ?_
          refine z_sub [0, 1, 3] rfl ?_
          exact kj7 0
        · refine z_iconst (v := 1) hX (by decide) dX9_many_21 ?_
          refine z_goto hX 26 (by decide) dX9_many_22 ?_
          refine z_pure ?_
          refine z_sub [0, 1, 3] rfl ?_
          exact kj7 1
theorem c_X9_many (l : Launch) (hl : l.stackTraces = false) (M : Mem) (v0 : Nat) (v1 : Int32) (o : Int32) (ho : f_X9_many M v0 v1 = some o) : Ct l yX9_many cX9_many 4 (some .int) rm_X9_many [.ref v0, .int v1] M (some (.int o)) M :=
  Ct.of hl (by decide +kernel) (Nat.le_of_ble_eq_true rfl) rfl (fun X hX hin => z_X9_many hX M v0 v1 o ho)
theorem okV_X9_many : okV yX9_many cX9_many 4 (some .int) 1 := ⟨q_1793, q_75, q_96, q_1794, by unfold okY; decide +kernel⟩
/-! ParticipatoryBudgetModel.completed()I -/
abbrev rm_X9_completed : Room := { frames := 7, cells := 0, slots := 0, locals := 165 }
set_option maxRecDepth 20000 in
set_option maxHeartbeats 4000000 in
theorem z_X9_completed {X : Cxt} (hX : okX X cX9_completed RX9 rm_X9_completed (some .int) 1) (M : Mem) (v0 : Nat) : Zj X (fun o : Int32 × Mem => Qr X rm_X9_completed.cells rm_X9_completed.slots (some (.int o.1)) o.2) 0 0 0 [(0, .ref v0)] [] M (f_X9_completed M v0) := by
  unfold f_X9_completed
  refine z_aload_n hX 0 rfl rfl dX9_completed_0 ?_
  refine z_iconst (v := 0) hX (by decide) dX9_completed_1 ?_
  refine z_pFI 9 4 hX (by decide) rfl (by decide) rfl q_1315 rfl pd_1 rfl rfl dX9_completed_2 (fun M1 => ?_)
  refine z_aload_n hX 0 rfl rfl dX9_completed_5 ?_
  refine z_cVVm 9 [] hX (fun l hl o ho => c_X9_equal l hl M1 v0 o ho) dX9_completed_6 (by decide) rfl rfl q_1683 okV_X9_equal rfl ⟨(Nat.le_of_ble_eq_true rfl), (Nat.le_of_ble_eq_true rfl)⟩ rfl (Nat.le_of_ble_eq_true rfl) rfl rfl ⟨(Nat.le_of_ble_eq_true rfl), (Nat.le_of_ble_eq_true rfl)⟩ (fun o2 => ?_)
  refine z_aload_n hX 0 rfl rfl dX9_completed_9 ?_
  refine z_aload_n hX 0 rfl rfl dX9_completed_10 ?_
  refine z_gFI 9 30 hX (by decide) rfl (by decide) rfl q_1341 dX9_completed_11 (fun x3 => ?_)
  refine z_aload_n hX 0 rfl rfl dX9_completed_14 ?_
  refine z_gFI 9 38 hX (by decide) rfl (by decide) rfl q_1349 dX9_completed_15 (fun x4 => ?_)
  refine z_iconst (v := (-1)) hX (by decide) dX9_completed_18 ?_
  refine z_ixor hX dX9_completed_19 ?_
  refine z_iand hX dX9_completed_20 ?_
  refine z_cVIp 9 [.int (x3 &&& (x4 ^^^ (-1)))] hX (fun l hl o ho => c_X9_many l hl o2 v0 (x3 &&& (x4 ^^^ (-1))) o ho) dX9_completed_21 (by decide) rfl rfl q_1791 okV_X9_many rfl ⟨(Nat.le_of_ble_eq_true rfl), (Nat.le_of_ble_eq_true rfl)⟩ rfl (Nat.le_of_ble_eq_true rfl) rfl rfl ⟨(Nat.le_of_ble_eq_true rfl), (Nat.le_of_ble_eq_true rfl)⟩ (fun o5 => ?_)
  exact z_iretM hX dX9_completed_24 (Nat.le_of_ble_eq_true rfl) (Nat.le_of_ble_eq_true rfl)
theorem c_X9_completed (l : Launch) (hl : l.stackTraces = false) (M : Mem) (v0 : Nat) (o : Int32 × Mem) (ho : f_X9_completed M v0 = some o) : Ct l yX9_completed cX9_completed 1 (some .int) rm_X9_completed [.ref v0] M (some (.int o.1)) o.2 :=
  Ct.of hl (by decide +kernel) (Nat.le_of_ble_eq_true rfl) rfl (fun X hX hin => z_X9_completed hX M v0 o ho)
theorem okV_X9_completed : okV yX9_completed cX9_completed 1 (some .int) 0 := ⟨q_1788, q_1789, q_96, q_1790, by unfold okY; decide +kernel⟩
/-! ParticipatoryBudgetModel.totalCost(I)I -/
abbrev rm_X9_totalCost : Room := { frames := 8, cells := 0, slots := 0, locals := 186 }
set_option maxRecDepth 20000 in
set_option maxHeartbeats 4000000 in
theorem z_X9_totalCost {X : Cxt} (hX : okX X cX9_totalCost RX9 rm_X9_totalCost (some .int) 2) (M : Mem) (v0 : Nat) (v1 : Int32) : Zj X (fun o : Int32 × Mem => Qr X rm_X9_totalCost.cells rm_X9_totalCost.slots (some (.int o.1)) o.2) 0 0 0 [(0, .ref v0), (1, .int v1)] [] M (f_X9_totalCost M v0 v1) := by
  unfold f_X9_totalCost
  refine z_aload_n hX 0 rfl rfl dX9_totalCost_0 ?_
  refine z_iconst (v := 0) hX (by decide) dX9_totalCost_1 ?_
  refine z_pFI 9 4 hX (by decide) rfl (by decide) rfl q_1315 rfl pd_1 rfl rfl dX9_totalCost_2 (fun M1 => ?_)
  refine z_aload_n hX 0 rfl rfl dX9_totalCost_5 ?_
  refine z_iload_n hX 1 rfl rfl dX9_totalCost_6 ?_
  refine z_cVIm 9 [.int v1] hX (fun l hl o ho => c_X9_runs l hl M1 v0 v1 o ho) dX9_totalCost_7 (by decide) rfl rfl q_1679 okV_X9_runs rfl ⟨(Nat.le_of_ble_eq_true rfl), (Nat.le_of_ble_eq_true rfl)⟩ rfl (Nat.le_of_ble_eq_true rfl) rfl rfl ⟨(Nat.le_of_ble_eq_true rfl), (Nat.le_of_ble_eq_true rfl)⟩ (fun o2 => ?_)
  refine z_jn (C' := 0) (S' := 0) 26 (fun (j3 : Int32) => []) (fun (j3 : Int32) => [.int j3]) (fun (j3 : Int32) => o2.2) (fun j3 => ?_) (fun kj3 => ?_)
  · exact z_iretM hX dX9_totalCost_26 (Nat.le_of_ble_eq_true rfl) (Nat.le_of_ble_eq_true rfl)
  · refine z_iteB ?_
    refine z_if_eq hX 24 (by decide) dX9_totalCost_10 (fun _ => ?_) (fun _ => ?_)
    · refine z_bipush (v := (-2)) hX (by decide) dX9_totalCost_24 ?_
      refine z_pure ?_
      refine z_sub [] rfl ?_
      exact kj3 (-2)
    · refine z_aload_n hX 0 rfl rfl dX9_totalCost_13 ?_
      refine z_aload_n hX 0 rfl rfl dX9_totalCost_14 ?_
      refine z_asc ?_
      refine z_gFI 9 30 hX (by decide) rfl (by decide) rfl q_1341 dX9_totalCost_15 (fun x4 => ?_)
      refine z_asc ?_
      refine z_asc2 ?_
      refine z_cVIp 9 [.int x4] hX (fun l hl o ho => c_X9_costsOf l hl o2.2 v0 x4 o ho) dX9_totalCost_18 (by decide) rfl rfl q_1743 okV_X9_costsOf rfl ⟨(Nat.le_of_ble_eq_true rfl), (Nat.le_of_ble_eq_true rfl)⟩ rfl (Nat.le_of_ble_eq_true rfl) rfl rfl ⟨(Nat.le_of_ble_eq_true rfl), (Nat.le_of_ble_eq_true rfl)⟩ (fun o5 => ?_)
      refine z_goto hX 26 (by decide) dX9_totalCost_21 ?_
      refine z_pure ?_
      refine z_sub [] rfl ?_
      exact kj3 o5
theorem c_X9_totalCost (l : Launch) (hl : l.stackTraces = false) (M : Mem) (v0 : Nat) (v1 : Int32) (o : Int32 × Mem) (ho : f_X9_totalCost M v0 v1 = some o) : Ct l yX9_totalCost cX9_totalCost 2 (some .int) rm_X9_totalCost [.ref v0, .int v1] M (some (.int o.1)) o.2 :=
  Ct.of hl (by decide +kernel) (Nat.le_of_ble_eq_true rfl) rfl (fun X hX hin => z_X9_totalCost hX M v0 v1 o ho)
theorem okV_X9_totalCost : okV yX9_totalCost cX9_totalCost 2 (some .int) 1 := ⟨q_1796, q_1797, q_96, q_1798, by unfold okY; decide +kernel⟩
/-! ParticipatoryBudgetModel.welfare(I)J -/
abbrev rm_X9_welfare : Room := { frames := 8, cells := 0, slots := 0, locals := 186 }
set_option maxRecDepth 20000 in
set_option maxHeartbeats 4000000 in
theorem z_X9_welfare {X : Cxt} (hX : okX X cX9_welfare RX9 rm_X9_welfare (some .long) 2) (M : Mem) (v0 : Nat) (v1 : Int32) : Zj X (fun o : Int64 × Mem => Qr X rm_X9_welfare.cells rm_X9_welfare.slots (some (.long o.1)) o.2) 0 0 0 [(0, .ref v0), (1, .int v1)] [] M (f_X9_welfare M v0 v1) := by
  unfold f_X9_welfare
  refine z_aload_n hX 0 rfl rfl dX9_welfare_0 ?_
  refine z_iconst (v := 0) hX (by decide) dX9_welfare_1 ?_
  refine z_pFI 9 4 hX (by decide) rfl (by decide) rfl q_1315 rfl pd_1 rfl rfl dX9_welfare_2 (fun M1 => ?_)
  refine z_aload_n hX 0 rfl rfl dX9_welfare_5 ?_
  refine z_iload_n hX 1 rfl rfl dX9_welfare_6 ?_
  refine z_cVIm 9 [.int v1] hX (fun l hl o ho => c_X9_runs l hl M1 v0 v1 o ho) dX9_welfare_7 (by decide) rfl rfl q_1679 okV_X9_runs rfl ⟨(Nat.le_of_ble_eq_true rfl), (Nat.le_of_ble_eq_true rfl)⟩ rfl (Nat.le_of_ble_eq_true rfl) rfl rfl ⟨(Nat.le_of_ble_eq_true rfl), (Nat.le_of_ble_eq_true rfl)⟩ (fun o2 => ?_)
  refine z_if_ne hX 17 (by decide) dX9_welfare_10 (fun _ => ?_) (fun _ => ?_)
  · refine z_aload_n hX 0 rfl rfl dX9_welfare_17 ?_
    refine z_cVVm 9 [] hX (fun l hl o ho => c_X9_layGains l hl o2.2 v0 o ho) dX9_welfare_18 (by decide) rfl rfl q_1731 okV_X9_layGains rfl ⟨(Nat.le_of_ble_eq_true rfl), (Nat.le_of_ble_eq_true rfl)⟩ rfl (Nat.le_of_ble_eq_true rfl) rfl rfl ⟨(Nat.le_of_ble_eq_true rfl), (Nat.le_of_ble_eq_true rfl)⟩ (fun o3 => ?_)
    refine z_aload_n hX 0 rfl rfl dX9_welfare_21 ?_
    refine z_aload_n hX 0 rfl rfl dX9_welfare_22 ?_
    refine z_gFI 9 30 hX (by decide) rfl (by decide) rfl q_1341 dX9_welfare_23 (fun x4 => ?_)
    refine z_cVJp 9 [.int x4] hX (fun l hl o ho => c_X9_gainOf l hl o3 v0 x4 o ho) dX9_welfare_26 (by decide) rfl rfl q_1739 okV_X9_gainOf rfl ⟨(Nat.le_of_ble_eq_true rfl), (Nat.le_of_ble_eq_true rfl)⟩ rfl (Nat.le_of_ble_eq_true rfl) rfl rfl ⟨(Nat.le_of_ble_eq_true rfl), (Nat.le_of_ble_eq_true rfl)⟩ (fun o5 => ?_)
    exact z_lretM hX dX9_welfare_29 (Nat.le_of_ble_eq_true rfl) (Nat.le_of_ble_eq_true rfl)
  · refine z_ldc2 (v := (-2)) hX q_1803 dX9_welfare_13 ?_
    exact z_lretM hX dX9_welfare_16 (Nat.le_of_ble_eq_true rfl) (Nat.le_of_ble_eq_true rfl)
theorem c_X9_welfare (l : Launch) (hl : l.stackTraces = false) (M : Mem) (v0 : Nat) (v1 : Int32) (o : Int64 × Mem) (ho : f_X9_welfare M v0 v1 = some o) : Ct l yX9_welfare cX9_welfare 2 (some .long) rm_X9_welfare [.ref v0, .int v1] M (some (.long o.1)) o.2 :=
  Ct.of hl (by decide +kernel) (Nat.le_of_ble_eq_true rfl) rfl (fun X hX hin => z_X9_welfare hX M v0 v1 o ho)
theorem okV_X9_welfare : okV yX9_welfare cX9_welfare 2 (some .long) 1 := ⟨q_1800, q_1801, q_96, q_1802, by unfold okY; decide +kernel⟩
/-! ParticipatoryBudgetModel.joyOf(I)I -/
abbrev rm_X9_joyOf : Room := { frames := 2, cells := 0, slots := 0, locals := 43 }
set_option maxRecDepth 20000 in
set_option maxHeartbeats 4000000 in
theorem z_X9_joyOf {X : Cxt} (hX : okX X cX9_joyOf RX9 rm_X9_joyOf (some .int) 4) (M : Mem) (v0 : Nat) (v1 : Int32) : Zj X (fun o : Int32 => Qr X rm_X9_joyOf.cells rm_X9_joyOf.slots (some (.int o)) M) 0 0 0 [(0, .ref v0), (1, .int v1)] [] M (f_X9_joyOf M v0 v1) := by
  unfold f_X9_joyOf
  refine z_iconst (v := 0) hX (by decide) dX9_joyOf_0 ?_
  refine z_istore_n hX [(2, .int 0), (0, .ref v0), (1, .int v1)] rfl (by decide) rfl dX9_joyOf_1 ?_
  refine z_iconst (v := 0) hX (by decide) dX9_joyOf_2 ?_
  refine z_istore_n hX [(3, .int 0), (2, .int 0), (0, .ref v0), (1, .int v1)] rfl (by decide) rfl dX9_joyOf_3 ?_
  refine z_sub [2, 3, 1, 0] rfl ?_
  refine z_lp (x0 := (0, 0)) (bd_X9_joyOf_4 M v0 v1) 4 50 (fun (u1 : Int32 × Int32) => [(0, .ref v0), (1, .int v1), (2, .int u1.1), (3, .int u1.2)]) (fun (e2 : Int32 × Int32) => [(2, .int e2.1)]) (fun (u1 : Int32 × Int32) => M) ?_ ?_
  · intro e2
    refine z_iload_n hX 0 rfl rfl dX9_joyOf_50 ?_
    exact z_iretP hX dX9_joyOf_51 (Nat.le_of_ble_eq_true rfl) (Nat.le_of_ble_eq_true rfl)
  · intro kk3 rc4 hkk3 hrc4 u1
    unfold bd_X9_joyOf_4
    refine z_iload_n hX 3 rfl rfl dX9_joyOf_4 ?_
    refine z_aload_n hX 0 rfl rfl dX9_joyOf_5 ?_
    refine z_gFI 9 6 hX (by decide) rfl (by decide) rfl q_1317 dX9_joyOf_6 (fun x5 => ?_)
    refine z_icmp_ge hX 50 (by decide) dX9_joyOf_9 (fun _ => ?_) (fun _ => ?_)
    · refine z_sub [2] rfl ?_
      exact hkk3 (u1.1, u1.2)
    · refine z_iload_n hX 2 rfl rfl dX9_joyOf_12 ?_
      refine z_aload_n hX 0 rfl rfl dX9_joyOf_13 ?_
      refine z_gFI 9 30 hX (by decide) rfl (by decide) rfl q_1341 dX9_joyOf_14 (fun x6 => ?_)
      refine z_iload_n hX 3 rfl rfl dX9_joyOf_17 ?_
      refine z_cSIp [.int x6, .int u1.2] hX (fun l hl o ho => c_X9_has l hl M x6 u1.2 o ho) dX9_joyOf_18 q_1537 okS_X9_has rfl ⟨(Nat.le_of_ble_eq_true rfl), (Nat.le_of_ble_eq_true rfl)⟩ rfl (Nat.le_of_ble_eq_true rfl) rfl rfl ⟨(Nat.le_of_ble_eq_true rfl), (Nat.le_of_ble_eq_true rfl)⟩ (fun o7 => ?_)
      refine z_jn (C' := 0) (S' := 0) 42 (fun (j8 : Int32) => [(0, .ref v0), (1, .int v1), (3, .int u1.2)]) (fun (j8 : Int32) => [.int j8, .int u1.1]) (fun (j8 : Int32) => M) (fun j8 => ?_) (fun kj8 => ?_)
      · refine z_iadd hX dX9_joyOf_42 ?_
        refine z_ltI (fun x9 => ?_)
        refine z_istore_n hX [(2, .int x9), (0, .ref v0), (1, .int v1), (3, .int u1.2)] rfl (by decide) rfl dX9_joyOf_43 ?_
        refine z_iinc hX 3 [(3, .int (u1.2 + 1)), (2, .int x9), (0, .ref v0), (1, .int v1)] rfl rfl (by decide) rfl dX9_joyOf_44 ?_
        refine z_goto hX 4 (by decide) dX9_joyOf_47 ?_
        refine z_sub [2, 3, 1, 0] rfl ?_
        exact hrc4 (x9, u1.2 + 1)
      · refine z_iteB ?_
        refine z_if_eq hX 41 (by decide) dX9_joyOf_21 (fun _ => ?_) (fun _ => ?_)
        · refine z_iconst (v := 0) hX (by decide) dX9_joyOf_41 ?_
          refine z_pure ?_
          refine z_sub [0, 1, 3] rfl ?_
          exact kj8 0
        · refine z_aload_n hX 0 rfl rfl dX9_joyOf_24 ?_
          refine z_iload_n hX 1 rfl rfl dX9_joyOf_25 ?_
          refine z_iload_n hX 3 rfl rfl dX9_joyOf_26 ?_
          refine z_asc ?_
          refine z_asc2 ?_
          refine z_cVIp 9 [.int v1, .int u1.2] hX (fun l hl o ho => c_X9_supports l hl M v0 v1 u1.2 o ho) dX9_joyOf_27 (by decide) rfl rfl q_1627 okV_X9_supports rfl ⟨(Nat.le_of_ble_eq_true rfl), (Nat.le_of_ble_eq_true rfl)⟩ rfl (Nat.le_of_ble_eq_true rfl) rfl rfl ⟨(Nat.le_of_ble_eq_true rfl), (Nat.le_of_ble_eq_true rfl)⟩ (fun o10 => ?_)
          refine z_iteB ?_
          refine z_if_eq hX 41 (by decide) dX9_joyOf_30 (fun _ => ?_) (fun _ => ?_)
          · refine z_iconst (v := 0) hX (by decide) dX9_joyOf_41 ?_
            refine z_pure ?_
            refine z_sub [0, 1, 3] rfl ?_
            exact kj8 0
          · refine z_aload_n hX 0 rfl rfl dX9_joyOf_33 ?_
            refine z_iload_n hX 3 rfl rfl dX9_joyOf_34 ?_
            refine z_asc ?_
            refine z_asc2 ?_
            refine z_cVIp 9 [.int u1.2] hX (fun l hl o ho => c_X9_worthOf l hl M v0 u1.2 o ho) dX9_joyOf_35 (by decide) rfl rfl q_1735 okV_X9_worthOf rfl ⟨(Nat.le_of_ble_eq_true rfl), (Nat.le_of_ble_eq_true rfl)⟩ rfl (Nat.le_of_ble_eq_true rfl) rfl rfl ⟨(Nat.le_of_ble_eq_true rfl), (Nat.le_of_ble_eq_true rfl)⟩ (fun o11 => ?_)
            refine z_goto hX 42 (by decide) dX9_joyOf_38 ?_
            refine z_pure ?_
            refine z_sub [0, 1, 3] rfl ?_
            exact kj8 o11
theorem c_X9_joyOf (l : Launch) (hl : l.stackTraces = false) (M : Mem) (v0 : Nat) (v1 : Int32) (o : Int32) (ho : f_X9_joyOf M v0 v1 = some o) : Ct l yX9_joyOf cX9_joyOf 4 (some .int) rm_X9_joyOf [.ref v0, .int v1] M (some (.int o)) M :=
  Ct.of hl (by decide +kernel) (Nat.le_of_ble_eq_true rfl) rfl (fun X hX hin => z_X9_joyOf hX M v0 v1 o ho)
theorem okV_X9_joyOf : okV yX9_joyOf cX9_joyOf 4 (some .int) 1 := ⟨q_1810, q_76, q_96, q_1811, by unfold okY; decide +kernel⟩
/-! ParticipatoryBudgetModel.satisfaction(II)I -/
abbrev rm_X9_satisfaction : Room := { frames := 8, cells := 0, slots := 0, locals := 186 }
set_option maxRecDepth 20000 in
set_option maxHeartbeats 4000000 in
theorem z_X9_satisfaction {X : Cxt} (hX : okX X cX9_satisfaction RX9 rm_X9_satisfaction (some .int) 3) (M : Mem) (v0 : Nat) (v1 : Int32) (v2 : Int32) : Zj X (fun o : Int32 × Mem => Qr X rm_X9_satisfaction.cells rm_X9_satisfaction.slots (some (.int o.1)) o.2) 0 0 0 [(0, .ref v0), (1, .int v1), (2, .int v2)] [] M (f_X9_satisfaction M v0 v1 v2) := by
  unfold f_X9_satisfaction
  refine z_aload_n hX 0 rfl rfl dX9_satisfaction_0 ?_
  refine z_aload_n hX 0 rfl rfl dX9_satisfaction_1 ?_
  refine z_iload_n hX 2 rfl rfl dX9_satisfaction_2 ?_
  refine z_cVIp 9 [.int v2] hX (fun l hl o ho => c_X9_isVoter l hl M v0 v2 o ho) dX9_satisfaction_3 (by decide) rfl rfl q_1607 okV_X9_isVoter rfl ⟨(Nat.le_of_ble_eq_true rfl), (Nat.le_of_ble_eq_true rfl)⟩ rfl (Nat.le_of_ble_eq_true rfl) rfl rfl ⟨(Nat.le_of_ble_eq_true rfl), (Nat.le_of_ble_eq_true rfl)⟩ (fun o1 => ?_)
  refine z_cVIm 9 [.int o1] hX (fun l hl o ho => c_X9_fails l hl M v0 o1 o ho) dX9_satisfaction_6 (by decide) rfl rfl q_1587 okV_X9_fails rfl ⟨(Nat.le_of_ble_eq_true rfl), (Nat.le_of_ble_eq_true rfl)⟩ rfl (Nat.le_of_ble_eq_true rfl) rfl rfl ⟨(Nat.le_of_ble_eq_true rfl), (Nat.le_of_ble_eq_true rfl)⟩ (fun o2 => ?_)
  refine z_if_eq hX 14 (by decide) dX9_satisfaction_9 (fun _ => ?_) (fun _ => ?_)
  · refine z_aload_n hX 0 rfl rfl dX9_satisfaction_14 ?_
    refine z_iload_n hX 1 rfl rfl dX9_satisfaction_15 ?_
    refine z_cVIm 9 [.int v1] hX (fun l hl o ho => c_X9_runs l hl o2.2 v0 v1 o ho) dX9_satisfaction_16 (by decide) rfl rfl q_1679 okV_X9_runs rfl ⟨(Nat.le_of_ble_eq_true rfl), (Nat.le_of_ble_eq_true rfl)⟩ rfl (Nat.le_of_ble_eq_true rfl) rfl rfl ⟨(Nat.le_of_ble_eq_true rfl), (Nat.le_of_ble_eq_true rfl)⟩ (fun o3 => ?_)
    refine z_jn (C' := 0) (S' := 0) 32 (fun (j4 : Int32) => []) (fun (j4 : Int32) => [.int j4]) (fun (j4 : Int32) => o3.2) (fun j4 => ?_) (fun kj4 => ?_)
    · exact z_iretM hX dX9_satisfaction_32 (Nat.le_of_ble_eq_true rfl) (Nat.le_of_ble_eq_true rfl)
    · refine z_iteB ?_
      refine z_if_eq hX 30 (by decide) dX9_satisfaction_19 (fun _ => ?_) (fun _ => ?_)
      · refine z_bipush (v := (-2)) hX (by decide) dX9_satisfaction_30 ?_
        refine z_pure ?_
        refine z_sub [] rfl ?_
        exact kj4 (-2)
      · refine z_aload_n hX 0 rfl rfl dX9_satisfaction_22 ?_
        refine z_iload_n hX 2 rfl rfl dX9_satisfaction_23 ?_
        refine z_asc ?_
        refine z_asc2 ?_
        refine z_cVIp 9 [.int v2] hX (fun l hl o ho => c_X9_joyOf l hl o3.2 v0 v2 o ho) dX9_satisfaction_24 (by decide) rfl rfl q_1808 okV_X9_joyOf rfl ⟨(Nat.le_of_ble_eq_true rfl), (Nat.le_of_ble_eq_true rfl)⟩ rfl (Nat.le_of_ble_eq_true rfl) rfl rfl ⟨(Nat.le_of_ble_eq_true rfl), (Nat.le_of_ble_eq_true rfl)⟩ (fun o5 => ?_)
        refine z_goto hX 32 (by decide) dX9_satisfaction_27 ?_
        refine z_pure ?_
        refine z_sub [] rfl ?_
        exact kj4 o5
  · refine z_iconst (v := 0) hX (by decide) dX9_satisfaction_12 ?_
    exact z_iretM hX dX9_satisfaction_13 (Nat.le_of_ble_eq_true rfl) (Nat.le_of_ble_eq_true rfl)
theorem c_X9_satisfaction (l : Launch) (hl : l.stackTraces = false) (M : Mem) (v0 : Nat) (v1 : Int32) (v2 : Int32) (o : Int32 × Mem) (ho : f_X9_satisfaction M v0 v1 v2 = some o) : Ct l yX9_satisfaction cX9_satisfaction 3 (some .int) rm_X9_satisfaction [.ref v0, .int v1, .int v2] M (some (.int o.1)) o.2 :=
  Ct.of hl (by decide +kernel) (Nat.le_of_ble_eq_true rfl) rfl (fun X hX hin => z_X9_satisfaction hX M v0 v1 v2 o ho)
theorem okV_X9_satisfaction : okV yX9_satisfaction cX9_satisfaction 3 (some .int) 2 := ⟨q_1805, q_1806, q_96, q_1807, by unfold okY; decide +kernel⟩
/-! ParticipatoryBudgetModel.worstOff(I)I -/
abbrev rm_X9_worstOff : Room := { frames := 8, cells := 0, slots := 0, locals := 186 }
set_option maxRecDepth 20000 in
set_option maxHeartbeats 4000000 in
theorem z_X9_worstOff {X : Cxt} (hX : okX X cX9_worstOff RX9 rm_X9_worstOff (some .int) 4) (M : Mem) (v0 : Nat) (v1 : Int32) : Zj X (fun o : Int32 × Mem => Qr X rm_X9_worstOff.cells rm_X9_worstOff.slots (some (.int o.1)) o.2) 0 0 0 [(0, .ref v0), (1, .int v1)] [] M (f_X9_worstOff M v0 v1) := by
  unfold f_X9_worstOff
  refine z_aload_n hX 0 rfl rfl dX9_worstOff_0 ?_
  refine z_iconst (v := 0) hX (by decide) dX9_worstOff_1 ?_
  refine z_pFI 9 4 hX (by decide) rfl (by decide) rfl q_1315 rfl pd_1 rfl rfl dX9_worstOff_2 (fun M1 => ?_)
  refine z_aload_n hX 0 rfl rfl dX9_worstOff_5 ?_
  refine z_iload_n hX 1 rfl rfl dX9_worstOff_6 ?_
  refine z_cVIm 9 [.int v1] hX (fun l hl o ho => c_X9_runs l hl M1 v0 v1 o ho) dX9_worstOff_7 (by decide) rfl rfl q_1679 okV_X9_runs rfl ⟨(Nat.le_of_ble_eq_true rfl), (Nat.le_of_ble_eq_true rfl)⟩ rfl (Nat.le_of_ble_eq_true rfl) rfl rfl ⟨(Nat.le_of_ble_eq_true rfl), (Nat.le_of_ble_eq_true rfl)⟩ (fun o2 => ?_)
  refine z_if_ne hX 16 (by decide) dX9_worstOff_10 (fun _ => ?_) (fun _ => ?_)
  · refine z_iconst (v := (-1)) hX (by decide) dX9_worstOff_16 ?_
    refine z_ltI (fun x3 => ?_)
    refine z_istore_n hX [(2, .int x3), (0, .ref v0), (1, .int v1)] rfl (by decide) rfl dX9_worstOff_17 ?_
    refine z_iconst (v := 0) hX (by decide) dX9_worstOff_18 ?_
    refine z_istore_n hX [(3, .int 0), (2, .int x3), (0, .ref v0), (1, .int v1)] rfl (by decide) rfl dX9_worstOff_19 ?_
    refine z_sub [2, 1, 0] rfl ?_
    refine z_lp (x0 := (x3, 0)) (bd_X9_worstOff_20 v0 o2) 20 53 (fun (u4 : Int32 × Int32) => [(0, .ref v0), (2, .int u4.1), (3, .int u4.2)]) (fun (e5 : Int32 × Int32) => [(2, .int e5.1)]) (fun (u4 : Int32 × Int32) => o2.2) ?_ ?_
    · intro e5
      refine z_iload_n hX 0 rfl rfl dX9_worstOff_53 ?_
      exact z_iretM hX dX9_worstOff_54 (Nat.le_of_ble_eq_true rfl) (Nat.le_of_ble_eq_true rfl)
    · intro kk6 rc7 hkk6 hrc7 u4
      unfold bd_X9_worstOff_20
      refine z_iload_n hX 2 rfl rfl dX9_worstOff_20 ?_
      refine z_aload_n hX 0 rfl rfl dX9_worstOff_21 ?_
      refine z_gFI 9 7 hX (by decide) rfl (by decide) rfl q_1318 dX9_worstOff_22 (fun x8 => ?_)
      refine z_icmp_ge hX 53 (by decide) dX9_worstOff_25 (fun _ => ?_) (fun _ => ?_)
      · refine z_sub [1] rfl ?_
        exact hkk6 (u4.1, u4.2)
      · refine z_iload_n hX 1 rfl rfl dX9_worstOff_28 ?_
        refine z_jn (C' := 0) (S' := 0) 47 (fun (j9 : Int32) => [(0, .ref v0), (2, .int j9), (3, .int u4.2)]) (fun (j9 : Int32) => []) (fun (j9 : Int32) => o2.2) (fun j9 => ?_) (fun kj9 => ?_)
        · refine z_iinc hX 2 [(3, .int (u4.2 + 1)), (0, .ref v0), (2, .int j9)] rfl rfl (by decide) rfl dX9_worstOff_47 ?_
          refine z_goto hX 20 (by decide) dX9_worstOff_50 ?_
          refine z_sub [1, 2, 0] rfl ?_
          exact hrc7 (j9, u4.2 + 1)
        · refine z_iteB ?_
          refine z_if_lt hX 45 (by decide) dX9_worstOff_29 (fun _ => ?_) (fun _ => ?_)
          · refine z_iload_n hX 2 rfl rfl dX9_worstOff_45 ?_
            refine z_istore_n hX [(2, .int u4.2), (0, .ref v0), (3, .int u4.2)] rfl (by decide) rfl dX9_worstOff_46 ?_
            refine z_pure ?_
            refine z_sub [1, 0, 2] rfl ?_
            exact kj9 u4.2
          · refine z_aload_n hX 0 rfl rfl dX9_worstOff_32 ?_
            refine z_iload_n hX 2 rfl rfl dX9_worstOff_33 ?_
            refine z_asc ?_
            refine z_asc2 ?_
            refine z_cVIp 9 [.int u4.2] hX (fun l hl o ho => c_X9_joyOf l hl o2.2 v0 u4.2 o ho) dX9_worstOff_34 (by decide) rfl rfl q_1808 okV_X9_joyOf rfl ⟨(Nat.le_of_ble_eq_true rfl), (Nat.le_of_ble_eq_true rfl)⟩ rfl (Nat.le_of_ble_eq_true rfl) rfl rfl ⟨(Nat.le_of_ble_eq_true rfl), (Nat.le_of_ble_eq_true rfl)⟩ (fun o10 => ?_)
            refine z_aload_n hX 0 rfl rfl dX9_worstOff_37 ?_
            refine z_iload_n hX 1 rfl rfl dX9_worstOff_38 ?_
            refine z_asc ?_
            refine z_asc2 ?_
            refine z_cVIp 9 [.int u4.1] hX (fun l hl o ho => c_X9_joyOf l hl o2.2 v0 u4.1 o ho) dX9_worstOff_39 (by decide) rfl rfl q_1808 okV_X9_joyOf rfl ⟨(Nat.le_of_ble_eq_true rfl), (Nat.le_of_ble_eq_true rfl)⟩ rfl (Nat.le_of_ble_eq_true rfl) rfl rfl ⟨(Nat.le_of_ble_eq_true rfl), (Nat.le_of_ble_eq_true rfl)⟩ (fun o11 => ?_)
            refine z_iteB ?_
            refine z_icmp_ge hX 47 (by decide) dX9_worstOff_42 (fun _ => ?_) (fun _ => ?_)
            · refine z_pure ?_
              refine z_sub [0, 1, 2] rfl ?_
              exact kj9 u4.1
            · refine z_iload_n hX 2 rfl rfl dX9_worstOff_45 ?_
              refine z_istore_n hX [(2, .int u4.2), (0, .ref v0), (3, .int u4.2)] rfl (by decide) rfl dX9_worstOff_46 ?_
              refine z_pure ?_
              refine z_sub [1, 0, 2] rfl ?_
              exact kj9 u4.2
  · refine z_bipush (v := (-2)) hX (by decide) dX9_worstOff_13 ?_
    exact z_iretM hX dX9_worstOff_15 (Nat.le_of_ble_eq_true rfl) (Nat.le_of_ble_eq_true rfl)
theorem c_X9_worstOff (l : Launch) (hl : l.stackTraces = false) (M : Mem) (v0 : Nat) (v1 : Int32) (o : Int32 × Mem) (ho : f_X9_worstOff M v0 v1 = some o) : Ct l yX9_worstOff cX9_worstOff 4 (some .int) rm_X9_worstOff [.ref v0, .int v1] M (some (.int o.1)) o.2 :=
  Ct.of hl (by decide +kernel) (Nat.le_of_ble_eq_true rfl) rfl (fun X hX hin => z_X9_worstOff hX M v0 v1 o ho)
theorem okV_X9_worstOff : okV yX9_worstOff cX9_worstOff 4 (some .int) 1 := ⟨q_1813, q_1814, q_96, q_1815, by unfold okY; decide +kernel⟩
/-! ParticipatoryBudgetModel.isLeftOut(I)Z -/
abbrev rm_X9_isLeftOut : Room := { frames := 2, cells := 0, slots := 0, locals := 43 }
set_option maxRecDepth 20000 in
set_option maxHeartbeats 4000000 in
theorem z_X9_isLeftOut {X : Cxt} (hX : okX X cX9_isLeftOut RX9 rm_X9_isLeftOut (some .boolean) 3) (M : Mem) (v0 : Nat) (v1 : Int32) : Zj X (fun o : Int32 => Qr X rm_X9_isLeftOut.cells rm_X9_isLeftOut.slots (some (.int o)) M) 0 0 0 [(0, .ref v0), (1, .int v1)] [] M (f_X9_isLeftOut M v0 v1) := by
  unfold f_X9_isLeftOut
  refine z_iconst (v := 0) hX (by decide) dX9_isLeftOut_0 ?_
  refine z_istore_n hX [(2, .int 0), (0, .ref v0), (1, .int v1)] rfl (by decide) rfl dX9_isLeftOut_1 ?_
  refine z_sub [1, 2, 0] rfl ?_
  refine z_lp (x0 := 0) (bd_X9_isLeftOut_2 M v0 v1) 2 38 (fun (u1 : Int32) => [(0, .ref v0), (1, .int v1), (2, .int u1)]) (fun (e2 : Int32) => []) (fun (u1 : Int32) => M) ?_ ?_
  · intro e2
    refine z_iconst (v := 1) hX (by decide) dX9_isLeftOut_38 ?_
    exact z_zretP hX dX9_isLeftOut_39 (Nat.le_of_ble_eq_true rfl) (Nat.le_of_ble_eq_true rfl)
  · intro kk3 rc4 hkk3 hrc4 u1
    unfold bd_X9_isLeftOut_2
    refine z_iload_n hX 2 rfl rfl dX9_isLeftOut_2 ?_
    refine z_aload_n hX 0 rfl rfl dX9_isLeftOut_3 ?_
    refine z_gFI 9 6 hX (by decide) rfl (by decide) rfl q_1317 dX9_isLeftOut_4 (fun x5 => ?_)
    refine z_icmp_ge hX 38 (by decide) dX9_isLeftOut_7 (fun _ => ?_) (fun _ => ?_)
    · refine z_sub [] rfl ?_
      exact hkk3 u1
    · refine z_aload_n hX 0 rfl rfl dX9_isLeftOut_10 ?_
      refine z_gFI 9 30 hX (by decide) rfl (by decide) rfl q_1341 dX9_isLeftOut_11 (fun x6 => ?_)
      refine z_iload_n hX 2 rfl rfl dX9_isLeftOut_14 ?_
      refine z_cSIp [.int x6, .int u1] hX (fun l hl o ho => c_X9_has l hl M x6 u1 o ho) dX9_isLeftOut_15 q_1537 okS_X9_has rfl ⟨(Nat.le_of_ble_eq_true rfl), (Nat.le_of_ble_eq_true rfl)⟩ rfl (Nat.le_of_ble_eq_true rfl) rfl rfl ⟨(Nat.le_of_ble_eq_true rfl), (Nat.le_of_ble_eq_true rfl)⟩ (fun o7 => ?_)
      refine z_if_eq hX 32 (by decide) dX9_isLeftOut_18 (fun _ => ?_) (fun _ => ?_)
      · refine z_iinc hX 2 [(2, .int (u1 + 1)), (0, .ref v0), (1, .int v1)] rfl rfl (by decide) rfl dX9_isLeftOut_32 ?_
        refine z_goto hX 2 (by decide) dX9_isLeftOut_35 ?_
        refine z_sub [1, 2, 0] rfl ?_
        exact hrc4 (u1 + 1)
      · refine z_aload_n hX 0 rfl rfl dX9_isLeftOut_21 ?_
        refine z_iload_n hX 1 rfl rfl dX9_isLeftOut_22 ?_
        refine z_iload_n hX 2 rfl rfl dX9_isLeftOut_23 ?_
        refine z_cVIp 9 [.int v1, .int u1] hX (fun l hl o ho => c_X9_supports l hl M v0 v1 u1 o ho) dX9_isLeftOut_24 (by decide) rfl rfl q_1627 okV_X9_supports rfl ⟨(Nat.le_of_ble_eq_true rfl), (Nat.le_of_ble_eq_true rfl)⟩ rfl (Nat.le_of_ble_eq_true rfl) rfl rfl ⟨(Nat.le_of_ble_eq_true rfl), (Nat.le_of_ble_eq_true rfl)⟩ (fun o8 => ?_)
        refine z_if_eq hX 32 (by decide) dX9_isLeftOut_27 (fun _ => ?_) (fun _ => ?_)
        · refine z_iinc hX 2 [(2, .int (u1 + 1)), (0, .ref v0), (1, .int v1)] rfl rfl (by decide) rfl dX9_isLeftOut_32 ?_
          refine z_goto hX 2 (by decide) dX9_isLeftOut_35 ?_
          refine z_sub [1, 2, 0] rfl ?_
          exact hrc4 (u1 + 1)
        · refine z_iconst (v := 0) hX (by decide) dX9_isLeftOut_30 ?_
          exact z_zretP hX dX9_isLeftOut_31 (Nat.le_of_ble_eq_true rfl) (Nat.le_of_ble_eq_true rfl)
theorem c_X9_isLeftOut (l : Launch) (hl : l.stackTraces = false) (M : Mem) (v0 : Nat) (v1 : Int32) (o : Int32) (ho : f_X9_isLeftOut M v0 v1 = some o) : Ct l yX9_isLeftOut cX9_isLeftOut 3 (some .boolean) rm_X9_isLeftOut [.ref v0, .int v1] M (some (.int o)) M :=
  Ct.of hl (by decide +kernel) (Nat.le_of_ble_eq_true rfl) rfl (fun X hX hin => z_X9_isLeftOut hX M v0 v1 o ho)
theorem okV_X9_isLeftOut : okV yX9_isLeftOut cX9_isLeftOut 3 (some .boolean) 1 := ⟨q_1822, q_77, q_96, q_1823, by unfold okY; decide +kernel⟩
/-! ParticipatoryBudgetModel.leftOut(I)I -/
abbrev rm_X9_leftOut : Room := { frames := 8, cells := 0, slots := 0, locals := 186 }
set_option maxRecDepth 20000 in
set_option maxHeartbeats 4000000 in
theorem z_X9_leftOut {X : Cxt} (hX : okX X cX9_leftOut RX9 rm_X9_leftOut (some .int) 4) (M : Mem) (v0 : Nat) (v1 : Int32) : Zj X (fun o : Int32 × Mem => Qr X rm_X9_leftOut.cells rm_X9_leftOut.slots (some (.int o.1)) o.2) 0 0 0 [(0, .ref v0), (1, .int v1)] [] M (f_X9_leftOut M v0 v1) := by
  unfold f_X9_leftOut
  refine z_aload_n hX 0 rfl rfl dX9_leftOut_0 ?_
  refine z_iconst (v := 0) hX (by decide) dX9_leftOut_1 ?_
  refine z_pFI 9 4 hX (by decide) rfl (by decide) rfl q_1315 rfl pd_1 rfl rfl dX9_leftOut_2 (fun M1 => ?_)
  refine z_aload_n hX 0 rfl rfl dX9_leftOut_5 ?_
  refine z_iload_n hX 1 rfl rfl dX9_leftOut_6 ?_
  refine z_cVIm 9 [.int v1] hX (fun l hl o ho => c_X9_runs l hl M1 v0 v1 o ho) dX9_leftOut_7 (by decide) rfl rfl q_1679 okV_X9_runs rfl ⟨(Nat.le_of_ble_eq_true rfl), (Nat.le_of_ble_eq_true rfl)⟩ rfl (Nat.le_of_ble_eq_true rfl) rfl rfl ⟨(Nat.le_of_ble_eq_true rfl), (Nat.le_of_ble_eq_true rfl)⟩ (fun o2 => ?_)
  refine z_if_ne hX 16 (by decide) dX9_leftOut_10 (fun _ => ?_) (fun _ => ?_)
  · refine z_iconst (v := 0) hX (by decide) dX9_leftOut_16 ?_
    refine z_istore_n hX [(2, .int 0), (0, .ref v0), (1, .int v1)] rfl (by decide) rfl dX9_leftOut_17 ?_
    refine z_iconst (v := 0) hX (by decide) dX9_leftOut_18 ?_
    refine z_istore_n hX [(3, .int 0), (2, .int 0), (0, .ref v0), (1, .int v1)] rfl (by decide) rfl dX9_leftOut_19 ?_
    refine z_sub [2, 1, 0] rfl ?_
    refine z_lp (x0 := (0, 0)) (bd_X9_leftOut_20 v0 o2) 20 52 (fun (u3 : Int32 × Int32) => [(0, .ref v0), (2, .int u3.1), (3, .int u3.2)]) (fun (e4 : Int32 × Int32) => [(2, .int e4.1)]) (fun (u3 : Int32 × Int32) => o2.2) ?_ ?_
    · intro e4
      refine z_iload_n hX 0 rfl rfl dX9_leftOut_52 ?_
      exact z_iretM hX dX9_leftOut_53 (Nat.le_of_ble_eq_true rfl) (Nat.le_of_ble_eq_true rfl)
    · intro kk5 rc6 hkk5 hrc6 u3
      unfold bd_X9_leftOut_20
      refine z_iload_n hX 2 rfl rfl dX9_leftOut_20 ?_
      refine z_aload_n hX 0 rfl rfl dX9_leftOut_21 ?_
      refine z_gFI 9 7 hX (by decide) rfl (by decide) rfl q_1318 dX9_leftOut_22 (fun x7 => ?_)
      refine z_icmp_ge hX 52 (by decide) dX9_leftOut_25 (fun _ => ?_) (fun _ => ?_)
      · refine z_sub [1] rfl ?_
        exact hkk5 (u3.1, u3.2)
      · refine z_iload_n hX 1 rfl rfl dX9_leftOut_28 ?_
        refine z_aload_n hX 0 rfl rfl dX9_leftOut_29 ?_
        refine z_iload_n hX 2 rfl rfl dX9_leftOut_30 ?_
        refine z_cVIp 9 [.int u3.2] hX (fun l hl o ho => c_X9_isLeftOut l hl o2.2 v0 u3.2 o ho) dX9_leftOut_31 (by decide) rfl rfl q_1820 okV_X9_isLeftOut rfl ⟨(Nat.le_of_ble_eq_true rfl), (Nat.le_of_ble_eq_true rfl)⟩ rfl (Nat.le_of_ble_eq_true rfl) rfl rfl ⟨(Nat.le_of_ble_eq_true rfl), (Nat.le_of_ble_eq_true rfl)⟩ (fun o8 => ?_)
        refine z_jn (C' := 0) (S' := 0) 44 (fun (j9 : Int32) => [(0, .ref v0), (3, .int u3.2)]) (fun (j9 : Int32) => [.int j9, .int u3.1]) (fun (j9 : Int32) => o2.2) (fun j9 => ?_) (fun kj9 => ?_)
        · refine z_ior hX dX9_leftOut_44 ?_
          refine z_ltI (fun x10 => ?_)
          refine z_istore_n hX [(2, .int x10), (0, .ref v0), (3, .int u3.2)] rfl (by decide) rfl dX9_leftOut_45 ?_
          refine z_iinc hX 2 [(3, .int (u3.2 + 1)), (2, .int x10), (0, .ref v0)] rfl rfl (by decide) rfl dX9_leftOut_46 ?_
          refine z_goto hX 20 (by decide) dX9_leftOut_49 ?_
          refine z_sub [2, 1, 0] rfl ?_
          exact hrc6 (x10, u3.2 + 1)
        · refine z_iteB ?_
          refine z_if_eq hX 43 (by decide) dX9_leftOut_34 (fun _ => ?_) (fun _ => ?_)
          · refine z_iconst (v := 0) hX (by decide) dX9_leftOut_43 ?_
            refine z_pure ?_
            refine z_sub [0, 2] rfl ?_
            exact kj9 0
          · refine z_iconst (v := 1) hX (by decide) dX9_leftOut_37 ?_
            refine z_iload_n hX 2 rfl rfl dX9_leftOut_38 ?_
            refine z_ishl hX dX9_leftOut_39 ?_
            refine z_goto hX 44 (by decide) dX9_leftOut_40 ?_
            refine z_pure ?_
            refine z_sub [0, 2] rfl ?_
            exact kj9 ((1 : Int32) <<< (u3.2 &&& 31))
  · refine z_bipush (v := (-2)) hX (by decide) dX9_leftOut_13 ?_
    exact z_iretM hX dX9_leftOut_15 (Nat.le_of_ble_eq_true rfl) (Nat.le_of_ble_eq_true rfl)
theorem c_X9_leftOut (l : Launch) (hl : l.stackTraces = false) (M : Mem) (v0 : Nat) (v1 : Int32) (o : Int32 × Mem) (ho : f_X9_leftOut M v0 v1 = some o) : Ct l yX9_leftOut cX9_leftOut 4 (some .int) rm_X9_leftOut [.ref v0, .int v1] M (some (.int o.1)) o.2 :=
  Ct.of hl (by decide +kernel) (Nat.le_of_ble_eq_true rfl) rfl (fun X hX hin => z_X9_leftOut hX M v0 v1 o ho)
theorem okV_X9_leftOut : okV yX9_leftOut cX9_leftOut 4 (some .int) 1 := ⟨q_1817, q_1818, q_96, q_1819, by unfold okY; decide +kernel⟩
/-! ParticipatoryBudgetModel.claimNow(I)I -/
abbrev rm_X9_claimNow : Room := { frames := 3, cells := 0, slots := 0, locals := 65 }
set_option maxRecDepth 20000 in
set_option maxHeartbeats 4000000 in
theorem z_X9_claimNow {X : Cxt} (hX : okX X cX9_claimNow RX9 rm_X9_claimNow (some .int) 5) (M : Mem) (v0 : Nat) (v1 : Int32) : Zj X (fun o : Int32 => Qr X rm_X9_claimNow.cells rm_X9_claimNow.slots (some (.int o)) M) 0 0 0 [(0, .ref v0), (1, .int v1)] [] M (f_X9_claimNow M v0 v1) := by
  unfold f_X9_claimNow
  refine z_iconst (v := 0) hX (by decide) dX9_claimNow_0 ?_
  refine z_istore_n hX [(2, .int 0), (0, .ref v0), (1, .int v1)] rfl (by decide) rfl dX9_claimNow_1 ?_
  refine z_iconst (v := 0) hX (by decide) dX9_claimNow_2 ?_
  refine z_istore_n hX [(3, .int 0), (2, .int 0), (0, .ref v0), (1, .int v1)] rfl (by decide) rfl dX9_claimNow_3 ?_
  refine z_sub [2, 3, 1, 0] rfl ?_
  refine z_lp (x0 := (0, 0)) (bd_X9_claimNow_4 M v0 v1) 4 84 (fun (u1 : Int32 × Int32) => [(0, .ref v0), (1, .int v1), (2, .int u1.1), (3, .int u1.2)]) (fun (e2 : Int32 × Int32) => [(2, .int e2.1)]) (fun (u1 : Int32 × Int32) => M) ?_ ?_
  · intro e2
    refine z_iload_n hX 0 rfl rfl dX9_claimNow_84 ?_
    exact z_iretP hX dX9_claimNow_85 (Nat.le_of_ble_eq_true rfl) (Nat.le_of_ble_eq_true rfl)
  · intro kk3 rc4 hkk3 hrc4 u1
    unfold bd_X9_claimNow_4
    refine z_iload_n hX 3 rfl rfl dX9_claimNow_4 ?_
    refine z_aload_n hX 0 rfl rfl dX9_claimNow_5 ?_
    refine z_gFI 9 7 hX (by decide) rfl (by decide) rfl q_1318 dX9_claimNow_6 (fun x5 => ?_)
    refine z_icmp_ge hX 84 (by decide) dX9_claimNow_9 (fun _ => ?_) (fun _ => ?_)
    · refine z_sub [2] rfl ?_
      exact hkk3 (u1.1, u1.2)
    · refine z_aload_n hX 0 rfl rfl dX9_claimNow_12 ?_
      refine z_iload_n hX 3 rfl rfl dX9_claimNow_13 ?_
      refine z_iload_n hX 1 rfl rfl dX9_claimNow_14 ?_
      refine z_cVIp 9 [.int u1.2, .int v1] hX (fun l hl o ho => c_X9_supports l hl M v0 u1.2 v1 o ho) dX9_claimNow_15 (by decide) rfl rfl q_1627 okV_X9_supports rfl ⟨(Nat.le_of_ble_eq_true rfl), (Nat.le_of_ble_eq_true rfl)⟩ rfl (Nat.le_of_ble_eq_true rfl) rfl rfl ⟨(Nat.le_of_ble_eq_true rfl), (Nat.le_of_ble_eq_true rfl)⟩ (fun o6 => ?_)
      refine z_jn (C' := 0) (S' := 0) 78 (fun (j7 : Int32) => [(0, .ref v0), (1, .int v1), (2, .int j7), (3, .int u1.2)]) (fun (j7 : Int32) => []) (fun (j7 : Int32) => M) (fun j7 => ?_) (fun kj7 => ?_)
      · refine z_iinc hX 3 [(3, .int (u1.2 + 1)), (0, .ref v0), (1, .int v1), (2, .int j7)] rfl rfl (by decide) rfl dX9_claimNow_78 ?_
        refine z_goto hX 4 (by decide) dX9_claimNow_81 ?_
        refine z_sub [1, 2, 3, 0] rfl ?_
        exact hrc4 (j7, u1.2 + 1)
      · refine z_iteB ?_
        refine z_if_eq hX 78 (by decide) dX9_claimNow_18 (fun _ => ?_) (fun _ => ?_)
        · refine z_pure ?_
          refine z_sub [0, 1, 2, 3] rfl ?_
          exact kj7 u1.1
        · refine z_aload_n hX 0 rfl rfl dX9_claimNow_21 ?_
          refine z_iload_n hX 3 rfl rfl dX9_claimNow_22 ?_
          refine z_asc ?_
          refine z_asc2 ?_
          refine z_cVIp 9 [.int u1.2] hX (fun l hl o ho => c_X9_isLeftOut l hl M v0 u1.2 o ho) dX9_claimNow_23 (by decide) rfl rfl q_1820 okV_X9_isLeftOut rfl ⟨(Nat.le_of_ble_eq_true rfl), (Nat.le_of_ble_eq_true rfl)⟩ rfl (Nat.le_of_ble_eq_true rfl) rfl rfl ⟨(Nat.le_of_ble_eq_true rfl), (Nat.le_of_ble_eq_true rfl)⟩ (fun o8 => ?_)
          refine z_iteB ?_
          refine z_if_ne hX 32 (by decide) dX9_claimNow_26 (fun _ => ?_) (fun _ => ?_)
          · refine z_iconst (v := 0) hX (by decide) dX9_claimNow_32 ?_
            refine z_istore hX [(4, .int 0), (0, .ref v0), (1, .int v1), (2, .int u1.1), (3, .int u1.2)] (by decide) rfl dX9_claimNow_33 ?_
            refine z_sub [1, 2, 3, 4, 0] rfl ?_
            refine z_lpB (x0 := (u1.1, 0)) (bd_X9_claimNow_35 M v0 v1 u1) 35 78 (fun (u9 : Int32 × Int32) => [(0, .ref v0), (1, .int v1), (2, .int u9.1), (3, .int u1.2), (4, .int u9.2)]) (fun (e10 : Int32 × Int32) => [(0, .ref v0), (1, .int v1), (2, .int e10.1), (3, .int u1.2)]) (fun (u9 : Int32 × Int32) => M) ?_ ?_
            · intro e10
              refine z_pure ?_
              refine z_sub [0, 1, 2, 3] rfl ?_
              exact kj7 e10.1
            · intro kk11 rc12 hkk11 hrc12 u9
              unfold bd_X9_claimNow_35
              refine z_iload hX 4 rfl dX9_claimNow_35 ?_
              refine z_aload_n hX 0 rfl rfl dX9_claimNow_37 ?_
              refine z_asc ?_
              refine z_gFI 9 5 hX (by decide) rfl (by decide) rfl q_1316 dX9_claimNow_38 (fun x13 => ?_)
              refine z_iteB ?_
              refine z_icmp_ge hX 78 (by decide) dX9_claimNow_41 (fun _ => ?_) (fun _ => ?_)
              · refine z_sub [0, 1, 2, 3] rfl ?_
                exact hkk11 (u9.1, u9.2)
              · refine z_iload_n hX 2 rfl rfl dX9_claimNow_44 ?_
                refine z_aload_n hX 0 rfl rfl dX9_claimNow_45 ?_
                refine z_asc ?_
                refine z_gFR 9 10 hX (by decide) rfl (by decide) rfl q_1321 dX9_claimNow_46 (fun r14 => ?_)
                refine z_iload_n hX 1 rfl rfl dX9_claimNow_49 ?_
                refine z_asc ?_
                refine z_aI hX dX9_claimNow_50 (fun x15 => ?_)
                refine z_iload hX 4 rfl dX9_claimNow_51 ?_
                refine z_asc ?_
                refine z_cSIp [.int x15, .int u9.2] hX (fun l hl o ho => c_X9_has l hl M x15 u9.2 o ho) dX9_claimNow_53 q_1537 okS_X9_has rfl ⟨(Nat.le_of_ble_eq_true rfl), (Nat.le_of_ble_eq_true rfl)⟩ rfl (Nat.le_of_ble_eq_true rfl) rfl rfl ⟨(Nat.le_of_ble_eq_true rfl), (Nat.le_of_ble_eq_true rfl)⟩ (fun o16 => ?_)
                refine z_asc ?_
                refine z_jn (C' := 0) (S' := 0) 70 (fun (j17 : Int32) => [(0, .ref v0), (1, .int v1), (3, .int u1.2), (4, .int u9.2)]) (fun (j17 : Int32) => [.int j17, .int u9.1]) (fun (j17 : Int32) => M) (fun j17 => ?_) (fun kj17 => ?_)
                · refine z_iadd hX dX9_claimNow_70 ?_
                  refine z_ltB ?_
                  refine z_ltI (fun x18 => ?_)
                  refine z_istore_n hX [(2, .int x18), (0, .ref v0), (1, .int v1), (3, .int u1.2), (4, .int u9.2)] rfl (by decide) rfl dX9_claimNow_71 ?_
                  refine z_iinc hX 4 [(4, .int (u9.2 + 1)), (2, .int x18), (0, .ref v0), (1, .int v1), (3, .int u1.2)] rfl rfl (by decide) rfl dX9_claimNow_72 ?_
                  refine z_goto hX 35 (by decide) dX9_claimNow_75 ?_
                  refine z_sub [2, 3, 1, 4, 0] rfl ?_
                  exact hrc12 (x18, u9.2 + 1)
                · refine z_iteB ?_
                  refine z_if_eq hX 69 (by decide) dX9_claimNow_56 (fun _ => ?_) (fun _ => ?_)
                  · refine z_iconst (v := 0) hX (by decide) dX9_claimNow_69 ?_
                    refine z_pure ?_
                    refine z_sub [0, 1, 3, 4] rfl ?_
                    exact kj17 0
                  · refine z_aload_n hX 0 rfl rfl dX9_claimNow_59 ?_
                    refine z_iload_n hX 3 rfl rfl dX9_claimNow_60 ?_
                    refine z_iload hX 4 rfl dX9_claimNow_61 ?_
                    refine z_asc ?_
                    refine z_asc2 ?_
                    refine z_cVIp 9 [.int u1.2, .int u9.2] hX (fun l hl o ho => c_X9_firstHolding l hl M v0 u1.2 u9.2 o ho) dX9_claimNow_63 (by decide) rfl rfl q_1643 okV_X9_firstHolding rfl ⟨(Nat.le_of_ble_eq_true rfl), (Nat.le_of_ble_eq_true rfl)⟩ rfl (Nat.le_of_ble_eq_true rfl) rfl rfl ⟨(Nat.le_of_ble_eq_true rfl), (Nat.le_of_ble_eq_true rfl)⟩ (fun o19 => ?_)
                    refine z_goto hX 70 (by decide) dX9_claimNow_66 ?_
                    refine z_pure ?_
                    refine z_sub [0, 1, 3, 4] rfl ?_
                    exact kj17 o19
          · refine z_goto hX 78 (by decide) dX9_claimNow_29 ?_
            refine z_pure ?_
            refine z_sub [0, 1, 2, 3] rfl ?_
            exact kj7 u1.1
theorem c_X9_claimNow (l : Launch) (hl : l.stackTraces = false) (M : Mem) (v0 : Nat) (v1 : Int32) (o : Int32) (ho : f_X9_claimNow M v0 v1 = some o) : Ct l yX9_claimNow cX9_claimNow 5 (some .int) rm_X9_claimNow [.ref v0, .int v1] M (some (.int o)) M :=
  Ct.of hl (by decide +kernel) (Nat.le_of_ble_eq_true rfl) rfl (fun X hX hin => z_X9_claimNow hX M v0 v1 o ho)
theorem okV_X9_claimNow : okV yX9_claimNow cX9_claimNow 5 (some .int) 1 := ⟨q_1830, q_78, q_96, q_1831, by unfold okY; decide +kernel⟩
/-! ParticipatoryBudgetModel.claimOf(II)I -/
abbrev rm_X9_claimOf : Room := { frames := 8, cells := 0, slots := 0, locals := 186 }
set_option maxRecDepth 20000 in
set_option maxHeartbeats 4000000 in
theorem z_X9_claimOf {X : Cxt} (hX : okX X cX9_claimOf RX9 rm_X9_claimOf (some .int) 3) (M : Mem) (v0 : Nat) (v1 : Int32) (v2 : Int32) : Zj X (fun o : Int32 × Mem => Qr X rm_X9_claimOf.cells rm_X9_claimOf.slots (some (.int o.1)) o.2) 0 0 0 [(0, .ref v0), (1, .int v1), (2, .int v2)] [] M (f_X9_claimOf M v0 v1 v2) := by
  unfold f_X9_claimOf
  refine z_aload_n hX 0 rfl rfl dX9_claimOf_0 ?_
  refine z_aload_n hX 0 rfl rfl dX9_claimOf_1 ?_
  refine z_iload_n hX 2 rfl rfl dX9_claimOf_2 ?_
  refine z_cVIp 9 [.int v2] hX (fun l hl o ho => c_X9_isProject l hl M v0 v2 o ho) dX9_claimOf_3 (by decide) rfl rfl q_1595 okV_X9_isProject rfl ⟨(Nat.le_of_ble_eq_true rfl), (Nat.le_of_ble_eq_true rfl)⟩ rfl (Nat.le_of_ble_eq_true rfl) rfl rfl ⟨(Nat.le_of_ble_eq_true rfl), (Nat.le_of_ble_eq_true rfl)⟩ (fun o1 => ?_)
  refine z_cVIm 9 [.int o1] hX (fun l hl o ho => c_X9_fails l hl M v0 o1 o ho) dX9_claimOf_6 (by decide) rfl rfl q_1587 okV_X9_fails rfl ⟨(Nat.le_of_ble_eq_true rfl), (Nat.le_of_ble_eq_true rfl)⟩ rfl (Nat.le_of_ble_eq_true rfl) rfl rfl ⟨(Nat.le_of_ble_eq_true rfl), (Nat.le_of_ble_eq_true rfl)⟩ (fun o2 => ?_)
  refine z_if_eq hX 14 (by decide) dX9_claimOf_9 (fun _ => ?_) (fun _ => ?_)
  · refine z_aload_n hX 0 rfl rfl dX9_claimOf_14 ?_
    refine z_iload_n hX 1 rfl rfl dX9_claimOf_15 ?_
    refine z_cVIm 9 [.int v1] hX (fun l hl o ho => c_X9_runs l hl o2.2 v0 v1 o ho) dX9_claimOf_16 (by decide) rfl rfl q_1679 okV_X9_runs rfl ⟨(Nat.le_of_ble_eq_true rfl), (Nat.le_of_ble_eq_true rfl)⟩ rfl (Nat.le_of_ble_eq_true rfl) rfl rfl ⟨(Nat.le_of_ble_eq_true rfl), (Nat.le_of_ble_eq_true rfl)⟩ (fun o3 => ?_)
    refine z_jn (C' := 0) (S' := 0) 32 (fun (j4 : Int32) => []) (fun (j4 : Int32) => [.int j4]) (fun (j4 : Int32) => o3.2) (fun j4 => ?_) (fun kj4 => ?_)
    · exact z_iretM hX dX9_claimOf_32 (Nat.le_of_ble_eq_true rfl) (Nat.le_of_ble_eq_true rfl)
    · refine z_iteB ?_
      refine z_if_eq hX 30 (by decide) dX9_claimOf_19 (fun _ => ?_) (fun _ => ?_)
      · refine z_bipush (v := (-2)) hX (by decide) dX9_claimOf_30 ?_
        refine z_pure ?_
        refine z_sub [] rfl ?_
        exact kj4 (-2)
      · refine z_aload_n hX 0 rfl rfl dX9_claimOf_22 ?_
        refine z_iload_n hX 2 rfl rfl dX9_claimOf_23 ?_
        refine z_asc ?_
        refine z_asc2 ?_
        refine z_cVIp 9 [.int v2] hX (fun l hl o ho => c_X9_claimNow l hl o3.2 v0 v2 o ho) dX9_claimOf_24 (by decide) rfl rfl q_1828 okV_X9_claimNow rfl ⟨(Nat.le_of_ble_eq_true rfl), (Nat.le_of_ble_eq_true rfl)⟩ rfl (Nat.le_of_ble_eq_true rfl) rfl rfl ⟨(Nat.le_of_ble_eq_true rfl), (Nat.le_of_ble_eq_true rfl)⟩ (fun o5 => ?_)
        refine z_goto hX 32 (by decide) dX9_claimOf_27 ?_
        refine z_pure ?_
        refine z_sub [] rfl ?_
        exact kj4 o5
  · refine z_iconst (v := 0) hX (by decide) dX9_claimOf_12 ?_
    exact z_iretM hX dX9_claimOf_13 (Nat.le_of_ble_eq_true rfl) (Nat.le_of_ble_eq_true rfl)
theorem c_X9_claimOf (l : Launch) (hl : l.stackTraces = false) (M : Mem) (v0 : Nat) (v1 : Int32) (v2 : Int32) (o : Int32 × Mem) (ho : f_X9_claimOf M v0 v1 v2 = some o) : Ct l yX9_claimOf cX9_claimOf 3 (some .int) rm_X9_claimOf [.ref v0, .int v1, .int v2] M (some (.int o.1)) o.2 :=
  Ct.of hl (by decide +kernel) (Nat.le_of_ble_eq_true rfl) rfl (fun X hX hin => z_X9_claimOf hX M v0 v1 v2 o ho)
theorem okV_X9_claimOf : okV yX9_claimOf cX9_claimOf 3 (some .int) 2 := ⟨q_1825, q_1826, q_96, q_1827, by unfold okY; decide +kernel⟩
/-! ParticipatoryBudgetModel.unjust(I)I -/
abbrev rm_X9_unjust : Room := { frames := 8, cells := 0, slots := 0, locals := 186 }
set_option maxRecDepth 20000 in
set_option maxHeartbeats 4000000 in
theorem z_X9_unjust {X : Cxt} (hX : okX X cX9_unjust RX9 rm_X9_unjust (some .int) 3) (M : Mem) (v0 : Nat) (v1 : Int32) : Zj X (fun o : Int32 × Mem => Qr X rm_X9_unjust.cells rm_X9_unjust.slots (some (.int o.1)) o.2) 0 0 0 [(0, .ref v0), (1, .int v1)] [] M (f_X9_unjust M v0 v1) := by
  unfold f_X9_unjust
  refine z_aload_n hX 0 rfl rfl dX9_unjust_0 ?_
  refine z_iconst (v := 0) hX (by decide) dX9_unjust_1 ?_
  refine z_pFI 9 4 hX (by decide) rfl (by decide) rfl q_1315 rfl pd_1 rfl rfl dX9_unjust_2 (fun M1 => ?_)
  refine z_aload_n hX 0 rfl rfl dX9_unjust_5 ?_
  refine z_iload_n hX 1 rfl rfl dX9_unjust_6 ?_
  refine z_cVIm 9 [.int v1] hX (fun l hl o ho => c_X9_runs l hl M1 v0 v1 o ho) dX9_unjust_7 (by decide) rfl rfl q_1679 okV_X9_runs rfl ⟨(Nat.le_of_ble_eq_true rfl), (Nat.le_of_ble_eq_true rfl)⟩ rfl (Nat.le_of_ble_eq_true rfl) rfl rfl ⟨(Nat.le_of_ble_eq_true rfl), (Nat.le_of_ble_eq_true rfl)⟩ (fun o2 => ?_)
  refine z_if_ne hX 16 (by decide) dX9_unjust_10 (fun _ => ?_) (fun _ => ?_)
  · refine z_iconst (v := 0) hX (by decide) dX9_unjust_16 ?_
    refine z_istore_n hX [(2, .int 0), (0, .ref v0), (1, .int v1)] rfl (by decide) rfl dX9_unjust_17 ?_
    refine z_sub [1, 0] rfl ?_
    refine z_lp (x0 := 0) (bd_X9_unjust_18 v0 o2) 18 62 (fun (u3 : Int32) => [(0, .ref v0), (2, .int u3)]) (fun (e4 : Int32) => []) (fun (u3 : Int32) => o2.2) ?_ ?_
    · intro e4
      refine z_iconst (v := (-1)) hX (by decide) dX9_unjust_62 ?_
      exact z_iretM hX dX9_unjust_63 (Nat.le_of_ble_eq_true rfl) (Nat.le_of_ble_eq_true rfl)
    · intro kk5 rc6 hkk5 hrc6 u3
      unfold bd_X9_unjust_18
      refine z_iload_n hX 1 rfl rfl dX9_unjust_18 ?_
      refine z_aload_n hX 0 rfl rfl dX9_unjust_19 ?_
      refine z_gFI 9 6 hX (by decide) rfl (by decide) rfl q_1317 dX9_unjust_20 (fun x7 => ?_)
      refine z_icmp_ge hX 62 (by decide) dX9_unjust_23 (fun _ => ?_) (fun _ => ?_)
      · refine z_sub [] rfl ?_
        exact hkk5 u3
      · refine z_aload_n hX 0 rfl rfl dX9_unjust_26 ?_
        refine z_gFI 9 30 hX (by decide) rfl (by decide) rfl q_1341 dX9_unjust_27 (fun x8 => ?_)
        refine z_iload_n hX 1 rfl rfl dX9_unjust_30 ?_
        refine z_cSIp [.int x8, .int u3] hX (fun l hl o ho => c_X9_has l hl o2.2 x8 u3 o ho) dX9_unjust_31 q_1537 okS_X9_has rfl ⟨(Nat.le_of_ble_eq_true rfl), (Nat.le_of_ble_eq_true rfl)⟩ rfl (Nat.le_of_ble_eq_true rfl) rfl rfl ⟨(Nat.le_of_ble_eq_true rfl), (Nat.le_of_ble_eq_true rfl)⟩ (fun o9 => ?_)
        refine z_if_ne hX 56 (by decide) dX9_unjust_34 (fun _ => ?_) (fun _ => ?_)
        · refine z_iinc hX 1 [(2, .int (u3 + 1)), (0, .ref v0)] rfl rfl (by decide) rfl dX9_unjust_56 ?_
          refine z_goto hX 18 (by decide) dX9_unjust_59 ?_
          refine z_sub [1, 0] rfl ?_
          exact hrc6 (u3 + 1)
        · refine z_aload_n hX 0 rfl rfl dX9_unjust_37 ?_
          refine z_iload_n hX 1 rfl rfl dX9_unjust_38 ?_
          refine z_cVIp 9 [.int u3] hX (fun l hl o ho => c_X9_claimNow l hl o2.2 v0 u3 o ho) dX9_unjust_39 (by decide) rfl rfl q_1828 okV_X9_claimNow rfl ⟨(Nat.le_of_ble_eq_true rfl), (Nat.le_of_ble_eq_true rfl)⟩ rfl (Nat.le_of_ble_eq_true rfl) rfl rfl ⟨(Nat.le_of_ble_eq_true rfl), (Nat.le_of_ble_eq_true rfl)⟩ (fun o10 => ?_)
          refine z_aload_n hX 0 rfl rfl dX9_unjust_42 ?_
          refine z_gFR 9 0 hX (by decide) rfl (by decide) rfl q_1311 dX9_unjust_43 (fun r11 => ?_)
          refine z_bipush (v := 8) hX (by decide) dX9_unjust_46 ?_
          refine z_iload_n hX 1 rfl rfl dX9_unjust_48 ?_
          refine z_iadd hX dX9_unjust_49 ?_
          refine z_aI hX dX9_unjust_50 (fun x12 => ?_)
          refine z_icmp_lt hX 56 (by decide) dX9_unjust_51 (fun _ => ?_) (fun _ => ?_)
          · refine z_iinc hX 1 [(2, .int (u3 + 1)), (0, .ref v0)] rfl rfl (by decide) rfl dX9_unjust_56 ?_
            refine z_goto hX 18 (by decide) dX9_unjust_59 ?_
            refine z_sub [1, 0] rfl ?_
            exact hrc6 (u3 + 1)
          · refine z_iload_n hX 1 rfl rfl dX9_unjust_54 ?_
            exact z_iretM hX dX9_unjust_55 (Nat.le_of_ble_eq_true rfl) (Nat.le_of_ble_eq_true rfl)
  · refine z_bipush (v := (-2)) hX (by decide) dX9_unjust_13 ?_
    exact z_iretM hX dX9_unjust_15 (Nat.le_of_ble_eq_true rfl) (Nat.le_of_ble_eq_true rfl)
theorem c_X9_unjust (l : Launch) (hl : l.stackTraces = false) (M : Mem) (v0 : Nat) (v1 : Int32) (o : Int32 × Mem) (ho : f_X9_unjust M v0 v1 = some o) : Ct l yX9_unjust cX9_unjust 3 (some .int) rm_X9_unjust [.ref v0, .int v1] M (some (.int o.1)) o.2 :=
  Ct.of hl (by decide +kernel) (Nat.le_of_ble_eq_true rfl) rfl (fun X hX hin => z_X9_unjust hX M v0 v1 o ho)
theorem okV_X9_unjust : okV yX9_unjust cX9_unjust 3 (some .int) 1 := ⟨q_1833, q_1834, q_96, q_1835, by unfold okY; decide +kernel⟩
/-! ParticipatoryBudgetModel.changedWithout(I)I -/
abbrev rm_X9_changedWithout : Room := { frames := 7, cells := 0, slots := 0, locals := 165 }
set_option maxRecDepth 20000 in
set_option maxHeartbeats 4000000 in
theorem z_X9_changedWithout {X : Cxt} (hX : okX X cX9_changedWithout RX9 rm_X9_changedWithout (some .int) 4) (M : Mem) (v0 : Nat) (v1 : Int32) : Zj X (fun o : Int32 × Mem => Qr X rm_X9_changedWithout.cells rm_X9_changedWithout.slots (some (.int o.1)) o.2) 0 0 0 [(0, .ref v0), (1, .int v1)] [] M (f_X9_changedWithout M v0 v1) := by
  unfold f_X9_changedWithout
  refine z_aload_n hX 0 rfl rfl dX9_changedWithout_0 ?_
  refine z_aload_n hX 0 rfl rfl dX9_changedWithout_1 ?_
  refine z_iload_n hX 1 rfl rfl dX9_changedWithout_2 ?_
  refine z_cVIp 9 [.int v1] hX (fun l hl o ho => c_X9_isVoter l hl M v0 v1 o ho) dX9_changedWithout_3 (by decide) rfl rfl q_1607 okV_X9_isVoter rfl ⟨(Nat.le_of_ble_eq_true rfl), (Nat.le_of_ble_eq_true rfl)⟩ rfl (Nat.le_of_ble_eq_true rfl) rfl rfl ⟨(Nat.le_of_ble_eq_true rfl), (Nat.le_of_ble_eq_true rfl)⟩ (fun o1 => ?_)
  refine z_cVIm 9 [.int o1] hX (fun l hl o ho => c_X9_fails l hl M v0 o1 o ho) dX9_changedWithout_6 (by decide) rfl rfl q_1587 okV_X9_fails rfl ⟨(Nat.le_of_ble_eq_true rfl), (Nat.le_of_ble_eq_true rfl)⟩ rfl (Nat.le_of_ble_eq_true rfl) rfl rfl ⟨(Nat.le_of_ble_eq_true rfl), (Nat.le_of_ble_eq_true rfl)⟩ (fun o2 => ?_)
  refine z_if_eq hX 14 (by decide) dX9_changedWithout_9 (fun _ => ?_) (fun _ => ?_)
  · refine z_aload_n hX 0 rfl rfl dX9_changedWithout_14 ?_
    refine z_cVVm 9 [] hX (fun l hl o ho => c_X9_equal l hl o2.2 v0 o ho) dX9_changedWithout_15 (by decide) rfl rfl q_1683 okV_X9_equal rfl ⟨(Nat.le_of_ble_eq_true rfl), (Nat.le_of_ble_eq_true rfl)⟩ rfl (Nat.le_of_ble_eq_true rfl) rfl rfl ⟨(Nat.le_of_ble_eq_true rfl), (Nat.le_of_ble_eq_true rfl)⟩ (fun o3 => ?_)
    refine z_aload_n hX 0 rfl rfl dX9_changedWithout_18 ?_
    refine z_gFI 9 30 hX (by decide) rfl (by decide) rfl q_1341 dX9_changedWithout_19 (fun x4 => ?_)
    refine z_istore_n hX [(2, .int x4), (0, .ref v0), (1, .int v1)] rfl (by decide) rfl dX9_changedWithout_22 ?_
    refine z_aload_n hX 1 rfl rfl dX9_changedWithout_23 ?_
    refine z_gFR 9 0 hX (by decide) rfl (by decide) rfl q_1311 dX9_changedWithout_24 (fun r5 => ?_)
    refine z_bipush (v := 68) hX (by decide) dX9_changedWithout_27 ?_
    refine z_iload_n hX 2 rfl rfl dX9_changedWithout_29 ?_
    refine z_iadd hX dX9_changedWithout_30 ?_
    refine z_aI hX dX9_changedWithout_31 (fun x6 => ?_)
    refine z_istore_n hX [(3, .int x6), (2, .int x4), (0, .ref v0), (1, .int v1)] rfl (by decide) rfl dX9_changedWithout_32 ?_
    refine z_aload_n hX 2 rfl rfl dX9_changedWithout_33 ?_
    refine z_gFR 9 0 hX (by decide) rfl (by decide) rfl q_1311 dX9_changedWithout_34 (fun r7 => ?_)
    refine z_bipush (v := 68) hX (by decide) dX9_changedWithout_37 ?_
    refine z_iload_n hX 3 rfl rfl dX9_changedWithout_39 ?_
    refine z_iadd hX dX9_changedWithout_40 ?_
    refine z_iconst (v := 0) hX (by decide) dX9_changedWithout_41 ?_
    refine z_wI hX dX9_changedWithout_42 (fun M8 => ?_)
    refine z_aload_n hX 2 rfl rfl dX9_changedWithout_43 ?_
    refine z_cVVm 9 [] hX (fun l hl o ho => c_X9_equal l hl M8 v0 o ho) dX9_changedWithout_44 (by decide) rfl rfl q_1683 okV_X9_equal rfl ⟨(Nat.le_of_ble_eq_true rfl), (Nat.le_of_ble_eq_true rfl)⟩ rfl (Nat.le_of_ble_eq_true rfl) rfl rfl ⟨(Nat.le_of_ble_eq_true rfl), (Nat.le_of_ble_eq_true rfl)⟩ (fun o9 => ?_)
    refine z_aload_n hX 2 rfl rfl dX9_changedWithout_47 ?_
    refine z_gFR 9 0 hX (by decide) rfl (by decide) rfl q_1311 dX9_changedWithout_48 (fun r10 => ?_)
    refine z_bipush (v := 68) hX (by decide) dX9_changedWithout_51 ?_
    refine z_iload_n hX 3 rfl rfl dX9_changedWithout_53 ?_
    refine z_iadd hX dX9_changedWithout_54 ?_
    refine z_iload_n hX 0 rfl rfl dX9_changedWithout_55 ?_
    refine z_wI hX dX9_changedWithout_56 (fun M11 => ?_)
    refine z_iload_n hX 1 rfl rfl dX9_changedWithout_57 ?_
    refine z_aload_n hX 2 rfl rfl dX9_changedWithout_58 ?_
    refine z_gFI 9 30 hX (by decide) rfl (by decide) rfl q_1341 dX9_changedWithout_59 (fun x12 => ?_)
    refine z_ixor hX dX9_changedWithout_62 ?_
    exact z_iretM hX dX9_changedWithout_63 (Nat.le_of_ble_eq_true rfl) (Nat.le_of_ble_eq_true rfl)
  · refine z_iconst (v := 0) hX (by decide) dX9_changedWithout_12 ?_
    exact z_iretM hX dX9_changedWithout_13 (Nat.le_of_ble_eq_true rfl) (Nat.le_of_ble_eq_true rfl)
theorem c_X9_changedWithout (l : Launch) (hl : l.stackTraces = false) (M : Mem) (v0 : Nat) (v1 : Int32) (o : Int32 × Mem) (ho : f_X9_changedWithout M v0 v1 = some o) : Ct l yX9_changedWithout cX9_changedWithout 4 (some .int) rm_X9_changedWithout [.ref v0, .int v1] M (some (.int o.1)) o.2 :=
  Ct.of hl (by decide +kernel) (Nat.le_of_ble_eq_true rfl) rfl (fun X hX hin => z_X9_changedWithout hX M v0 v1 o ho)
theorem okV_X9_changedWithout : okV yX9_changedWithout cX9_changedWithout 4 (some .int) 1 := ⟨q_1837, q_1838, q_96, q_1839, by unfold okY; decide +kernel⟩
/-! ParticipatoryBudgetModel.isFundedAt(II)Z -/
abbrev rm_X9_isFundedAt : Room := { frames := 5, cells := 0, slots := 0, locals := 118 }
set_option maxRecDepth 20000 in
set_option maxHeartbeats 4000000 in
theorem z_X9_isFundedAt {X : Cxt} (hX : okX X cX9_isFundedAt RX9 rm_X9_isFundedAt (some .boolean) 3) (M : Mem) (v0 : Nat) (v1 : Int32) (v2 : Int32) : Zj X (fun o : Int32 × Mem => Qr X rm_X9_isFundedAt.cells rm_X9_isFundedAt.slots (some (.int o.1)) o.2) 0 0 0 [(0, .ref v0), (1, .int v1), (2, .int v2)] [] M (f_X9_isFundedAt M v0 v1 v2) := by
  unfold f_X9_isFundedAt
  refine z_aload_n hX 0 rfl rfl dX9_isFundedAt_0 ?_
  refine z_gFR 9 0 hX (by decide) rfl (by decide) rfl q_1311 dX9_isFundedAt_1 (fun r1 => ?_)
  refine z_bipush (v := 8) hX (by decide) dX9_isFundedAt_4 ?_
  refine z_iload_n hX 1 rfl rfl dX9_isFundedAt_6 ?_
  refine z_iadd hX dX9_isFundedAt_7 ?_
  refine z_iload_n hX 2 rfl rfl dX9_isFundedAt_8 ?_
  refine z_wI hX dX9_isFundedAt_9 (fun M2 => ?_)
  refine z_aload_n hX 0 rfl rfl dX9_isFundedAt_10 ?_
  refine z_cVVm 9 [] hX (fun l hl o ho => c_X9_clearResult l hl M2 v0 o ho) dX9_isFundedAt_11 (by decide) rfl rfl q_1691 okV_X9_clearResult rfl ⟨(Nat.le_of_ble_eq_true rfl), (Nat.le_of_ble_eq_true rfl)⟩ rfl (Nat.le_of_ble_eq_true rfl) rfl rfl ⟨(Nat.le_of_ble_eq_true rfl), (Nat.le_of_ble_eq_true rfl)⟩ (fun o3 => ?_)
  refine z_aload_n hX 0 rfl rfl dX9_isFundedAt_14 ?_
  refine z_cVVm 9 [] hX (fun l hl o ho => c_X9_greedily l hl o3 v0 o ho) dX9_isFundedAt_15 (by decide) rfl rfl q_1711 okV_X9_greedily rfl ⟨(Nat.le_of_ble_eq_true rfl), (Nat.le_of_ble_eq_true rfl)⟩ rfl (Nat.le_of_ble_eq_true rfl) rfl rfl ⟨(Nat.le_of_ble_eq_true rfl), (Nat.le_of_ble_eq_true rfl)⟩ (fun o4 => ?_)
  refine z_aload_n hX 0 rfl rfl dX9_isFundedAt_18 ?_
  refine z_gFI 9 30 hX (by decide) rfl (by decide) rfl q_1341 dX9_isFundedAt_19 (fun x5 => ?_)
  refine z_iload_n hX 1 rfl rfl dX9_isFundedAt_22 ?_
  refine z_cSIp [.int x5, .int v1] hX (fun l hl o ho => c_X9_has l hl o4 x5 v1 o ho) dX9_isFundedAt_23 q_1537 okS_X9_has rfl ⟨(Nat.le_of_ble_eq_true rfl), (Nat.le_of_ble_eq_true rfl)⟩ rfl (Nat.le_of_ble_eq_true rfl) rfl rfl ⟨(Nat.le_of_ble_eq_true rfl), (Nat.le_of_ble_eq_true rfl)⟩ (fun o6 => ?_)
  exact z_zretM hX dX9_isFundedAt_26 (Nat.le_of_ble_eq_true rfl) (Nat.le_of_ble_eq_true rfl)
theorem c_X9_isFundedAt (l : Launch) (hl : l.stackTraces = false) (M : Mem) (v0 : Nat) (v1 : Int32) (v2 : Int32) (o : Int32 × Mem) (ho : f_X9_isFundedAt M v0 v1 v2 = some o) : Ct l yX9_isFundedAt cX9_isFundedAt 3 (some .boolean) rm_X9_isFundedAt [.ref v0, .int v1, .int v2] M (some (.int o.1)) o.2 :=
  Ct.of hl (by decide +kernel) (Nat.le_of_ble_eq_true rfl) rfl (fun X hX hin => z_X9_isFundedAt hX M v0 v1 v2 o ho)
theorem okV_X9_isFundedAt : okV yX9_isFundedAt cX9_isFundedAt 3 (some .boolean) 2 := ⟨q_1846, q_79, q_96, q_1847, by unfold okY; decide +kernel⟩
/-! ParticipatoryBudgetModel.greedyLimit(I)I -/
abbrev rm_X9_greedyLimit : Room := { frames := 6, cells := 0, slots := 0, locals := 140 }
set_option maxRecDepth 20000 in
set_option maxHeartbeats 4000000 in
theorem z_X9_greedyLimit {X : Cxt} (hX : okX X cX9_greedyLimit RX9 rm_X9_greedyLimit (some .int) 6) (M : Mem) (v0 : Nat) (v1 : Int32) : Zj X (fun o : Int32 × Mem => Qr X rm_X9_greedyLimit.cells rm_X9_greedyLimit.slots (some (.int o.1)) o.2) 0 0 0 [(0, .ref v0), (1, .int v1)] [] M (f_X9_greedyLimit M v0 v1) := by
  unfold f_X9_greedyLimit
  refine z_aload_n hX 0 rfl rfl dX9_greedyLimit_0 ?_
  refine z_aload_n hX 0 rfl rfl dX9_greedyLimit_1 ?_
  refine z_iload_n hX 1 rfl rfl dX9_greedyLimit_2 ?_
  refine z_cVIp 9 [.int v1] hX (fun l hl o ho => c_X9_isProject l hl M v0 v1 o ho) dX9_greedyLimit_3 (by decide) rfl rfl q_1595 okV_X9_isProject rfl ⟨(Nat.le_of_ble_eq_true rfl), (Nat.le_of_ble_eq_true rfl)⟩ rfl (Nat.le_of_ble_eq_true rfl) rfl rfl ⟨(Nat.le_of_ble_eq_true rfl), (Nat.le_of_ble_eq_true rfl)⟩ (fun o1 => ?_)
  refine z_cVIm 9 [.int o1] hX (fun l hl o ho => c_X9_fails l hl M v0 o1 o ho) dX9_greedyLimit_6 (by decide) rfl rfl q_1587 okV_X9_fails rfl ⟨(Nat.le_of_ble_eq_true rfl), (Nat.le_of_ble_eq_true rfl)⟩ rfl (Nat.le_of_ble_eq_true rfl) rfl rfl ⟨(Nat.le_of_ble_eq_true rfl), (Nat.le_of_ble_eq_true rfl)⟩ (fun o2 => ?_)
  refine z_if_eq hX 14 (by decide) dX9_greedyLimit_9 (fun _ => ?_) (fun _ => ?_)
  · refine z_aload_n hX 0 rfl rfl dX9_greedyLimit_14 ?_
    refine z_gFR 9 0 hX (by decide) rfl (by decide) rfl q_1311 dX9_greedyLimit_15 (fun r3 => ?_)
    refine z_bipush (v := 8) hX (by decide) dX9_greedyLimit_18 ?_
    refine z_iload_n hX 1 rfl rfl dX9_greedyLimit_20 ?_
    refine z_iadd hX dX9_greedyLimit_21 ?_
    refine z_aI hX dX9_greedyLimit_22 (fun x4 => ?_)
    refine z_istore_n hX [(2, .int x4), (0, .ref v0), (1, .int v1)] rfl (by decide) rfl dX9_greedyLimit_23 ?_
    refine z_iconst (v := 0) hX (by decide) dX9_greedyLimit_24 ?_
    refine z_istore_n hX [(3, .int 0), (2, .int x4), (0, .ref v0), (1, .int v1)] rfl (by decide) rfl dX9_greedyLimit_25 ?_
    refine z_ldc (v := 100000) hX q_1523 dX9_greedyLimit_26 ?_
    refine z_istore hX [(4, .int 100000), (3, .int 0), (2, .int x4), (0, .ref v0), (1, .int v1)] (by decide) rfl dX9_greedyLimit_28 ?_
    refine z_sub [3, 4, 2, 1, 0] rfl ?_
    refine z_lp (x0 := (0, 100000, o2.2)) (bd_X9_greedyLimit_30 v0 v1) 30 71 (fun (u5 : Int32 × Int32 × Mem) => [(0, .ref v0), (1, .int v1), (2, .int x4), (3, .int u5.1), (4, .int u5.2.1)]) (fun (e6 : Int32 × Int32 × Mem) => [(0, .ref v0), (1, .int v1), (2, .int x4), (3, .int e6.1)]) (fun (u5 : Int32 × Int32 × Mem) => u5.2.2) ?_ ?_
    · intro e6
      refine z_aload_n hX 0 rfl rfl dX9_greedyLimit_71 ?_
      refine z_gFR 9 0 hX (by decide) rfl (by decide) rfl q_1311 dX9_greedyLimit_72 (fun r13 => ?_)
      refine z_bipush (v := 8) hX (by decide) dX9_greedyLimit_75 ?_
      refine z_iload_n hX 1 rfl rfl dX9_greedyLimit_77 ?_
      refine z_iadd hX dX9_greedyLimit_78 ?_
      refine z_iload_n hX 2 rfl rfl dX9_greedyLimit_79 ?_
      refine z_wI hX dX9_greedyLimit_80 (fun M14 => ?_)
      refine z_iload_n hX 3 rfl rfl dX9_greedyLimit_81 ?_
      refine z_jn (C' := 0) (S' := 0) 90 (fun (j15 : Int32) => []) (fun (j15 : Int32) => [.int j15]) (fun (j15 : Int32) => M14) (fun j15 => ?_) (fun kj15 => ?_)
      · exact z_iretM hX dX9_greedyLimit_90 (Nat.le_of_ble_eq_true rfl) (Nat.le_of_ble_eq_true rfl)
      · refine z_iteB ?_
        refine z_if_ne hX 89 (by decide) dX9_greedyLimit_82 (fun _ => ?_) (fun _ => ?_)
        · refine z_iload_n hX 3 rfl rfl dX9_greedyLimit_89 ?_
          refine z_pure ?_
          refine z_sub [] rfl ?_
          exact kj15 e6.1
        · refine z_iconst (v := (-1)) hX (by decide) dX9_greedyLimit_85 ?_
          refine z_goto hX 90 (by decide) dX9_greedyLimit_86 ?_
          refine z_pure ?_
          refine z_sub [] rfl ?_
          exact kj15 (-1)
    · intro kk7 rc8 hkk7 hrc8 u5
      unfold bd_X9_greedyLimit_30
      refine z_iload_n hX 3 rfl rfl dX9_greedyLimit_30 ?_
      refine z_iload hX 4 rfl dX9_greedyLimit_31 ?_
      refine z_icmp_ge hX 71 (by decide) dX9_greedyLimit_33 (fun _ => ?_) (fun _ => ?_)
      · refine z_sub [0, 1, 2, 3] rfl ?_
        exact hkk7 (u5.1, u5.2.1, u5.2.2)
      · refine z_iload_n hX 3 rfl rfl dX9_greedyLimit_36 ?_
        refine z_iload hX 4 rfl dX9_greedyLimit_37 ?_
        refine z_iadd hX dX9_greedyLimit_39 ?_
        refine z_iconst (v := 1) hX (by decide) dX9_greedyLimit_40 ?_
        refine z_iadd hX dX9_greedyLimit_41 ?_
        refine z_iconst (v := 2) hX (by decide) dX9_greedyLimit_42 ?_
        refine z_idiv hX dX9_greedyLimit_43 (fun x9 => ?_)
        refine z_istore hX [(5, .int x9), (0, .ref v0), (1, .int v1), (2, .int x4), (3, .int u5.1), (4, .int u5.2.1)] (by decide) rfl dX9_greedyLimit_44 ?_
        refine z_aload_n hX 1 rfl rfl dX9_greedyLimit_46 ?_
        refine z_iload_n hX 2 rfl rfl dX9_greedyLimit_47 ?_
        refine z_iload hX 0 rfl dX9_greedyLimit_48 ?_
        refine z_cVIm 9 [.int v1, .int x9] hX (fun l hl o ho => c_X9_isFundedAt l hl u5.2.2 v0 v1 x9 o ho) dX9_greedyLimit_50 (by decide) rfl rfl q_1844 okV_X9_isFundedAt rfl ⟨(Nat.le_of_ble_eq_true rfl), (Nat.le_of_ble_eq_true rfl)⟩ rfl (Nat.le_of_ble_eq_true rfl) rfl rfl ⟨(Nat.le_of_ble_eq_true rfl), (Nat.le_of_ble_eq_true rfl)⟩ (fun o10 => ?_)
        refine z_jn (C' := 0) (S' := 0) 68 (fun (j11 : Int32 × Int32) => [(0, .ref v0), (1, .int v1), (2, .int x4), (3, .int j11.1), (4, .int j11.2)]) (fun (j11 : Int32 × Int32) => []) (fun (j11 : Int32 × Int32) => o10.2) (fun j11 => ?_) (fun kj11 => ?_)
        · refine z_goto hX 30 (by decide) dX9_greedyLimit_68 ?_
          refine z_sub [0, 1, 2, 3, 4] rfl ?_
          exact hrc8 (j11.1, j11.2, o10.2)
        · refine z_iteB ?_
          refine z_if_eq hX 62 (by decide) dX9_greedyLimit_53 (fun _ => ?_) (fun _ => ?_)
          · refine z_iload hX 0 rfl dX9_greedyLimit_62 ?_
            refine z_iconst (v := 1) hX (by decide) dX9_greedyLimit_64 ?_
            refine z_isub hX dX9_greedyLimit_65 ?_
            refine z_ltB ?_
            refine z_ltI (fun x12 => ?_)
            refine z_istore hX [(4, .int x12), (5, .int x9), (0, .ref v0), (1, .int v1), (2, .int x4), (3, .int u5.1)] (by decide) rfl dX9_greedyLimit_66 ?_
            refine z_pure ?_
            refine z_sub [2, 3, 4, 5, 0] rfl ?_
            exact kj11 (u5.1, x12)
          · refine z_iload hX 0 rfl dX9_greedyLimit_56 ?_
            refine z_istore_n hX [(3, .int x9), (5, .int x9), (0, .ref v0), (1, .int v1), (2, .int x4), (4, .int u5.2.1)] rfl (by decide) rfl dX9_greedyLimit_58 ?_
            refine z_goto hX 68 (by decide) dX9_greedyLimit_59 ?_
            refine z_pure ?_
            refine z_sub [2, 3, 4, 0, 5] rfl ?_
            exact kj11 (x9, u5.2.1)
  · refine z_iconst (v := 0) hX (by decide) dX9_greedyLimit_12 ?_
    exact z_iretM hX dX9_greedyLimit_13 (Nat.le_of_ble_eq_true rfl) (Nat.le_of_ble_eq_true rfl)
theorem c_X9_greedyLimit (l : Launch) (hl : l.stackTraces = false) (M : Mem) (v0 : Nat) (v1 : Int32) (o : Int32 × Mem) (ho : f_X9_greedyLimit M v0 v1 = some o) : Ct l yX9_greedyLimit cX9_greedyLimit 6 (some .int) rm_X9_greedyLimit [.ref v0, .int v1] M (some (.int o.1)) o.2 :=
  Ct.of hl (by decide +kernel) (Nat.le_of_ble_eq_true rfl) rfl (fun X hX hin => z_X9_greedyLimit hX M v0 v1 o ho)
theorem okV_X9_greedyLimit : okV yX9_greedyLimit cX9_greedyLimit 6 (some .int) 1 := ⟨q_1841, q_1842, q_96, q_1843, by unfold okY; decide +kernel⟩
/-! ParticipatoryBudgetModel.canBePaid(I)Z -/
abbrev rm_X9_canBePaid : Room := { frames := 2, cells := 0, slots := 0, locals := 46 }
set_option maxRecDepth 20000 in
set_option maxHeartbeats 4000000 in
theorem z_X9_canBePaid {X : Cxt} (hX : okX X cX9_canBePaid RX9 rm_X9_canBePaid (some .boolean) 2) (M : Mem) (v0 : Nat) (v1 : Int32) : Zj X (fun o : Int32 × Mem => Qr X rm_X9_canBePaid.cells rm_X9_canBePaid.slots (some (.int o.1)) o.2) 0 0 0 [(0, .ref v0), (1, .int v1)] [] M (f_X9_canBePaid M v0 v1) := by
  unfold f_X9_canBePaid
  refine z_aload_n hX 0 rfl rfl dX9_canBePaid_0 ?_
  refine z_iconst (v := 0) hX (by decide) dX9_canBePaid_1 ?_
  refine z_pFI 9 4 hX (by decide) rfl (by decide) rfl q_1315 rfl pd_1 rfl rfl dX9_canBePaid_2 (fun M1 => ?_)
  refine z_iload_n hX 1 rfl rfl dX9_canBePaid_5 ?_
  refine z_aload_n hX 0 rfl rfl dX9_canBePaid_6 ?_
  refine z_gFI 9 6 hX (by decide) rfl (by decide) rfl q_1317 dX9_canBePaid_7 (fun x2 => ?_)
  refine z_ishr hX dX9_canBePaid_10 ?_
  refine z_jn (C' := 0) (S' := 0) 27 (fun (j3 : Int32) => []) (fun (j3 : Int32) => [.int j3]) (fun (j3 : Int32) => M1) (fun j3 => ?_) (fun kj3 => ?_)
  · exact z_zretM hX dX9_canBePaid_27 (Nat.le_of_ble_eq_true rfl) (Nat.le_of_ble_eq_true rfl)
  · refine z_iteB ?_
    refine z_if_ne hX 26 (by decide) dX9_canBePaid_11 (fun _ => ?_) (fun _ => ?_)
    · refine z_iconst (v := 0) hX (by decide) dX9_canBePaid_26 ?_
      refine z_pure ?_
      refine z_sub [] rfl ?_
      exact kj3 0
    · refine z_aload_n hX 0 rfl rfl dX9_canBePaid_14 ?_
      refine z_iload_n hX 1 rfl rfl dX9_canBePaid_15 ?_
      refine z_asc ?_
      refine z_asc2 ?_
      refine z_cVIp 9 [.int v1] hX (fun l hl o ho => c_X9_isPayable l hl M1 v0 v1 o ho) dX9_canBePaid_16 (by decide) rfl rfl q_1747 okV_X9_isPayable rfl ⟨(Nat.le_of_ble_eq_true rfl), (Nat.le_of_ble_eq_true rfl)⟩ rfl (Nat.le_of_ble_eq_true rfl) rfl rfl ⟨(Nat.le_of_ble_eq_true rfl), (Nat.le_of_ble_eq_true rfl)⟩ (fun o4 => ?_)
      refine z_iteB ?_
      refine z_if_eq hX 26 (by decide) dX9_canBePaid_19 (fun _ => ?_) (fun _ => ?_)
      · refine z_iconst (v := 0) hX (by decide) dX9_canBePaid_26 ?_
        refine z_pure ?_
        refine z_sub [] rfl ?_
        exact kj3 0
      · refine z_iconst (v := 1) hX (by decide) dX9_canBePaid_22 ?_
        refine z_goto hX 27 (by decide) dX9_canBePaid_23 ?_
        refine z_pure ?_
        refine z_sub [] rfl ?_
        exact kj3 1
theorem c_X9_canBePaid (l : Launch) (hl : l.stackTraces = false) (M : Mem) (v0 : Nat) (v1 : Int32) (o : Int32 × Mem) (ho : f_X9_canBePaid M v0 v1 = some o) : Ct l yX9_canBePaid cX9_canBePaid 2 (some .boolean) rm_X9_canBePaid [.ref v0, .int v1] M (some (.int o.1)) o.2 :=
  Ct.of hl (by decide +kernel) (Nat.le_of_ble_eq_true rfl) rfl (fun X hX hin => z_X9_canBePaid hX M v0 v1 o ho)
theorem okV_X9_canBePaid : okV yX9_canBePaid cX9_canBePaid 2 (some .boolean) 1 := ⟨q_1849, q_1850, q_96, q_1851, by unfold okY; decide +kernel⟩
/-! ParticipatoryBudgetModel.setOf(I)I -/
abbrev rm_X9_setOf : Room := { frames := 8, cells := 0, slots := 0, locals := 186 }
set_option maxRecDepth 20000 in
set_option maxHeartbeats 4000000 in
theorem z_X9_setOf {X : Cxt} (hX : okX X cX9_setOf RX9 rm_X9_setOf (some .int) 2) (M : Mem) (v0 : Nat) (v1 : Int32) : Zj X (fun o : Int32 × Mem => Qr X rm_X9_setOf.cells rm_X9_setOf.slots (some (.int o.1)) o.2) 0 0 0 [(0, .ref v0), (1, .int v1)] [] M (f_X9_setOf M v0 v1) := by
  unfold f_X9_setOf
  refine z_aload_n hX 0 rfl rfl dX9_setOf_0 ?_
  refine z_iload_n hX 1 rfl rfl dX9_setOf_1 ?_
  refine z_cVIm 9 [.int v1] hX (fun l hl o ho => c_X9_runs l hl M v0 v1 o ho) dX9_setOf_2 (by decide) rfl rfl q_1679 okV_X9_runs rfl ⟨(Nat.le_of_ble_eq_true rfl), (Nat.le_of_ble_eq_true rfl)⟩ rfl (Nat.le_of_ble_eq_true rfl) rfl rfl ⟨(Nat.le_of_ble_eq_true rfl), (Nat.le_of_ble_eq_true rfl)⟩ (fun o1 => ?_)
  refine z_jn (C' := 0) (S' := 0) 17 (fun (j2 : Int32) => []) (fun (j2 : Int32) => [.int j2]) (fun (j2 : Int32) => o1.2) (fun j2 => ?_) (fun kj2 => ?_)
  · exact z_iretM hX dX9_setOf_17 (Nat.le_of_ble_eq_true rfl) (Nat.le_of_ble_eq_true rfl)
  · refine z_iteB ?_
    refine z_if_eq hX 15 (by decide) dX9_setOf_5 (fun _ => ?_) (fun _ => ?_)
    · refine z_bipush (v := (-2)) hX (by decide) dX9_setOf_15 ?_
      refine z_pure ?_
      refine z_sub [] rfl ?_
      exact kj2 (-2)
    · refine z_aload_n hX 0 rfl rfl dX9_setOf_8 ?_
      refine z_asc ?_
      refine z_gFI 9 30 hX (by decide) rfl (by decide) rfl q_1341 dX9_setOf_9 (fun x3 => ?_)
      refine z_goto hX 17 (by decide) dX9_setOf_12 ?_
      refine z_pure ?_
      refine z_sub [] rfl ?_
      exact kj2 x3
theorem c_X9_setOf (l : Launch) (hl : l.stackTraces = false) (M : Mem) (v0 : Nat) (v1 : Int32) (o : Int32 × Mem) (ho : f_X9_setOf M v0 v1 = some o) : Ct l yX9_setOf cX9_setOf 2 (some .int) rm_X9_setOf [.ref v0, .int v1] M (some (.int o.1)) o.2 :=
  Ct.of hl (by decide +kernel) (Nat.le_of_ble_eq_true rfl) rfl (fun X hX hin => z_X9_setOf hX M v0 v1 o ho)
theorem okV_X9_setOf : okV yX9_setOf cX9_setOf 2 (some .int) 1 := ⟨q_1858, q_80, q_96, q_1859, by unfold okY; decide +kernel⟩
/-! ParticipatoryBudgetModel.common(II)I -/
abbrev rm_X9_common : Room := { frames := 9, cells := 0, slots := 0, locals := 207 }
set_option maxRecDepth 20000 in
set_option maxHeartbeats 4000000 in
theorem z_X9_common {X : Cxt} (hX : okX X cX9_common RX9 rm_X9_common (some .int) 5) (M : Mem) (v0 : Nat) (v1 : Int32) (v2 : Int32) : Zj X (fun o : Int32 × Mem => Qr X rm_X9_common.cells rm_X9_common.slots (some (.int o.1)) o.2) 0 0 0 [(0, .ref v0), (1, .int v1), (2, .int v2)] [] M (f_X9_common M v0 v1 v2) := by
  unfold f_X9_common
  refine z_aload_n hX 0 rfl rfl dX9_common_0 ?_
  refine z_iconst (v := 0) hX (by decide) dX9_common_1 ?_
  refine z_pFI 9 4 hX (by decide) rfl (by decide) rfl q_1315 rfl pd_1 rfl rfl dX9_common_2 (fun M1 => ?_)
  refine z_aload_n hX 0 rfl rfl dX9_common_5 ?_
  refine z_iload_n hX 1 rfl rfl dX9_common_6 ?_
  refine z_cVIm 9 [.int v1] hX (fun l hl o ho => c_X9_setOf l hl M1 v0 v1 o ho) dX9_common_7 (by decide) rfl rfl q_1856 okV_X9_setOf rfl ⟨(Nat.le_of_ble_eq_true rfl), (Nat.le_of_ble_eq_true rfl)⟩ rfl (Nat.le_of_ble_eq_true rfl) rfl rfl ⟨(Nat.le_of_ble_eq_true rfl), (Nat.le_of_ble_eq_true rfl)⟩ (fun o2 => ?_)
  refine z_istore_n hX [(3, .int o2.1), (0, .ref v0), (1, .int v1), (2, .int v2)] rfl (by decide) rfl dX9_common_10 ?_
  refine z_aload_n hX 1 rfl rfl dX9_common_11 ?_
  refine z_iload_n hX 3 rfl rfl dX9_common_12 ?_
  refine z_cVIm 9 [.int v2] hX (fun l hl o ho => c_X9_setOf l hl o2.2 v0 v2 o ho) dX9_common_13 (by decide) rfl rfl q_1856 okV_X9_setOf rfl ⟨(Nat.le_of_ble_eq_true rfl), (Nat.le_of_ble_eq_true rfl)⟩ rfl (Nat.le_of_ble_eq_true rfl) rfl rfl ⟨(Nat.le_of_ble_eq_true rfl), (Nat.le_of_ble_eq_true rfl)⟩ (fun o3 => ?_)
  refine z_istore hX [(4, .int o3.1), (3, .int o2.1), (0, .ref v0), (1, .int v1), (2, .int v2)] (by decide) rfl dX9_common_16 ?_
  refine z_iload_n hX 1 rfl rfl dX9_common_18 ?_
  refine z_jn (C' := 0) (S' := 0) 36 (fun (j4 : Int32) => []) (fun (j4 : Int32) => [.int j4]) (fun (j4 : Int32) => o3.2) (fun j4 => ?_) (fun kj4 => ?_)
  · exact z_iretM hX dX9_common_36 (Nat.le_of_ble_eq_true rfl) (Nat.le_of_ble_eq_true rfl)
  · refine z_iteB ?_
    refine z_if_lt hX 27 (by decide) dX9_common_19 (fun _ => ?_) (fun _ => ?_)
    · refine z_bipush (v := (-2)) hX (by decide) dX9_common_27 ?_
      refine z_goto hX 36 (by decide) dX9_common_29 ?_
      refine z_pure ?_
      refine z_sub [] rfl ?_
      exact kj4 (-2)
    · refine z_iload hX 0 rfl dX9_common_22 ?_
      refine z_iteB ?_
      refine z_if_ge hX 32 (by decide) dX9_common_24 (fun _ => ?_) (fun _ => ?_)
      · refine z_iload_n hX 1 rfl rfl dX9_common_32 ?_
        refine z_iload hX 0 rfl dX9_common_33 ?_
        refine z_iand hX dX9_common_35 ?_
        refine z_pure ?_
        refine z_sub [] rfl ?_
        exact kj4 (o2.1 &&& o3.1)
      · refine z_bipush (v := (-2)) hX (by decide) dX9_common_27 ?_
        refine z_goto hX 36 (by decide) dX9_common_29 ?_
        refine z_pure ?_
        refine z_sub [] rfl ?_
        exact kj4 (-2)
theorem c_X9_common (l : Launch) (hl : l.stackTraces = false) (M : Mem) (v0 : Nat) (v1 : Int32) (v2 : Int32) (o : Int32 × Mem) (ho : f_X9_common M v0 v1 v2 = some o) : Ct l yX9_common cX9_common 5 (some .int) rm_X9_common [.ref v0, .int v1, .int v2] M (some (.int o.1)) o.2 :=
  Ct.of hl (by decide +kernel) (Nat.le_of_ble_eq_true rfl) rfl (fun X hX hin => z_X9_common hX M v0 v1 v2 o ho)
theorem okV_X9_common : okV yX9_common cX9_common 5 (some .int) 2 := ⟨q_1853, q_1854, q_96, q_1855, by unfold okY; decide +kernel⟩
/-! ParticipatoryBudgetModel.spread(I)I -/
abbrev rm_X9_spread : Room := { frames := 8, cells := 0, slots := 0, locals := 186 }
set_option maxRecDepth 20000 in
set_option maxHeartbeats 4000000 in
theorem z_X9_spread {X : Cxt} (hX : okX X cX9_spread RX9 rm_X9_spread (some .int) 6) (M : Mem) (v0 : Nat) (v1 : Int32) : Zj X (fun o : Int32 × Mem => Qr X rm_X9_spread.cells rm_X9_spread.slots (some (.int o.1)) o.2) 0 0 0 [(0, .ref v0), (1, .int v1)] [] M (f_X9_spread M v0 v1) := by
  unfold f_X9_spread
  refine z_aload_n hX 0 rfl rfl dX9_spread_0 ?_
  refine z_iconst (v := 0) hX (by decide) dX9_spread_1 ?_
  refine z_pFI 9 4 hX (by decide) rfl (by decide) rfl q_1315 rfl pd_1 rfl rfl dX9_spread_2 (fun M1 => ?_)
  refine z_aload_n hX 0 rfl rfl dX9_spread_5 ?_
  refine z_iload_n hX 1 rfl rfl dX9_spread_6 ?_
  refine z_cVIm 9 [.int v1] hX (fun l hl o ho => c_X9_runs l hl M1 v0 v1 o ho) dX9_spread_7 (by decide) rfl rfl q_1679 okV_X9_runs rfl ⟨(Nat.le_of_ble_eq_true rfl), (Nat.le_of_ble_eq_true rfl)⟩ rfl (Nat.le_of_ble_eq_true rfl) rfl rfl ⟨(Nat.le_of_ble_eq_true rfl), (Nat.le_of_ble_eq_true rfl)⟩ (fun o2 => ?_)
  refine z_if_ne hX 16 (by decide) dX9_spread_10 (fun _ => ?_) (fun _ => ?_)
  · refine z_iconst (v := 0) hX (by decide) dX9_spread_16 ?_
    refine z_istore_n hX [(2, .int 0), (0, .ref v0), (1, .int v1)] rfl (by decide) rfl dX9_spread_17 ?_
    refine z_iconst (v := 0) hX (by decide) dX9_spread_18 ?_
    refine z_istore_n hX [(3, .int 0), (2, .int 0), (0, .ref v0), (1, .int v1)] rfl (by decide) rfl dX9_spread_19 ?_
    refine z_iconst (v := 0) hX (by decide) dX9_spread_20 ?_
    refine z_istore hX [(4, .int 0), (3, .int 0), (2, .int 0), (0, .ref v0), (1, .int v1)] (by decide) rfl dX9_spread_21 ?_
    refine z_sub [3, 2, 1, 0] rfl ?_
    refine z_lp (x0 := (0, 0, 0)) (bd_X9_spread_23 v0 o2) 23 82 (fun (u3 : Int32 × Int32 × Int32) => [(0, .ref v0), (2, .int u3.1), (3, .int u3.2.1), (4, .int u3.2.2)]) (fun (e4 : Int32 × Int32 × Int32) => [(2, .int e4.1), (3, .int e4.2.1)]) (fun (u3 : Int32 × Int32 × Int32) => o2.2) ?_ ?_
    · intro e4
      refine z_iload_n hX 0 rfl rfl dX9_spread_82 ?_
      refine z_iload_n hX 1 rfl rfl dX9_spread_83 ?_
      refine z_isub hX dX9_spread_84 ?_
      exact z_iretM hX dX9_spread_85 (Nat.le_of_ble_eq_true rfl) (Nat.le_of_ble_eq_true rfl)
    · intro kk5 rc6 hkk5 hrc6 u3
      unfold bd_X9_spread_23
      refine z_iload hX 3 rfl dX9_spread_23 ?_
      refine z_aload_n hX 0 rfl rfl dX9_spread_25 ?_
      refine z_gFI 9 7 hX (by decide) rfl (by decide) rfl q_1318 dX9_spread_26 (fun x7 => ?_)
      refine z_icmp_ge hX 82 (by decide) dX9_spread_29 (fun _ => ?_) (fun _ => ?_)
      · refine z_sub [1, 2] rfl ?_
        exact hkk5 (u3.1, u3.2.1, u3.2.2)
      · refine z_aload_n hX 0 rfl rfl dX9_spread_32 ?_
        refine z_iload hX 3 rfl dX9_spread_33 ?_
        refine z_cVIp 9 [.int u3.2.2] hX (fun l hl o ho => c_X9_joyOf l hl o2.2 v0 u3.2.2 o ho) dX9_spread_35 (by decide) rfl rfl q_1808 okV_X9_joyOf rfl ⟨(Nat.le_of_ble_eq_true rfl), (Nat.le_of_ble_eq_true rfl)⟩ rfl (Nat.le_of_ble_eq_true rfl) rfl rfl ⟨(Nat.le_of_ble_eq_true rfl), (Nat.le_of_ble_eq_true rfl)⟩ (fun o8 => ?_)
        refine z_istore hX [(5, .int o8), (0, .ref v0), (2, .int u3.1), (3, .int u3.2.1), (4, .int u3.2.2)] (by decide) rfl dX9_spread_38 ?_
        refine z_iload hX 4 rfl dX9_spread_40 ?_
        refine z_jn (C' := 0) (S' := 0) 57 (fun (j9 : Int32) => [(0, .ref v0), (3, .int u3.2.1), (4, .int u3.2.2), (5, .int o8)]) (fun (j9 : Int32) => [.int j9]) (fun (j9 : Int32) => o2.2) (fun j9 => ?_) (fun kj9 => ?_)
        · refine z_istore_n hX [(2, .int j9), (0, .ref v0), (3, .int u3.2.1), (4, .int u3.2.2), (5, .int o8)] rfl (by decide) rfl dX9_spread_57 ?_
          refine z_iload hX 3 rfl dX9_spread_58 ?_
          refine z_jn (C' := 0) (S' := 0) 75 (fun (j10 : Int32) => [(0, .ref v0), (2, .int j9), (4, .int u3.2.2)]) (fun (j10 : Int32) => [.int j10]) (fun (j10 : Int32) => o2.2) (fun j10 => ?_) (fun kj10 => ?_)
          · refine z_istore_n hX [(3, .int j10), (0, .ref v0), (2, .int j9), (4, .int u3.2.2)] rfl (by decide) rfl dX9_spread_75 ?_
            refine z_iinc hX 3 [(4, .int (u3.2.2 + 1)), (3, .int j10), (0, .ref v0), (2, .int j9)] rfl rfl (by decide) rfl dX9_spread_76 ?_
            refine z_goto hX 23 (by decide) dX9_spread_79 ?_
            refine z_sub [2, 3, 1, 0] rfl ?_
            exact hrc6 (j9, j10, u3.2.2 + 1)
          · refine z_iteB ?_
            refine z_if_eq hX 69 (by decide) dX9_spread_60 (fun _ => ?_) (fun _ => ?_)
            · refine z_iload hX 4 rfl dX9_spread_69 ?_
              refine z_goto hX 75 (by decide) dX9_spread_71 ?_
              refine z_pure ?_
              refine z_sub [1, 0, 3] rfl ?_
              exact kj10 o8
            · refine z_iload hX 4 rfl dX9_spread_63 ?_
              refine z_iload_n hX 2 rfl rfl dX9_spread_65 ?_
              refine z_iteB ?_
              refine z_icmp_ge hX 74 (by decide) dX9_spread_66 (fun _ => ?_) (fun _ => ?_)
              · refine z_iload_n hX 2 rfl rfl dX9_spread_74 ?_
                refine z_pure ?_
                refine z_sub [1, 0, 3] rfl ?_
                exact kj10 u3.2.1
              · refine z_iload hX 4 rfl dX9_spread_69 ?_
                refine z_goto hX 75 (by decide) dX9_spread_71 ?_
                refine z_pure ?_
                refine z_sub [1, 0, 3] rfl ?_
                exact kj10 o8
        · refine z_iteB ?_
          refine z_if_eq hX 51 (by decide) dX9_spread_42 (fun _ => ?_) (fun _ => ?_)
          · refine z_iload hX 0 rfl dX9_spread_51 ?_
            refine z_goto hX 57 (by decide) dX9_spread_53 ?_
            refine z_pure ?_
            refine z_sub [1, 3, 4, 0] rfl ?_
            exact kj9 o8
          · refine z_iload hX 0 rfl dX9_spread_45 ?_
            refine z_iload_n hX 2 rfl rfl dX9_spread_47 ?_
            refine z_iteB ?_
            refine z_icmp_le hX 56 (by decide) dX9_spread_48 (fun _ => ?_) (fun _ => ?_)
            · refine z_iload_n hX 2 rfl rfl dX9_spread_56 ?_
              refine z_pure ?_
              refine z_sub [1, 3, 4, 0] rfl ?_
              exact kj9 u3.1
            · refine z_iload hX 0 rfl dX9_spread_51 ?_
              refine z_goto hX 57 (by decide) dX9_spread_53 ?_
              refine z_pure ?_
              refine z_sub [1, 3, 4, 0] rfl ?_
              exact kj9 o8
  · refine z_bipush (v := (-2)) hX (by decide) dX9_spread_13 ?_
    exact z_iretM hX dX9_spread_15 (Nat.le_of_ble_eq_true rfl) (Nat.le_of_ble_eq_true rfl)
theorem c_X9_spread (l : Launch) (hl : l.stackTraces = false) (M : Mem) (v0 : Nat) (v1 : Int32) (o : Int32 × Mem) (ho : f_X9_spread M v0 v1 = some o) : Ct l yX9_spread cX9_spread 6 (some .int) rm_X9_spread [.ref v0, .int v1] M (some (.int o.1)) o.2 :=
  Ct.of hl (by decide +kernel) (Nat.le_of_ble_eq_true rfl) rfl (fun X hX hin => z_X9_spread hX M v0 v1 o ho)
theorem okV_X9_spread : okV yX9_spread cX9_spread 6 (some .int) 1 := ⟨q_1861, q_1862, q_96, q_1863, by unfold okY; decide +kernel⟩
/-! ParticipatoryBudgetModel.loss(I)J -/
abbrev rm_X9_loss : Room := { frames := 9, cells := 0, slots := 0, locals := 207 }
set_option maxRecDepth 20000 in
set_option maxHeartbeats 4000000 in
theorem z_X9_loss {X : Cxt} (hX : okX X cX9_loss RX9 rm_X9_loss (some .long) 3) (M : Mem) (v0 : Nat) (v1 : Int32) : Zj X (fun o : Int64 × Mem => Qr X rm_X9_loss.cells rm_X9_loss.slots (some (.long o.1)) o.2) 0 0 0 [(0, .ref v0), (1, .int v1)] [] M (f_X9_loss M v0 v1) := by
  unfold f_X9_loss
  refine z_aload_n hX 0 rfl rfl dX9_loss_0 ?_
  refine z_iconst (v := 0) hX (by decide) dX9_loss_1 ?_
  refine z_pFI 9 4 hX (by decide) rfl (by decide) rfl q_1315 rfl pd_1 rfl rfl dX9_loss_2 (fun M1 => ?_)
  refine z_aload_n hX 0 rfl rfl dX9_loss_5 ?_
  refine z_iload_n hX 1 rfl rfl dX9_loss_6 ?_
  refine z_cVIm 9 [.int v1] hX (fun l hl o ho => c_X9_setOf l hl M1 v0 v1 o ho) dX9_loss_7 (by decide) rfl rfl q_1856 okV_X9_setOf rfl ⟨(Nat.le_of_ble_eq_true rfl), (Nat.le_of_ble_eq_true rfl)⟩ rfl (Nat.le_of_ble_eq_true rfl) rfl rfl ⟨(Nat.le_of_ble_eq_true rfl), (Nat.le_of_ble_eq_true rfl)⟩ (fun o2 => ?_)
  refine z_istore_n hX [(2, .int o2.1), (0, .ref v0), (1, .int v1)] rfl (by decide) rfl dX9_loss_10 ?_
  refine z_iload_n hX 0 rfl rfl dX9_loss_11 ?_
  refine z_if_ge hX 19 (by decide) dX9_loss_12 (fun _ => ?_) (fun _ => ?_)
  · refine z_aload_n hX 1 rfl rfl dX9_loss_19 ?_
    refine z_cVVm 9 [] hX (fun l hl o ho => c_X9_best l hl o2.2 v0 o ho) dX9_loss_20 (by decide) rfl rfl q_1727 okV_X9_best rfl ⟨(Nat.le_of_ble_eq_true rfl), (Nat.le_of_ble_eq_true rfl)⟩ rfl (Nat.le_of_ble_eq_true rfl) rfl rfl ⟨(Nat.le_of_ble_eq_true rfl), (Nat.le_of_ble_eq_true rfl)⟩ (fun o3 => ?_)
    refine z_aload_n hX 1 rfl rfl dX9_loss_23 ?_
    refine z_aload_n hX 1 rfl rfl dX9_loss_24 ?_
    refine z_gFI 9 30 hX (by decide) rfl (by decide) rfl q_1341 dX9_loss_25 (fun x4 => ?_)
    refine z_cVJp 9 [.int x4] hX (fun l hl o ho => c_X9_gainOf l hl o3 v0 x4 o ho) dX9_loss_28 (by decide) rfl rfl q_1739 okV_X9_gainOf rfl ⟨(Nat.le_of_ble_eq_true rfl), (Nat.le_of_ble_eq_true rfl)⟩ rfl (Nat.le_of_ble_eq_true rfl) rfl rfl ⟨(Nat.le_of_ble_eq_true rfl), (Nat.le_of_ble_eq_true rfl)⟩ (fun o5 => ?_)
    refine z_aload_n hX 1 rfl rfl dX9_loss_31 ?_
    refine z_iload_n hX 0 rfl rfl dX9_loss_32 ?_
    refine z_cVJp 9 [.int o2.1] hX (fun l hl o ho => c_X9_gainOf l hl o3 v0 o2.1 o ho) dX9_loss_33 (by decide) rfl rfl q_1739 okV_X9_gainOf rfl ⟨(Nat.le_of_ble_eq_true rfl), (Nat.le_of_ble_eq_true rfl)⟩ rfl (Nat.le_of_ble_eq_true rfl) rfl rfl ⟨(Nat.le_of_ble_eq_true rfl), (Nat.le_of_ble_eq_true rfl)⟩ (fun o6 => ?_)
    refine z_lsub hX dX9_loss_36 ?_
    exact z_lretM hX dX9_loss_37 (Nat.le_of_ble_eq_true rfl) (Nat.le_of_ble_eq_true rfl)
  · refine z_ldc2 (v := (-2)) hX q_1803 dX9_loss_15 ?_
    exact z_lretM hX dX9_loss_18 (Nat.le_of_ble_eq_true rfl) (Nat.le_of_ble_eq_true rfl)
theorem c_X9_loss (l : Launch) (hl : l.stackTraces = false) (M : Mem) (v0 : Nat) (v1 : Int32) (o : Int64 × Mem) (ho : f_X9_loss M v0 v1 = some o) : Ct l yX9_loss cX9_loss 3 (some .long) rm_X9_loss [.ref v0, .int v1] M (some (.long o.1)) o.2 :=
  Ct.of hl (by decide +kernel) (Nat.le_of_ble_eq_true rfl) rfl (fun X hX hin => z_X9_loss hX M v0 v1 o ho)
theorem okV_X9_loss : okV yX9_loss cX9_loss 3 (some .long) 1 := ⟨q_1865, q_1866, q_96, q_1867, by unfold okY; decide +kernel⟩
/-! ParticipatoryBudgetModel.bestWithout(I)J -/
abbrev rm_X9_bestWithout : Room := { frames := 4, cells := 0, slots := 0, locals := 87 }
set_option maxRecDepth 20000 in
set_option maxHeartbeats 4000000 in
theorem z_X9_bestWithout {X : Cxt} (hX : okX X cX9_bestWithout RX9 rm_X9_bestWithout (some .long) 5) (M : Mem) (v0 : Nat) (v1 : Int32) : Zj X (fun o : Int64 × Mem => Qr X rm_X9_bestWithout.cells rm_X9_bestWithout.slots (some (.long o.1)) o.2) 0 0 0 [(0, .ref v0), (1, .int v1)] [] M (f_X9_bestWithout M v0 v1) := by
  unfold f_X9_bestWithout
  refine z_aload_n hX 0 rfl rfl dX9_bestWithout_0 ?_
  refine z_aload_n hX 0 rfl rfl dX9_bestWithout_1 ?_
  refine z_iload_n hX 1 rfl rfl dX9_bestWithout_2 ?_
  refine z_cVIp 9 [.int v1] hX (fun l hl o ho => c_X9_isProject l hl M v0 v1 o ho) dX9_bestWithout_3 (by decide) rfl rfl q_1595 okV_X9_isProject rfl ⟨(Nat.le_of_ble_eq_true rfl), (Nat.le_of_ble_eq_true rfl)⟩ rfl (Nat.le_of_ble_eq_true rfl) rfl rfl ⟨(Nat.le_of_ble_eq_true rfl), (Nat.le_of_ble_eq_true rfl)⟩ (fun o1 => ?_)
  refine z_cVIm 9 [.int o1] hX (fun l hl o ho => c_X9_fails l hl M v0 o1 o ho) dX9_bestWithout_6 (by decide) rfl rfl q_1587 okV_X9_fails rfl ⟨(Nat.le_of_ble_eq_true rfl), (Nat.le_of_ble_eq_true rfl)⟩ rfl (Nat.le_of_ble_eq_true rfl) rfl rfl ⟨(Nat.le_of_ble_eq_true rfl), (Nat.le_of_ble_eq_true rfl)⟩ (fun o2 => ?_)
  refine z_if_eq hX 14 (by decide) dX9_bestWithout_9 (fun _ => ?_) (fun _ => ?_)
  · refine z_aload_n hX 0 rfl rfl dX9_bestWithout_14 ?_
    refine z_cVVm 9 [] hX (fun l hl o ho => c_X9_layGains l hl o2.2 v0 o ho) dX9_bestWithout_15 (by decide) rfl rfl q_1731 okV_X9_layGains rfl ⟨(Nat.le_of_ble_eq_true rfl), (Nat.le_of_ble_eq_true rfl)⟩ rfl (Nat.le_of_ble_eq_true rfl) rfl rfl ⟨(Nat.le_of_ble_eq_true rfl), (Nat.le_of_ble_eq_true rfl)⟩ (fun o3 => ?_)
    refine z_lconst (v := 0) hX (by decide) dX9_bestWithout_18 ?_
    refine z_lstore_n hX [(2, .long 0), (0, .ref v0), (1, .int v1)] rfl (by decide) rfl dX9_bestWithout_19 ?_
    refine z_iconst (v := 0) hX (by decide) dX9_bestWithout_20 ?_
    refine z_istore hX [(4, .int 0), (2, .long 0), (0, .ref v0), (1, .int v1)] (by decide) rfl dX9_bestWithout_21 ?_
    refine z_sub [2, 3, 1, 0] rfl ?_
    refine z_lp (x0 := (0, 0)) (bd_X9_bestWithout_23 v0 v1 o3) 23 79 (fun (u4 : Int64 × Int32) => [(0, .ref v0), (1, .int v1), (2, .long u4.1), (4, .int u4.2)]) (fun (e5 : Int64 × Int32) => [(2, .long e5.1)]) (fun (u4 : Int64 × Int32) => o3) ?_ ?_
    · intro e5
      refine z_lload_n hX 0 rfl rfl dX9_bestWithout_79 ?_
      exact z_lretM hX dX9_bestWithout_80 (Nat.le_of_ble_eq_true rfl) (Nat.le_of_ble_eq_true rfl)
    · intro kk6 rc7 hkk6 hrc7 u4
      unfold bd_X9_bestWithout_23
      refine z_iload hX 3 rfl dX9_bestWithout_23 ?_
      refine z_iconst (v := 1) hX (by decide) dX9_bestWithout_25 ?_
      refine z_aload_n hX 0 rfl rfl dX9_bestWithout_26 ?_
      refine z_gFI 9 6 hX (by decide) rfl (by decide) rfl q_1317 dX9_bestWithout_27 (fun x8 => ?_)
      refine z_ishl hX dX9_bestWithout_30 ?_
      refine z_icmp_ge hX 79 (by decide) dX9_bestWithout_31 (fun _ => ?_) (fun _ => ?_)
      · refine z_sub [2] rfl ?_
        exact hkk6 (u4.1, u4.2)
      · refine z_iload hX 3 rfl dX9_bestWithout_34 ?_
        refine z_iload_n hX 1 rfl rfl dX9_bestWithout_36 ?_
        refine z_cSIp [.int u4.2, .int v1] hX (fun l hl o ho => c_X9_has l hl o3 u4.2 v1 o ho) dX9_bestWithout_37 q_1537 okS_X9_has rfl ⟨(Nat.le_of_ble_eq_true rfl), (Nat.le_of_ble_eq_true rfl)⟩ rfl (Nat.le_of_ble_eq_true rfl) rfl rfl ⟨(Nat.le_of_ble_eq_true rfl), (Nat.le_of_ble_eq_true rfl)⟩ (fun o9 => ?_)
        refine z_jn (C' := 0) (S' := 0) 73 (fun (j10 : Int64) => [(0, .ref v0), (1, .int v1), (2, .long j10), (4, .int u4.2)]) (fun (j10 : Int64) => []) (fun (j10 : Int64) => o3) (fun j10 => ?_) (fun kj10 => ?_)
        · refine z_iinc hX 3 [(4, .int (u4.2 + 1)), (0, .ref v0), (1, .int v1), (2, .long j10)] rfl rfl (by decide) rfl dX9_bestWithout_73 ?_
          refine z_goto hX 23 (by decide) dX9_bestWithout_76 ?_
          refine z_sub [1, 2, 3, 0] rfl ?_
          exact hrc7 (j10, u4.2 + 1)
        · refine z_iteB ?_
          refine z_if_ne hX 73 (by decide) dX9_bestWithout_40 (fun _ => ?_) (fun _ => ?_)
          · refine z_pure ?_
            refine z_sub [0, 1, 2, 3] rfl ?_
            exact kj10 u4.1
          · refine z_aload_n hX 0 rfl rfl dX9_bestWithout_43 ?_
            refine z_iload hX 3 rfl dX9_bestWithout_44 ?_
            refine z_asc ?_
            refine z_asc2 ?_
            refine z_cVJp 9 [.int u4.2] hX (fun l hl o ho => c_X9_gainOf l hl o3 v0 u4.2 o ho) dX9_bestWithout_46 (by decide) rfl rfl q_1739 okV_X9_gainOf rfl ⟨(Nat.le_of_ble_eq_true rfl), (Nat.le_of_ble_eq_true rfl)⟩ rfl (Nat.le_of_ble_eq_true rfl) rfl rfl ⟨(Nat.le_of_ble_eq_true rfl), (Nat.le_of_ble_eq_true rfl)⟩ (fun o11 => ?_)
            refine z_lload_n hX 2 rfl rfl dX9_bestWithout_49 ?_
            refine z_lcmp hX dX9_bestWithout_50 ?_
            refine z_iteB ?_
            refine z_if_le hX 73 (by decide) dX9_bestWithout_51 (fun _ => ?_) (fun _ => ?_)
            · refine z_pure ?_
              refine z_sub [0, 1, 2, 3] rfl ?_
              exact kj10 u4.1
            · refine z_aload_n hX 0 rfl rfl dX9_bestWithout_54 ?_
              refine z_iload hX 3 rfl dX9_bestWithout_55 ?_
              refine z_asc ?_
              refine z_asc2 ?_
              refine z_cVIp 9 [.int u4.2] hX (fun l hl o ho => c_X9_isPayable l hl o3 v0 u4.2 o ho) dX9_bestWithout_57 (by decide) rfl rfl q_1747 okV_X9_isPayable rfl ⟨(Nat.le_of_ble_eq_true rfl), (Nat.le_of_ble_eq_true rfl)⟩ rfl (Nat.le_of_ble_eq_true rfl) rfl rfl ⟨(Nat.le_of_ble_eq_true rfl), (Nat.le_of_ble_eq_true rfl)⟩ (fun o12 => ?_)
              refine z_iteB ?_
              refine z_if_ne hX 66 (by decide) dX9_bestWithout_60 (fun _ => ?_) (fun _ => ?_)
              · refine z_aload_n hX 0 rfl rfl dX9_bestWithout_66 ?_
                refine z_iload hX 3 rfl dX9_bestWithout_67 ?_
                refine z_asc ?_
                refine z_asc2 ?_
                refine z_cVJp 9 [.int u4.2] hX (fun l hl o ho => c_X9_gainOf l hl o3 v0 u4.2 o ho) dX9_bestWithout_69 (by decide) rfl rfl q_1739 okV_X9_gainOf rfl ⟨(Nat.le_of_ble_eq_true rfl), (Nat.le_of_ble_eq_true rfl)⟩ rfl (Nat.le_of_ble_eq_true rfl) rfl rfl ⟨(Nat.le_of_ble_eq_true rfl), (Nat.le_of_ble_eq_true rfl)⟩ (fun o13 => ?_)
                refine z_lstore_n hX [(2, .long o13), (0, .ref v0), (1, .int v1), (4, .int u4.2)] rfl (by decide) rfl dX9_bestWithout_72 ?_
                refine z_pure ?_
                refine z_sub [1, 2, 0, 3] rfl ?_
                exact kj10 o13
              · refine z_goto hX 73 (by decide) dX9_bestWithout_63 ?_
                refine z_pure ?_
                refine z_sub [0, 1, 2, 3] rfl ?_
                exact kj10 u4.1
  · refine z_lconst (v := 0) hX (by decide) dX9_bestWithout_12 ?_
    exact z_lretM hX dX9_bestWithout_13 (Nat.le_of_ble_eq_true rfl) (Nat.le_of_ble_eq_true rfl)
theorem c_X9_bestWithout (l : Launch) (hl : l.stackTraces = false) (M : Mem) (v0 : Nat) (v1 : Int32) (o : Int64 × Mem) (ho : f_X9_bestWithout M v0 v1 = some o) : Ct l yX9_bestWithout cX9_bestWithout 5 (some .long) rm_X9_bestWithout [.ref v0, .int v1] M (some (.long o.1)) o.2 :=
  Ct.of hl (by decide +kernel) (Nat.le_of_ble_eq_true rfl) rfl (fun X hX hin => z_X9_bestWithout hX M v0 v1 o ho)
theorem okV_X9_bestWithout : okV yX9_bestWithout cX9_bestWithout 5 (some .long) 1 := ⟨q_1869, q_1870, q_96, q_1871, by unfold okY; decide +kernel⟩
/-! ParticipatoryBudgetModel.endowment(I)I -/
abbrev rm_X9_endowment : Room := { frames := 2, cells := 0, slots := 0, locals := 45 }
set_option maxRecDepth 20000 in
set_option maxHeartbeats 4000000 in
theorem z_X9_endowment {X : Cxt} (hX : okX X cX9_endowment RX9 rm_X9_endowment (some .int) 4) (M : Mem) (v0 : Nat) (v1 : Int32) : Zj X (fun o : Int32 × Mem => Qr X rm_X9_endowment.cells rm_X9_endowment.slots (some (.int o.1)) o.2) 0 0 0 [(0, .ref v0), (1, .int v1)] [] M (f_X9_endowment M v0 v1) := by
  unfold f_X9_endowment
  refine z_aload_n hX 0 rfl rfl dX9_endowment_0 ?_
  refine z_aload_n hX 0 rfl rfl dX9_endowment_1 ?_
  refine z_iload_n hX 1 rfl rfl dX9_endowment_2 ?_
  refine z_cVIp 9 [.int v1] hX (fun l hl o ho => c_X9_isVoter l hl M v0 v1 o ho) dX9_endowment_3 (by decide) rfl rfl q_1607 okV_X9_isVoter rfl ⟨(Nat.le_of_ble_eq_true rfl), (Nat.le_of_ble_eq_true rfl)⟩ rfl (Nat.le_of_ble_eq_true rfl) rfl rfl ⟨(Nat.le_of_ble_eq_true rfl), (Nat.le_of_ble_eq_true rfl)⟩ (fun o1 => ?_)
  refine z_cVIm 9 [.int o1] hX (fun l hl o ho => c_X9_fails l hl M v0 o1 o ho) dX9_endowment_6 (by decide) rfl rfl q_1587 okV_X9_fails rfl ⟨(Nat.le_of_ble_eq_true rfl), (Nat.le_of_ble_eq_true rfl)⟩ rfl (Nat.le_of_ble_eq_true rfl) rfl rfl ⟨(Nat.le_of_ble_eq_true rfl), (Nat.le_of_ble_eq_true rfl)⟩ (fun o2 => ?_)
  refine z_if_eq hX 14 (by decide) dX9_endowment_9 (fun _ => ?_) (fun _ => ?_)
  · refine z_iconst (v := 0) hX (by decide) dX9_endowment_14 ?_
    refine z_istore_n hX [(2, .int 0), (0, .ref v0), (1, .int v1)] rfl (by decide) rfl dX9_endowment_15 ?_
    refine z_iconst (v := 0) hX (by decide) dX9_endowment_16 ?_
    refine z_istore_n hX [(3, .int 0), (2, .int 0), (0, .ref v0), (1, .int v1)] rfl (by decide) rfl dX9_endowment_17 ?_
    refine z_sub [2, 3, 1, 0] rfl ?_
    refine z_lp (x0 := (0, 0)) (bd_X9_endowment_18 v0 v1 o2) 18 41 (fun (u3 : Int32 × Int32) => [(0, .ref v0), (1, .int v1), (2, .int u3.1), (3, .int u3.2)]) (fun (e4 : Int32 × Int32) => [(2, .int e4.1)]) (fun (u3 : Int32 × Int32) => o2.2) ?_ ?_
    · intro e4
      refine z_iload_n hX 0 rfl rfl dX9_endowment_41 ?_
      exact z_iretM hX dX9_endowment_42 (Nat.le_of_ble_eq_true rfl) (Nat.le_of_ble_eq_true rfl)
    · intro kk5 rc6 hkk5 hrc6 u3
      unfold bd_X9_endowment_18
      refine z_iload_n hX 3 rfl rfl dX9_endowment_18 ?_
      refine z_aload_n hX 0 rfl rfl dX9_endowment_19 ?_
      refine z_gFI 9 5 hX (by decide) rfl (by decide) rfl q_1316 dX9_endowment_20 (fun x7 => ?_)
      refine z_icmp_ge hX 41 (by decide) dX9_endowment_23 (fun _ => ?_) (fun _ => ?_)
      · refine z_sub [2] rfl ?_
        exact hkk5 (u3.1, u3.2)
      · refine z_iload_n hX 2 rfl rfl dX9_endowment_26 ?_
        refine z_aload_n hX 0 rfl rfl dX9_endowment_27 ?_
        refine z_iload_n hX 1 rfl rfl dX9_endowment_28 ?_
        refine z_iload_n hX 3 rfl rfl dX9_endowment_29 ?_
        refine z_cVIp 9 [.int v1, .int u3.2] hX (fun l hl o ho => c_X9_firstHolding l hl o2.2 v0 v1 u3.2 o ho) dX9_endowment_30 (by decide) rfl rfl q_1643 okV_X9_firstHolding rfl ⟨(Nat.le_of_ble_eq_true rfl), (Nat.le_of_ble_eq_true rfl)⟩ rfl (Nat.le_of_ble_eq_true rfl) rfl rfl ⟨(Nat.le_of_ble_eq_true rfl), (Nat.le_of_ble_eq_true rfl)⟩ (fun o8 => ?_)
        refine z_iadd hX dX9_endowment_33 ?_
        refine z_ltI (fun x9 => ?_)
        refine z_istore_n hX [(2, .int x9), (0, .ref v0), (1, .int v1), (3, .int u3.2)] rfl (by decide) rfl dX9_endowment_34 ?_
        refine z_iinc hX 3 [(3, .int (u3.2 + 1)), (2, .int x9), (0, .ref v0), (1, .int v1)] rfl rfl (by decide) rfl dX9_endowment_35 ?_
        refine z_goto hX 18 (by decide) dX9_endowment_38 ?_
        refine z_sub [2, 3, 1, 0] rfl ?_
        exact hrc6 (x9, u3.2 + 1)
  · refine z_iconst (v := 0) hX (by decide) dX9_endowment_12 ?_
    exact z_iretM hX dX9_endowment_13 (Nat.le_of_ble_eq_true rfl) (Nat.le_of_ble_eq_true rfl)
theorem c_X9_endowment (l : Launch) (hl : l.stackTraces = false) (M : Mem) (v0 : Nat) (v1 : Int32) (o : Int32 × Mem) (ho : f_X9_endowment M v0 v1 = some o) : Ct l yX9_endowment cX9_endowment 4 (some .int) rm_X9_endowment [.ref v0, .int v1] M (some (.int o.1)) o.2 :=
  Ct.of hl (by decide +kernel) (Nat.le_of_ble_eq_true rfl) rfl (fun X hX hin => z_X9_endowment hX M v0 v1 o ho)
theorem okV_X9_endowment : okV yX9_endowment cX9_endowment 4 (some .int) 1 := ⟨q_1873, q_1874, q_96, q_1875, by unfold okY; decide +kernel⟩
/-! ParticipatoryBudgetModel.spentBy(I)I -/
abbrev rm_X9_spentBy : Room := { frames := 7, cells := 0, slots := 0, locals := 165 }
set_option maxRecDepth 20000 in
set_option maxHeartbeats 4000000 in
theorem z_X9_spentBy {X : Cxt} (hX : okX X cX9_spentBy RX9 rm_X9_spentBy (some .int) 4) (M : Mem) (v0 : Nat) (v1 : Int32) : Zj X (fun o : Int32 × Mem => Qr X rm_X9_spentBy.cells rm_X9_spentBy.slots (some (.int o.1)) o.2) 0 0 0 [(0, .ref v0), (1, .int v1)] [] M (f_X9_spentBy M v0 v1) := by
  unfold f_X9_spentBy
  refine z_aload_n hX 0 rfl rfl dX9_spentBy_0 ?_
  refine z_aload_n hX 0 rfl rfl dX9_spentBy_1 ?_
  refine z_iload_n hX 1 rfl rfl dX9_spentBy_2 ?_
  refine z_cVIp 9 [.int v1] hX (fun l hl o ho => c_X9_isVoter l hl M v0 v1 o ho) dX9_spentBy_3 (by decide) rfl rfl q_1607 okV_X9_isVoter rfl ⟨(Nat.le_of_ble_eq_true rfl), (Nat.le_of_ble_eq_true rfl)⟩ rfl (Nat.le_of_ble_eq_true rfl) rfl rfl ⟨(Nat.le_of_ble_eq_true rfl), (Nat.le_of_ble_eq_true rfl)⟩ (fun o1 => ?_)
  refine z_cVIm 9 [.int o1] hX (fun l hl o ho => c_X9_fails l hl M v0 o1 o ho) dX9_spentBy_6 (by decide) rfl rfl q_1587 okV_X9_fails rfl ⟨(Nat.le_of_ble_eq_true rfl), (Nat.le_of_ble_eq_true rfl)⟩ rfl (Nat.le_of_ble_eq_true rfl) rfl rfl ⟨(Nat.le_of_ble_eq_true rfl), (Nat.le_of_ble_eq_true rfl)⟩ (fun o2 => ?_)
  refine z_if_eq hX 14 (by decide) dX9_spentBy_9 (fun _ => ?_) (fun _ => ?_)
  · refine z_aload_n hX 0 rfl rfl dX9_spentBy_14 ?_
    refine z_cVVm 9 [] hX (fun l hl o ho => c_X9_equal l hl o2.2 v0 o ho) dX9_spentBy_15 (by decide) rfl rfl q_1683 okV_X9_equal rfl ⟨(Nat.le_of_ble_eq_true rfl), (Nat.le_of_ble_eq_true rfl)⟩ rfl (Nat.le_of_ble_eq_true rfl) rfl rfl ⟨(Nat.le_of_ble_eq_true rfl), (Nat.le_of_ble_eq_true rfl)⟩ (fun o3 => ?_)
    refine z_iconst (v := 0) hX (by decide) dX9_spentBy_18 ?_
    refine z_istore_n hX [(2, .int 0), (0, .ref v0), (1, .int v1)] rfl (by decide) rfl dX9_spentBy_19 ?_
    refine z_iconst (v := 0) hX (by decide) dX9_spentBy_20 ?_
    refine z_istore_n hX [(3, .int 0), (2, .int 0), (0, .ref v0), (1, .int v1)] rfl (by decide) rfl dX9_spentBy_21 ?_
    refine z_sub [2, 3, 1, 0] rfl ?_
    refine z_lp (x0 := (0, 0)) (bd_X9_spentBy_22 v0 v1 o3) 22 50 (fun (u4 : Int32 × Int32) => [(0, .ref v0), (1, .int v1), (2, .int u4.1), (3, .int u4.2)]) (fun (e5 : Int32 × Int32) => [(2, .int e5.1)]) (fun (u4 : Int32 × Int32) => o3) ?_ ?_
    · intro e5
      refine z_iload_n hX 0 rfl rfl dX9_spentBy_50 ?_
      exact z_iretM hX dX9_spentBy_51 (Nat.le_of_ble_eq_true rfl) (Nat.le_of_ble_eq_true rfl)
    · intro kk6 rc7 hkk6 hrc7 u4
      unfold bd_X9_spentBy_22
      refine z_iload_n hX 3 rfl rfl dX9_spentBy_22 ?_
      refine z_aload_n hX 0 rfl rfl dX9_spentBy_23 ?_
      refine z_gFI 9 6 hX (by decide) rfl (by decide) rfl q_1317 dX9_spentBy_24 (fun x8 => ?_)
      refine z_icmp_ge hX 50 (by decide) dX9_spentBy_27 (fun _ => ?_) (fun _ => ?_)
      · refine z_sub [2] rfl ?_
        exact hkk6 (u4.1, u4.2)
      · refine z_iload_n hX 2 rfl rfl dX9_spentBy_30 ?_
        refine z_aload_n hX 0 rfl rfl dX9_spentBy_31 ?_
        refine z_gFR 9 34 hX (by decide) rfl (by decide) rfl q_1345 dX9_spentBy_32 (fun r9 => ?_)
        refine z_bipush (v := 24) hX (by decide) dX9_spentBy_35 ?_
        refine z_iload_n hX 3 rfl rfl dX9_spentBy_37 ?_
        refine z_imul hX dX9_spentBy_38 ?_
        refine z_iload_n hX 1 rfl rfl dX9_spentBy_39 ?_
        refine z_iadd hX dX9_spentBy_40 ?_
        refine z_aI hX dX9_spentBy_41 (fun x10 => ?_)
        refine z_iadd hX dX9_spentBy_42 ?_
        refine z_ltI (fun x11 => ?_)
        refine z_istore_n hX [(2, .int x11), (0, .ref v0), (1, .int v1), (3, .int u4.2)] rfl (by decide) rfl dX9_spentBy_43 ?_
        refine z_iinc hX 3 [(3, .int (u4.2 + 1)), (2, .int x11), (0, .ref v0), (1, .int v1)] rfl rfl (by decide) rfl dX9_spentBy_44 ?_
        refine z_goto hX 22 (by decide) dX9_spentBy_47 ?_
        refine z_sub [2, 3, 1, 0] rfl ?_
        exact hrc7 (x11, u4.2 + 1)
  · refine z_iconst (v := 0) hX (by decide) dX9_spentBy_12 ?_
    exact z_iretM hX dX9_spentBy_13 (Nat.le_of_ble_eq_true rfl) (Nat.le_of_ble_eq_true rfl)
theorem c_X9_spentBy (l : Launch) (hl : l.stackTraces = false) (M : Mem) (v0 : Nat) (v1 : Int32) (o : Int32 × Mem) (ho : f_X9_spentBy M v0 v1 = some o) : Ct l yX9_spentBy cX9_spentBy 4 (some .int) rm_X9_spentBy [.ref v0, .int v1] M (some (.int o.1)) o.2 :=
  Ct.of hl (by decide +kernel) (Nat.le_of_ble_eq_true rfl) rfl (fun X hX hin => z_X9_spentBy hX M v0 v1 o ho)
theorem okV_X9_spentBy : okV yX9_spentBy cX9_spentBy 4 (some .int) 1 := ⟨q_1877, q_1878, q_96, q_1879, by unfold okY; decide +kernel⟩
/-! ParticipatoryBudgetModel.payers(I)I -/
abbrev rm_X9_payers : Room := { frames := 7, cells := 0, slots := 0, locals := 165 }
set_option maxRecDepth 20000 in
set_option maxHeartbeats 4000000 in
theorem z_X9_payers {X : Cxt} (hX : okX X cX9_payers RX9 rm_X9_payers (some .int) 4) (M : Mem) (v0 : Nat) (v1 : Int32) : Zj X (fun o : Int32 × Mem => Qr X rm_X9_payers.cells rm_X9_payers.slots (some (.int o.1)) o.2) 0 0 0 [(0, .ref v0), (1, .int v1)] [] M (f_X9_payers M v0 v1) := by
  unfold f_X9_payers
  refine z_aload_n hX 0 rfl rfl dX9_payers_0 ?_
  refine z_aload_n hX 0 rfl rfl dX9_payers_1 ?_
  refine z_iload_n hX 1 rfl rfl dX9_payers_2 ?_
  refine z_cVIp 9 [.int v1] hX (fun l hl o ho => c_X9_isProject l hl M v0 v1 o ho) dX9_payers_3 (by decide) rfl rfl q_1595 okV_X9_isProject rfl ⟨(Nat.le_of_ble_eq_true rfl), (Nat.le_of_ble_eq_true rfl)⟩ rfl (Nat.le_of_ble_eq_true rfl) rfl rfl ⟨(Nat.le_of_ble_eq_true rfl), (Nat.le_of_ble_eq_true rfl)⟩ (fun o1 => ?_)
  refine z_cVIm 9 [.int o1] hX (fun l hl o ho => c_X9_fails l hl M v0 o1 o ho) dX9_payers_6 (by decide) rfl rfl q_1587 okV_X9_fails rfl ⟨(Nat.le_of_ble_eq_true rfl), (Nat.le_of_ble_eq_true rfl)⟩ rfl (Nat.le_of_ble_eq_true rfl) rfl rfl ⟨(Nat.le_of_ble_eq_true rfl), (Nat.le_of_ble_eq_true rfl)⟩ (fun o2 => ?_)
  refine z_if_eq hX 14 (by decide) dX9_payers_9 (fun _ => ?_) (fun _ => ?_)
  · refine z_aload_n hX 0 rfl rfl dX9_payers_14 ?_
    refine z_cVVm 9 [] hX (fun l hl o ho => c_X9_equal l hl o2.2 v0 o ho) dX9_payers_15 (by decide) rfl rfl q_1683 okV_X9_equal rfl ⟨(Nat.le_of_ble_eq_true rfl), (Nat.le_of_ble_eq_true rfl)⟩ rfl (Nat.le_of_ble_eq_true rfl) rfl rfl ⟨(Nat.le_of_ble_eq_true rfl), (Nat.le_of_ble_eq_true rfl)⟩ (fun o3 => ?_)
    refine z_iconst (v := 0) hX (by decide) dX9_payers_18 ?_
    refine z_istore_n hX [(2, .int 0), (0, .ref v0), (1, .int v1)] rfl (by decide) rfl dX9_payers_19 ?_
    refine z_iconst (v := 0) hX (by decide) dX9_payers_20 ?_
    refine z_istore_n hX [(3, .int 0), (2, .int 0), (0, .ref v0), (1, .int v1)] rfl (by decide) rfl dX9_payers_21 ?_
    refine z_sub [2, 3, 1, 0] rfl ?_
    refine z_lp (x0 := (0, 0)) (bd_X9_payers_22 v0 v1 o3) 22 60 (fun (u4 : Int32 × Int32) => [(0, .ref v0), (1, .int v1), (2, .int u4.1), (3, .int u4.2)]) (fun (e5 : Int32 × Int32) => [(2, .int e5.1)]) (fun (u4 : Int32 × Int32) => o3) ?_ ?_
    · intro e5
      refine z_iload_n hX 0 rfl rfl dX9_payers_60 ?_
      exact z_iretM hX dX9_payers_61 (Nat.le_of_ble_eq_true rfl) (Nat.le_of_ble_eq_true rfl)
    · intro kk6 rc7 hkk6 hrc7 u4
      unfold bd_X9_payers_22
      refine z_iload_n hX 3 rfl rfl dX9_payers_22 ?_
      refine z_aload_n hX 0 rfl rfl dX9_payers_23 ?_
      refine z_gFI 9 7 hX (by decide) rfl (by decide) rfl q_1318 dX9_payers_24 (fun x8 => ?_)
      refine z_icmp_ge hX 60 (by decide) dX9_payers_27 (fun _ => ?_) (fun _ => ?_)
      · refine z_sub [2] rfl ?_
        exact hkk6 (u4.1, u4.2)
      · refine z_iload_n hX 2 rfl rfl dX9_payers_30 ?_
        refine z_aload_n hX 0 rfl rfl dX9_payers_31 ?_
        refine z_gFR 9 34 hX (by decide) rfl (by decide) rfl q_1345 dX9_payers_32 (fun r9 => ?_)
        refine z_bipush (v := 24) hX (by decide) dX9_payers_35 ?_
        refine z_iload_n hX 1 rfl rfl dX9_payers_37 ?_
        refine z_imul hX dX9_payers_38 ?_
        refine z_iload_n hX 3 rfl rfl dX9_payers_39 ?_
        refine z_iadd hX dX9_payers_40 ?_
        refine z_aI hX dX9_payers_41 (fun x10 => ?_)
        refine z_jn (C' := 0) (S' := 0) 52 (fun (j11 : Int32) => [(0, .ref v0), (1, .int v1), (3, .int u4.2)]) (fun (j11 : Int32) => [.int j11, .int u4.1]) (fun (j11 : Int32) => o3) (fun j11 => ?_) (fun kj11 => ?_)
        · refine z_ior hX dX9_payers_52 ?_
          refine z_ltI (fun x12 => ?_)
          refine z_istore_n hX [(2, .int x12), (0, .ref v0), (1, .int v1), (3, .int u4.2)] rfl (by decide) rfl dX9_payers_53 ?_
          refine z_iinc hX 3 [(3, .int (u4.2 + 1)), (2, .int x12), (0, .ref v0), (1, .int v1)] rfl rfl (by decide) rfl dX9_payers_54 ?_
          refine z_goto hX 22 (by decide) dX9_payers_57 ?_
          refine z_sub [2, 3, 1, 0] rfl ?_
          exact hrc7 (x12, u4.2 + 1)
        · refine z_iteB ?_
          refine z_if_le hX 51 (by decide) dX9_payers_42 (fun _ => ?_) (fun _ => ?_)
          · refine z_iconst (v := 0) hX (by decide) dX9_payers_51 ?_
            refine z_pure ?_
            refine z_sub [0, 1, 3] rfl ?_
            exact kj11 0
          · refine z_iconst (v := 1) hX (by decide) dX9_payers_45 ?_
            refine z_iload_n hX 3 rfl rfl dX9_payers_46 ?_
            refine z_ishl hX dX9_payers_47 ?_
            refine z_goto hX 52 (by decide) dX9_payers_48 ?_
            refine z_pure ?_
            refine z_sub [0, 1, 3] rfl ?_
            exact kj11 ((1 : Int32) <<< (u4.2 &&& 31))
  · refine z_iconst (v := 0) hX (by decide) dX9_payers_12 ?_
    exact z_iretM hX dX9_payers_13 (Nat.le_of_ble_eq_true rfl) (Nat.le_of_ble_eq_true rfl)
theorem c_X9_payers (l : Launch) (hl : l.stackTraces = false) (M : Mem) (v0 : Nat) (v1 : Int32) (o : Int32 × Mem) (ho : f_X9_payers M v0 v1 = some o) : Ct l yX9_payers cX9_payers 4 (some .int) rm_X9_payers [.ref v0, .int v1] M (some (.int o.1)) o.2 :=
  Ct.of hl (by decide +kernel) (Nat.le_of_ble_eq_true rfl) rfl (fun X hX hin => z_X9_payers hX M v0 v1 o ho)
theorem okV_X9_payers : okV yX9_payers cX9_payers 4 (some .int) 1 := ⟨q_1881, q_1882, q_96, q_1883, by unfold okY; decide +kernel⟩
