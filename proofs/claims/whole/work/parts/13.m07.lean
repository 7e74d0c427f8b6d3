/-! ParticipatoryBudgetModel.firstHolding(II)I -/
abbrev rm_X9_firstHolding : Room := { frames := 1, cells := 0, slots := 0, locals := 21 }
set_option maxRecDepth 20000 in
set_option maxHeartbeats 4000000 in
theorem z_X9_firstHolding {X : Cxt} (hX : okX X cX9_firstHolding RX9 rm_X9_firstHolding (some .int) 5) (M : Mem) (v0 : Nat) (v1 : Int32) (v2 : Int32) : Zj X (fun o : Int32 => Qr X rm_X9_firstHolding.cells rm_X9_firstHolding.slots (some (.int o)) M) 0 0 0 [(0, .ref v0), (1, .int v1), (2, .int v2)] [] M (f_X9_firstHolding M v0 v1 v2) := by
  unfold f_X9_firstHolding
  refine z_aload_n hX 0 rfl rfl dX9_firstHolding_0 ?_
  refine z_gFR 9 0 hX (by decide) rfl (by decide) rfl q_1311 dX9_firstHolding_1 (fun r1 => ?_)
  refine z_bipush (v := 44) hX (by decide) dX9_firstHolding_4 ?_
  refine z_iload_n hX 1 rfl rfl dX9_firstHolding_6 ?_
  refine z_iadd hX dX9_firstHolding_7 ?_
  refine z_aI hX dX9_firstHolding_8 (fun x2 => ?_)
  refine z_iload_n hX 2 rfl rfl dX9_firstHolding_9 ?_
  refine z_cSIp [.int x2, .int v2] hX (fun l hl o ho => c_X9_has l hl M x2 v2 o ho) dX9_firstHolding_10 q_1537 okS_X9_has rfl ⟨(Nat.le_of_ble_eq_true rfl), (Nat.le_of_ble_eq_true rfl)⟩ rfl (Nat.le_of_ble_eq_true rfl) rfl rfl ⟨(Nat.le_of_ble_eq_true rfl), (Nat.le_of_ble_eq_true rfl)⟩ (fun o3 => ?_)
  refine z_if_ne hX 18 (by decide) dX9_firstHolding_13 (fun _ => ?_) (fun _ => ?_)
  · refine z_iconst (v := 0) hX (by decide) dX9_firstHolding_18 ?_
    refine z_istore_n hX [(3, .int 0), (0, .ref v0), (1, .int v1), (2, .int v2)] rfl (by decide) rfl dX9_firstHolding_19 ?_
    refine z_iconst (v := 0) hX (by decide) dX9_firstHolding_20 ?_
    refine z_istore hX [(4, .int 0), (3, .int 0), (0, .ref v0), (1, .int v1), (2, .int v2)] (by decide) rfl dX9_firstHolding_21 ?_
    refine z_sub [2, 3, 4, 1, 0] rfl ?_
    refine z_lp (x0 := (0, 0)) (bd_X9_firstHolding_23 M v0 v2) 23 72 (fun (u4 : Int32 × Int32) => [(0, .ref v0), (1, .int v1), (2, .int v2), (3, .int u4.1), (4, .int u4.2)]) (fun (e5 : Int32 × Int32) => [(0, .ref v0), (1, .int v1), (2, .int v2), (3, .int e5.1)]) (fun (u4 : Int32 × Int32) => M) ?_ ?_
    · intro e5
      refine z_aload_n hX 0 rfl rfl dX9_firstHolding_72 ?_
      refine z_gFR 9 0 hX (by decide) rfl (by decide) rfl q_1311 dX9_firstHolding_73 (fun r16 => ?_)
      refine z_iconst (v := 4) hX (by decide) dX9_firstHolding_76 ?_
      refine z_iload_n hX 2 rfl rfl dX9_firstHolding_77 ?_
      refine z_iadd hX dX9_firstHolding_78 ?_
      refine z_aI hX dX9_firstHolding_79 (fun x17 => ?_)
      refine z_aload_n hX 0 rfl rfl dX9_firstHolding_80 ?_
      refine z_gFR 9 0 hX (by decide) rfl (by decide) rfl q_1311 dX9_firstHolding_81 (fun r18 => ?_)
      refine z_bipush (v := 20) hX (by decide) dX9_firstHolding_84 ?_
      refine z_iload_n hX 1 rfl rfl dX9_firstHolding_86 ?_
      refine z_iadd hX dX9_firstHolding_87 ?_
      refine z_aI hX dX9_firstHolding_88 (fun x19 => ?_)
      refine z_imul hX dX9_firstHolding_89 ?_
      refine z_iload_n hX 3 rfl rfl dX9_firstHolding_90 ?_
      refine z_idiv hX dX9_firstHolding_91 (fun x20 => ?_)
      exact z_iretP hX dX9_firstHolding_92 (Nat.le_of_ble_eq_true rfl) (Nat.le_of_ble_eq_true rfl)
    · intro kk6 rc7 hkk6 hrc7 u4
      unfold bd_X9_firstHolding_23
      refine z_iload hX 4 rfl dX9_firstHolding_23 ?_
      refine z_aload_n hX 0 rfl rfl dX9_firstHolding_25 ?_
      refine z_gFI 9 7 hX (by decide) rfl (by decide) rfl q_1318 dX9_firstHolding_26 (fun x8 => ?_)
      refine z_icmp_ge hX 72 (by decide) dX9_firstHolding_29 (fun _ => ?_) (fun _ => ?_)
      · refine z_sub [0, 1, 2, 3] rfl ?_
        exact hkk6 (u4.1, u4.2)
      · refine z_iload_n hX 3 rfl rfl dX9_firstHolding_32 ?_
        refine z_aload_n hX 0 rfl rfl dX9_firstHolding_33 ?_
        refine z_gFR 9 0 hX (by decide) rfl (by decide) rfl q_1311 dX9_firstHolding_34 (fun r9 => ?_)
        refine z_bipush (v := 44) hX (by decide) dX9_firstHolding_37 ?_
        refine z_iload hX 4 rfl dX9_firstHolding_39 ?_
        refine z_iadd hX dX9_firstHolding_41 ?_
        refine z_aI hX dX9_firstHolding_42 (fun x10 => ?_)
        refine z_iload_n hX 2 rfl rfl dX9_firstHolding_43 ?_
        refine z_cSIp [.int x10, .int v2] hX (fun l hl o ho => c_X9_has l hl M x10 v2 o ho) dX9_firstHolding_44 q_1537 okS_X9_has rfl ⟨(Nat.le_of_ble_eq_true rfl), (Nat.le_of_ble_eq_true rfl)⟩ rfl (Nat.le_of_ble_eq_true rfl) rfl rfl ⟨(Nat.le_of_ble_eq_true rfl), (Nat.le_of_ble_eq_true rfl)⟩ (fun o11 => ?_)
        refine z_jn (C' := 0) (S' := 0) 64 (fun (j12 : Int32) => [(0, .ref v0), (1, .int v1), (2, .int v2), (4, .int u4.2)]) (fun (j12 : Int32) => [.int j12, .int u4.1]) (fun (j12 : Int32) => M) (fun j12 => ?_) (fun kj12 => ?_)
        · refine z_iadd hX dX9_firstHolding_64 ?_
          refine z_ltI (fun x13 => ?_)
          refine z_istore_n hX [(3, .int x13), (0, .ref v0), (1, .int v1), (2, .int v2), (4, .int u4.2)] rfl (by decide) rfl dX9_firstHolding_65 ?_
          refine z_iinc hX 4 [(4, .int (u4.2 + 1)), (3, .int x13), (0, .ref v0), (1, .int v1), (2, .int v2)] rfl rfl (by decide) rfl dX9_firstHolding_66 ?_
          refine z_goto hX 23 (by decide) dX9_firstHolding_69 ?_
          refine z_sub [2, 3, 4, 1, 0] rfl ?_
          exact hrc7 (x13, u4.2 + 1)
        · refine z_iteB ?_
          refine z_if_eq hX 63 (by decide) dX9_firstHolding_47 (fun _ => ?_) (fun _ => ?_)
          · refine z_iconst (v := 0) hX (by decide) dX9_firstHolding_63 ?_
            refine z_pure ?_
            refine z_sub [0, 1, 2, 4] rfl ?_
            exact kj12 0
          · refine z_aload_n hX 0 rfl rfl dX9_firstHolding_50 ?_
            refine z_asc ?_
            refine z_gFR 9 0 hX (by decide) rfl (by decide) rfl q_1311 dX9_firstHolding_51 (fun r14 => ?_)
            refine z_bipush (v := 20) hX (by decide) dX9_firstHolding_54 ?_
            refine z_iload hX 4 rfl dX9_firstHolding_56 ?_
            refine z_iadd hX dX9_firstHolding_58 ?_
            refine z_asc ?_
            refine z_aI hX dX9_firstHolding_59 (fun x15 => ?_)
            refine z_goto hX 64 (by decide) dX9_firstHolding_60 ?_
            refine z_pure ?_
            refine z_sub [0, 1, 2, 4] rfl ?_
            exact kj12 x15
  · refine z_iconst (v := 0) hX (by decide) dX9_firstHolding_16 ?_
    exact z_iretP hX dX9_firstHolding_17 (Nat.le_of_ble_eq_true rfl) (Nat.le_of_ble_eq_true rfl)
theorem c_X9_firstHolding (l : Launch) (hl : l.stackTraces = false) (M : Mem) (v0 : Nat) (v1 : Int32) (v2 : Int32) (o : Int32) (ho : f_X9_firstHolding M v0 v1 v2 = some o) : Ct l yX9_firstHolding cX9_firstHolding 5 (some .int) rm_X9_firstHolding [.ref v0, .int v1, .int v2] M (some (.int o)) M :=
  Ct.of hl (by decide +kernel) (Nat.le_of_ble_eq_true rfl) rfl (fun X hX hin => z_X9_firstHolding hX M v0 v1 v2 o ho)
theorem okV_X9_firstHolding : okV yX9_firstHolding cX9_firstHolding 5 (some .int) 2 := ⟨q_1645, q_49, q_96, q_1646, by unfold okY; decide +kernel⟩
/-! ParticipatoryBudgetModel.purse(II)I -/
abbrev rm_X9_purse : Room := { frames := 2, cells := 0, slots := 0, locals := 45 }
set_option maxRecDepth 20000 in
set_option maxHeartbeats 4000000 in
theorem z_X9_purse {X : Cxt} (hX : okX X cX9_purse RX9 rm_X9_purse (some .int) 3) (M : Mem) (v0 : Nat) (v1 : Int32) (v2 : Int32) : Zj X (fun o : Int32 × Mem => Qr X rm_X9_purse.cells rm_X9_purse.slots (some (.int o.1)) o.2) 0 0 0 [(0, .ref v0), (1, .int v1), (2, .int v2)] [] M (f_X9_purse M v0 v1 v2) := by
  unfold f_X9_purse
  refine z_aload_n hX 0 rfl rfl dX9_purse_0 ?_
  refine z_aload_n hX 0 rfl rfl dX9_purse_1 ?_
  refine z_iload_n hX 1 rfl rfl dX9_purse_2 ?_
  refine z_cVIp 9 [.int v1] hX (fun l hl o ho => c_X9_isVoter l hl M v0 v1 o ho) dX9_purse_3 (by decide) rfl rfl q_1607 okV_X9_isVoter rfl ⟨(Nat.le_of_ble_eq_true rfl), (Nat.le_of_ble_eq_true rfl)⟩ rfl (Nat.le_of_ble_eq_true rfl) rfl rfl ⟨(Nat.le_of_ble_eq_true rfl), (Nat.le_of_ble_eq_true rfl)⟩ (fun o1 => ?_)
  refine z_jn (C' := 0) (S' := 0) 22 (fun (j2 : Int32) => [(0, .ref v0), (1, .int v1), (2, .int v2)]) (fun (j2 : Int32) => [.int j2, .ref v0]) (fun (j2 : Int32) => M) (fun j2 => ?_) (fun kj2 => ?_)
  · refine z_cVIm 9 [.int j2] hX (fun l hl o ho => c_X9_fails l hl M v0 j2 o ho) dX9_purse_22 (by decide) rfl rfl q_1587 okV_X9_fails rfl ⟨(Nat.le_of_ble_eq_true rfl), (Nat.le_of_ble_eq_true rfl)⟩ rfl (Nat.le_of_ble_eq_true rfl) rfl rfl ⟨(Nat.le_of_ble_eq_true rfl), (Nat.le_of_ble_eq_true rfl)⟩ (fun o3 => ?_)
    refine z_jn (C' := 0) (S' := 0) 38 (fun (j4 : Int32) => []) (fun (j4 : Int32) => [.int j4]) (fun (j4 : Int32) => o3.2) (fun j4 => ?_) (fun kj4 => ?_)
    · exact z_iretM hX dX9_purse_38 (Nat.le_of_ble_eq_true rfl) (Nat.le_of_ble_eq_true rfl)
    · refine z_iteB ?_
      refine z_if_eq hX 32 (by decide) dX9_purse_25 (fun _ => ?_) (fun _ => ?_)
      · refine z_aload_n hX 0 rfl rfl dX9_purse_32 ?_
        refine z_iload_n hX 1 rfl rfl dX9_purse_33 ?_
        refine z_iload_n hX 2 rfl rfl dX9_purse_34 ?_
        refine z_asc ?_
        refine z_asc2 ?_
        refine z_cVIp 9 [.int v1, .int v2] hX (fun l hl o ho => c_X9_firstHolding l hl o3.2 v0 v1 v2 o ho) dX9_purse_35 (by decide) rfl rfl q_1643 okV_X9_firstHolding rfl ⟨(Nat.le_of_ble_eq_true rfl), (Nat.le_of_ble_eq_true rfl)⟩ rfl (Nat.le_of_ble_eq_true rfl) rfl rfl ⟨(Nat.le_of_ble_eq_true rfl), (Nat.le_of_ble_eq_true rfl)⟩ (fun o5 => ?_)
        refine z_pure ?_
        refine z_sub [] rfl ?_
        exact kj4 o5
      · refine z_iconst (v := 0) hX (by decide) dX9_purse_28 ?_
        refine z_goto hX 38 (by decide) dX9_purse_29 ?_
        refine z_pure ?_
        refine z_sub [] rfl ?_
        exact kj4 0
  · refine z_iteB ?_
    refine z_if_eq hX 21 (by decide) dX9_purse_6 (fun _ => ?_) (fun _ => ?_)
    · refine z_iconst (v := 0) hX (by decide) dX9_purse_21 ?_
      refine z_pure ?_
      refine z_sub [0, 1, 2] rfl ?_
      exact kj2 0
    · refine z_aload_n hX 0 rfl rfl dX9_purse_9 ?_
      refine z_iload_n hX 2 rfl rfl dX9_purse_10 ?_
      refine z_asc ?_
      refine z_asc2 ?_
      refine z_cVIp 9 [.int v2] hX (fun l hl o ho => c_X9_isDistrict l hl M v0 v2 o ho) dX9_purse_11 (by decide) rfl rfl q_1583 okV_X9_isDistrict rfl ⟨(Nat.le_of_ble_eq_true rfl), (Nat.le_of_ble_eq_true rfl)⟩ rfl (Nat.le_of_ble_eq_true rfl) rfl rfl ⟨(Nat.le_of_ble_eq_true rfl), (Nat.le_of_ble_eq_true rfl)⟩ (fun o6 => ?_)
      refine z_iteB ?_
      refine z_if_eq hX 21 (by decide) dX9_purse_14 (fun _ => ?_) (fun _ => ?_)
      · refine z_iconst (v := 0) hX (by decide) dX9_purse_21 ?_
        refine z_pure ?_
        refine z_sub [0, 1, 2] rfl ?_
        exact kj2 0
      · refine z_iconst (v := 1) hX (by decide) dX9_purse_17 ?_
        refine z_goto hX 22 (by decide) dX9_purse_18 ?_
        refine z_pure ?_
        refine z_sub [0, 1, 2] rfl ?_
        exact kj2 1
theorem c_X9_purse (l : Launch) (hl : l.stackTraces = false) (M : Mem) (v0 : Nat) (v1 : Int32) (v2 : Int32) (o : Int32 × Mem) (ho : f_X9_purse M v0 v1 v2 = some o) : Ct l yX9_purse cX9_purse 3 (some .int) rm_X9_purse [.ref v0, .int v1, .int v2] M (some (.int o.1)) o.2 :=
  Ct.of hl (by decide +kernel) (Nat.le_of_ble_eq_true rfl) rfl (fun X hX hin => z_X9_purse hX M v0 v1 v2 o ho)
theorem okV_X9_purse : okV yX9_purse cX9_purse 3 (some .int) 2 := ⟨q_1640, q_1641, q_96, q_1642, by unfold okY; decide +kernel⟩
/-! ParticipatoryBudgetModel.fillPurses(I)V -/
abbrev rm_X9_fillPurses : Room := { frames := 2, cells := 0, slots := 0, locals := 45 }
set_option maxRecDepth 20000 in
set_option maxHeartbeats 4000000 in
theorem z_X9_fillPurses {X : Cxt} (hX : okX X cX9_fillPurses RX9 rm_X9_fillPurses (none) 4) (M : Mem) (v0 : Nat) (v1 : Int32) : Zj X (fun o : Mem => Qr X rm_X9_fillPurses.cells rm_X9_fillPurses.slots (none) o) 0 0 0 [(0, .ref v0), (1, .int v1)] [] M (f_X9_fillPurses M v0 v1) := by
  unfold f_X9_fillPurses
  refine z_iconst (v := 0) hX (by decide) dX9_fillPurses_0 ?_
  refine z_istore_n hX [(2, .int 0), (0, .ref v0), (1, .int v1)] rfl (by decide) rfl dX9_fillPurses_1 ?_
  refine z_sub [1, 2, 0] rfl ?_
  refine z_lp (x0 := (0, M)) (bd_X9_fillPurses_2 v0 v1) 2 70 (fun (u1 : Int32 × Mem) => [(0, .ref v0), (1, .int v1), (2, .int u1.1)]) (fun (e2 : Int32 × Mem) => []) (fun (u1 : Int32 × Mem) => u1.2) ?_ ?_
  · intro e2
    exact z_vretM hX dX9_fillPurses_70 (Nat.le_of_ble_eq_true rfl) (Nat.le_of_ble_eq_true rfl)
  · intro kk3 rc4 hkk3 hrc4 u1
    unfold bd_X9_fillPurses_2
    refine z_iload_n hX 2 rfl rfl dX9_fillPurses_2 ?_
    refine z_aload_n hX 0 rfl rfl dX9_fillPurses_3 ?_
    refine z_gFI 9 7 hX (by decide) rfl (by decide) rfl q_1318 dX9_fillPurses_4 (fun x5 => ?_)
    refine z_icmp_ge hX 70 (by decide) dX9_fillPurses_7 (fun _ => ?_) (fun _ => ?_)
    · refine z_sub [] rfl ?_
      exact hkk3 (u1.1, u1.2)
    · refine z_iconst (v := 0) hX (by decide) dX9_fillPurses_10 ?_
      refine z_istore_n hX [(3, .int 0), (0, .ref v0), (1, .int v1), (2, .int u1.1)] rfl (by decide) rfl dX9_fillPurses_11 ?_
      refine z_sub [1, 2, 3, 0] rfl ?_
      refine z_lp (x0 := (0, u1.2)) (bd_X9_fillPurses_12 v0 v1 u1) 12 64 (fun (u6 : Int32 × Mem) => [(0, .ref v0), (1, .int v1), (2, .int u1.1), (3, .int u6.1)]) (fun (e7 : Int32 × Mem) => [(0, .ref v0), (1, .int v1), (2, .int u1.1)]) (fun (u6 : Int32 × Mem) => u6.2) ?_ ?_
      · intro e7
        refine z_iinc hX 2 [(2, .int (u1.1 + 1)), (0, .ref v0), (1, .int v1)] rfl rfl (by decide) rfl dX9_fillPurses_64 ?_
        refine z_goto hX 2 (by decide) dX9_fillPurses_67 ?_
        refine z_sub [1, 2, 0] rfl ?_
        exact hrc4 (u1.1 + 1, e7.2)
      · intro kk8 rc9 hkk8 hrc9 u6
        unfold bd_X9_fillPurses_12
        refine z_iload_n hX 3 rfl rfl dX9_fillPurses_12 ?_
        refine z_aload_n hX 0 rfl rfl dX9_fillPurses_13 ?_
        refine z_gFI 9 5 hX (by decide) rfl (by decide) rfl q_1316 dX9_fillPurses_14 (fun x10 => ?_)
        refine z_icmp_ge hX 64 (by decide) dX9_fillPurses_17 (fun _ => ?_) (fun _ => ?_)
        · refine z_sub [0, 1, 2] rfl ?_
          exact hkk8 (u6.1, u6.2)
        · refine z_aload_n hX 0 rfl rfl dX9_fillPurses_20 ?_
          refine z_gFR 9 29 hX (by decide) rfl (by decide) rfl q_1340 dX9_fillPurses_21 (fun r11 => ?_)
          refine z_iconst (v := 4) hX (by decide) dX9_fillPurses_24 ?_
          refine z_iload_n hX 2 rfl rfl dX9_fillPurses_25 ?_
          refine z_imul hX dX9_fillPurses_26 ?_
          refine z_iload_n hX 3 rfl rfl dX9_fillPurses_27 ?_
          refine z_iadd hX dX9_fillPurses_28 ?_
          refine z_aload_n hX 0 rfl rfl dX9_fillPurses_29 ?_
          refine z_gFR 9 0 hX (by decide) rfl (by decide) rfl q_1311 dX9_fillPurses_30 (fun r12 => ?_)
          refine z_bipush (v := 44) hX (by decide) dX9_fillPurses_33 ?_
          refine z_iload_n hX 2 rfl rfl dX9_fillPurses_35 ?_
          refine z_iadd hX dX9_fillPurses_36 ?_
          refine z_aI hX dX9_fillPurses_37 (fun x13 => ?_)
          refine z_iload_n hX 3 rfl rfl dX9_fillPurses_38 ?_
          refine z_cSIp [.int x13, .int u6.1] hX (fun l hl o ho => c_X9_has l hl u6.2 x13 u6.1 o ho) dX9_fillPurses_39 q_1537 okS_X9_has rfl ⟨(Nat.le_of_ble_eq_true rfl), (Nat.le_of_ble_eq_true rfl)⟩ rfl (Nat.le_of_ble_eq_true rfl) rfl rfl ⟨(Nat.le_of_ble_eq_true rfl), (Nat.le_of_ble_eq_true rfl)⟩ (fun o14 => ?_)
          refine z_jn (C' := 0) (S' := 0) 57 (fun (j15 : Int32) => [(0, .ref v0), (1, .int v1), (2, .int u1.1), (3, .int u6.1)]) (fun (j15 : Int32) => [.int j15, .int ((4 * u1.1) + u6.1), .ref r11]) (fun (j15 : Int32) => u6.2) (fun j15 => ?_) (fun kj15 => ?_)
          · refine z_wI hX dX9_fillPurses_57 (fun M16 => ?_)
            refine z_iinc hX 3 [(3, .int (u6.1 + 1)), (0, .ref v0), (1, .int v1), (2, .int u1.1)] rfl rfl (by decide) rfl dX9_fillPurses_58 ?_
            refine z_goto hX 12 (by decide) dX9_fillPurses_61 ?_
            refine z_sub [1, 2, 3, 0] rfl ?_
            exact hrc9 (u6.1 + 1, M16)
          · refine z_iteB ?_
            refine z_if_eq hX 56 (by decide) dX9_fillPurses_42 (fun _ => ?_) (fun _ => ?_)
            · refine z_iconst (v := 0) hX (by decide) dX9_fillPurses_56 ?_
              refine z_pure ?_
              refine z_sub [0, 1, 2, 3] rfl ?_
              exact kj15 0
            · refine z_aload_n hX 0 rfl rfl dX9_fillPurses_45 ?_
              refine z_iload_n hX 2 rfl rfl dX9_fillPurses_46 ?_
              refine z_iload_n hX 3 rfl rfl dX9_fillPurses_47 ?_
              refine z_asc ?_
              refine z_asc2 ?_
              refine z_cVIp 9 [.int u1.1, .int u6.1] hX (fun l hl o ho => c_X9_firstHolding l hl u6.2 v0 u1.1 u6.1 o ho) dX9_fillPurses_48 (by decide) rfl rfl q_1643 okV_X9_firstHolding rfl ⟨(Nat.le_of_ble_eq_true rfl), (Nat.le_of_ble_eq_true rfl)⟩ rfl (Nat.le_of_ble_eq_true rfl) rfl rfl ⟨(Nat.le_of_ble_eq_true rfl), (Nat.le_of_ble_eq_true rfl)⟩ (fun o17 => ?_)
              refine z_iload_n hX 1 rfl rfl dX9_fillPurses_51 ?_
              refine z_iadd hX dX9_fillPurses_52 ?_
              refine z_goto hX 57 (by decide) dX9_fillPurses_53 ?_
              refine z_pure ?_
              refine z_sub [0, 1, 2, 3] rfl ?_
              exact kj15 (o17 + v1)
theorem c_X9_fillPurses (l : Launch) (hl : l.stackTraces = false) (M : Mem) (v0 : Nat) (v1 : Int32) (o : Mem) (ho : f_X9_fillPurses M v0 v1 = some o) : Ct l yX9_fillPurses cX9_fillPurses 4 (none) rm_X9_fillPurses [.ref v0, .int v1] M (none) o :=
  Ct.of hl (by decide +kernel) (Nat.le_of_ble_eq_true rfl) rfl (fun X hX hin => z_X9_fillPurses hX M v0 v1 o ho)
theorem okV_X9_fillPurses : okV yX9_fillPurses cX9_fillPurses 4 (none) 1 := ⟨q_1653, q_50, q_96, q_1654, by unfold okY; decide +kernel⟩
/-! ParticipatoryBudgetModel.meansOf(II)I -/
abbrev rm_X9_meansOf : Room := { frames := 1, cells := 0, slots := 0, locals := 21 }
set_option maxRecDepth 20000 in
set_option maxHeartbeats 4000000 in
theorem z_X9_meansOf {X : Cxt} (hX : okX X cX9_meansOf RX9 rm_X9_meansOf (some .int) 5) (M : Mem) (v0 : Nat) (v1 : Int32) (v2 : Int32) : Zj X (fun o : Int32 => Qr X rm_X9_meansOf.cells rm_X9_meansOf.slots (some (.int o)) M) 0 0 0 [(0, .ref v0), (1, .int v1), (2, .int v2)] [] M (f_X9_meansOf M v0 v1 v2) := by
  unfold f_X9_meansOf
  refine z_iconst (v := 0) hX (by decide) dX9_meansOf_0 ?_
  refine z_istore_n hX [(3, .int 0), (0, .ref v0), (1, .int v1), (2, .int v2)] rfl (by decide) rfl dX9_meansOf_1 ?_
  refine z_iconst (v := 0) hX (by decide) dX9_meansOf_2 ?_
  refine z_istore hX [(4, .int 0), (3, .int 0), (0, .ref v0), (1, .int v1), (2, .int v2)] (by decide) rfl dX9_meansOf_3 ?_
  refine z_sub [2, 3, 4, 1, 0] rfl ?_
  refine z_lp (x0 := (0, 0)) (bd_X9_meansOf_5 M v0 v1 v2) 5 52 (fun (u1 : Int32 × Int32) => [(0, .ref v0), (1, .int v1), (2, .int v2), (3, .int u1.1), (4, .int u1.2)]) (fun (e2 : Int32 × Int32) => [(3, .int e2.1)]) (fun (u1 : Int32 × Int32) => M) ?_ ?_
  · intro e2
    refine z_iload_n hX 0 rfl rfl dX9_meansOf_52 ?_
    exact z_iretP hX dX9_meansOf_53 (Nat.le_of_ble_eq_true rfl) (Nat.le_of_ble_eq_true rfl)
  · intro kk3 rc4 hkk3 hrc4 u1
    unfold bd_X9_meansOf_5
    refine z_iload hX 4 rfl dX9_meansOf_5 ?_
    refine z_aload_n hX 0 rfl rfl dX9_meansOf_7 ?_
    refine z_gFI 9 5 hX (by decide) rfl (by decide) rfl q_1316 dX9_meansOf_8 (fun x5 => ?_)
    refine z_icmp_ge hX 52 (by decide) dX9_meansOf_11 (fun _ => ?_) (fun _ => ?_)
    · refine z_sub [3] rfl ?_
      exact hkk3 (u1.1, u1.2)
    · refine z_iload_n hX 3 rfl rfl dX9_meansOf_14 ?_
      refine z_aload_n hX 0 rfl rfl dX9_meansOf_15 ?_
      refine z_gFR 9 10 hX (by decide) rfl (by decide) rfl q_1321 dX9_meansOf_16 (fun r6 => ?_)
      refine z_iload_n hX 2 rfl rfl dX9_meansOf_19 ?_
      refine z_aI hX dX9_meansOf_20 (fun x7 => ?_)
      refine z_iload hX 4 rfl dX9_meansOf_21 ?_
      refine z_cSIp [.int x7, .int u1.2] hX (fun l hl o ho => c_X9_has l hl M x7 u1.2 o ho) dX9_meansOf_23 q_1537 okS_X9_has rfl ⟨(Nat.le_of_ble_eq_true rfl), (Nat.le_of_ble_eq_true rfl)⟩ rfl (Nat.le_of_ble_eq_true rfl) rfl rfl ⟨(Nat.le_of_ble_eq_true rfl), (Nat.le_of_ble_eq_true rfl)⟩ (fun o8 => ?_)
      refine z_jn (C' := 0) (S' := 0) 44 (fun (j9 : Int32) => [(0, .ref v0), (1, .int v1), (2, .int v2), (4, .int u1.2)]) (fun (j9 : Int32) => [.int j9, .int u1.1]) (fun (j9 : Int32) => M) (fun j9 => ?_) (fun kj9 => ?_)
      · refine z_iadd hX dX9_meansOf_44 ?_
        refine z_ltI (fun x10 => ?_)
        refine z_istore_n hX [(3, .int x10), (0, .ref v0), (1, .int v1), (2, .int v2), (4, .int u1.2)] rfl (by decide) rfl dX9_meansOf_45 ?_
        refine z_iinc hX 4 [(4, .int (u1.2 + 1)), (3, .int x10), (0, .ref v0), (1, .int v1), (2, .int v2)] rfl rfl (by decide) rfl dX9_meansOf_46 ?_
        refine z_goto hX 5 (by decide) dX9_meansOf_49 ?_
        refine z_sub [2, 3, 4, 1, 0] rfl ?_
        exact hrc4 (x10, u1.2 + 1)
      · refine z_iteB ?_
        refine z_if_eq hX 43 (by decide) dX9_meansOf_26 (fun _ => ?_) (fun _ => ?_)
        · refine z_iconst (v := 0) hX (by decide) dX9_meansOf_43 ?_
          refine z_pure ?_
          refine z_sub [0, 1, 2, 4] rfl ?_
          exact kj9 0
        · refine z_aload_n hX 0 rfl rfl dX9_meansOf_29 ?_
          refine z_asc ?_
          refine z_gFR 9 29 hX (by decide) rfl (by decide) rfl q_1340 dX9_meansOf_30 (fun r11 => ?_)
          refine z_iconst (v := 4) hX (by decide) dX9_meansOf_33 ?_
          refine z_iload_n hX 1 rfl rfl dX9_meansOf_34 ?_
          refine z_imul hX dX9_meansOf_35 ?_
          refine z_iload hX 4 rfl dX9_meansOf_36 ?_
          refine z_iadd hX dX9_meansOf_38 ?_
          refine z_asc ?_
          refine z_aI hX dX9_meansOf_39 (fun x12 => ?_)
          refine z_goto hX 44 (by decide) dX9_meansOf_40 ?_
          refine z_pure ?_
          refine z_sub [0, 1, 2, 4] rfl ?_
          exact kj9 x12
theorem c_X9_meansOf (l : Launch) (hl : l.stackTraces = false) (M : Mem) (v0 : Nat) (v1 : Int32) (v2 : Int32) (o : Int32) (ho : f_X9_meansOf M v0 v1 v2 = some o) : Ct l yX9_meansOf cX9_meansOf 5 (some .int) rm_X9_meansOf [.ref v0, .int v1, .int v2] M (some (.int o)) M :=
  Ct.of hl (by decide +kernel) (Nat.le_of_ble_eq_true rfl) rfl (fun X hX hin => z_X9_meansOf hX M v0 v1 v2 o ho)
theorem okV_X9_meansOf : okV yX9_meansOf cX9_meansOf 5 (some .int) 2 := ⟨q_1665, q_53, q_96, q_1666, by unfold okY; decide +kernel⟩
/-! ParticipatoryBudgetModel.allMeans(I)I -/
abbrev rm_X9_allMeans : Room := { frames := 2, cells := 0, slots := 0, locals := 45 }
set_option maxRecDepth 20000 in
set_option maxHeartbeats 4000000 in
theorem z_X9_allMeans {X : Cxt} (hX : okX X cX9_allMeans RX9 rm_X9_allMeans (some .int) 4) (M : Mem) (v0 : Nat) (v1 : Int32) : Zj X (fun o : Int32 => Qr X rm_X9_allMeans.cells rm_X9_allMeans.slots (some (.int o)) M) 0 0 0 [(0, .ref v0), (1, .int v1)] [] M (f_X9_allMeans M v0 v1) := by
  unfold f_X9_allMeans
  refine z_iconst (v := 0) hX (by decide) dX9_allMeans_0 ?_
  refine z_istore_n hX [(2, .int 0), (0, .ref v0), (1, .int v1)] rfl (by decide) rfl dX9_allMeans_1 ?_
  refine z_iconst (v := 0) hX (by decide) dX9_allMeans_2 ?_
  refine z_istore_n hX [(3, .int 0), (2, .int 0), (0, .ref v0), (1, .int v1)] rfl (by decide) rfl dX9_allMeans_3 ?_
  refine z_sub [2, 3, 1, 0] rfl ?_
  refine z_lp (x0 := (0, 0)) (bd_X9_allMeans_4 M v0 v1) 4 40 (fun (u1 : Int32 × Int32) => [(0, .ref v0), (1, .int v1), (2, .int u1.1), (3, .int u1.2)]) (fun (e2 : Int32 × Int32) => [(2, .int e2.1)]) (fun (u1 : Int32 × Int32) => M) ?_ ?_
  · intro e2
    refine z_iload_n hX 0 rfl rfl dX9_allMeans_40 ?_
    exact z_iretP hX dX9_allMeans_41 (Nat.le_of_ble_eq_true rfl) (Nat.le_of_ble_eq_true rfl)
  · intro kk3 rc4 hkk3 hrc4 u1
    unfold bd_X9_allMeans_4
    refine z_iload_n hX 3 rfl rfl dX9_allMeans_4 ?_
    refine z_aload_n hX 0 rfl rfl dX9_allMeans_5 ?_
    refine z_gFI 9 7 hX (by decide) rfl (by decide) rfl q_1318 dX9_allMeans_6 (fun x5 => ?_)
    refine z_icmp_ge hX 40 (by decide) dX9_allMeans_9 (fun _ => ?_) (fun _ => ?_)
    · refine z_sub [2] rfl ?_
      exact hkk3 (u1.1, u1.2)
    · refine z_iload_n hX 2 rfl rfl dX9_allMeans_12 ?_
      refine z_aload_n hX 0 rfl rfl dX9_allMeans_13 ?_
      refine z_iload_n hX 3 rfl rfl dX9_allMeans_14 ?_
      refine z_iload_n hX 1 rfl rfl dX9_allMeans_15 ?_
      refine z_cVIp 9 [.int u1.2, .int v1] hX (fun l hl o ho => c_X9_supports l hl M v0 u1.2 v1 o ho) dX9_allMeans_16 (by decide) rfl rfl q_1627 okV_X9_supports rfl ⟨(Nat.le_of_ble_eq_true rfl), (Nat.le_of_ble_eq_true rfl)⟩ rfl (Nat.le_of_ble_eq_true rfl) rfl rfl ⟨(Nat.le_of_ble_eq_true rfl), (Nat.le_of_ble_eq_true rfl)⟩ (fun o6 => ?_)
      refine z_jn (C' := 0) (S' := 0) 32 (fun (j7 : Int32) => [(0, .ref v0), (1, .int v1), (3, .int u1.2)]) (fun (j7 : Int32) => [.int j7, .int u1.1]) (fun (j7 : Int32) => M) (fun j7 => ?_) (fun kj7 => ?_)
      · refine z_iadd hX dX9_allMeans_32 ?_
        refine z_ltI (fun x8 => ?_)
        refine z_istore_n hX [(2, .int x8), (0, .ref v0), (1, .int v1), (3, .int u1.2)] rfl (by decide) rfl dX9_allMeans_33 ?_
        refine z_iinc hX 3 [(3, .int (u1.2 + 1)), (2, .int x8), (0, .ref v0), (1, .int v1)] rfl rfl (by decide) rfl dX9_allMeans_34 ?_
        refine z_goto hX 4 (by decide) dX9_allMeans_37 ?_
        refine z_sub [2, 3, 1, 0] rfl ?_
        exact hrc4 (x8, u1.2 + 1)
      · refine z_iteB ?_
        refine z_if_eq hX 31 (by decide) dX9_allMeans_19 (fun _ => ?_) (fun _ => ?_)
        · refine z_iconst (v := 0) hX (by decide) dX9_allMeans_31 ?_
          refine z_pure ?_
          refine z_sub [0, 1, 3] rfl ?_
          exact kj7 0
        · refine z_aload_n hX 0 rfl rfl dX9_allMeans_22 ?_
          refine z_iload_n hX 3 rfl rfl dX9_allMeans_23 ?_
          refine z_iload_n hX 1 rfl rfl dX9_allMeans_24 ?_
          refine z_asc ?_
          refine z_asc2 ?_
          refine z_cVIp 9 [.int u1.2, .int v1] hX (fun l hl o ho => c_X9_meansOf l hl M v0 u1.2 v1 o ho) dX9_allMeans_25 (by decide) rfl rfl q_1663 okV_X9_meansOf rfl ⟨(Nat.le_of_ble_eq_true rfl), (Nat.le_of_ble_eq_true rfl)⟩ rfl (Nat.le_of_ble_eq_true rfl) rfl rfl ⟨(Nat.le_of_ble_eq_true rfl), (Nat.le_of_ble_eq_true rfl)⟩ (fun o9 => ?_)
          refine z_goto hX 32 (by decide) dX9_allMeans_28 ?_
          refine z_pure ?_
          refine z_sub [0, 1, 3] rfl ?_
          exact kj7 o9
theorem c_X9_allMeans (l : Launch) (hl : l.stackTraces = false) (M : Mem) (v0 : Nat) (v1 : Int32) (o : Int32) (ho : f_X9_allMeans M v0 v1 = some o) : Ct l yX9_allMeans cX9_allMeans 4 (some .int) rm_X9_allMeans [.ref v0, .int v1] M (some (.int o)) M :=
  Ct.of hl (by decide +kernel) (Nat.le_of_ble_eq_true rfl) rfl (fun X hX hin => z_X9_allMeans hX M v0 v1 o ho)
theorem okV_X9_allMeans : okV yX9_allMeans cX9_allMeans 4 (some .int) 1 := ⟨q_1661, q_52, q_96, q_1662, by unfold okY; decide +kernel⟩
/-! ParticipatoryBudgetModel.shareOf(III)I -/
abbrev rm_X9_shareOf : Room := { frames := 2, cells := 0, slots := 0, locals := 45 }
set_option maxRecDepth 20000 in
set_option maxHeartbeats 4000000 in
theorem z_X9_shareOf {X : Cxt} (hX : okX X cX9_shareOf RX9 rm_X9_shareOf (some .int) 5) (M : Mem) (v0 : Nat) (v1 : Int32) (v2 : Int32) (v3 : Int32) : Zj X (fun o : Int32 => Qr X rm_X9_shareOf.cells rm_X9_shareOf.slots (some (.int o)) M) 0 0 0 [(0, .ref v0), (1, .int v1), (2, .int v2), (3, .int v3)] [] M (f_X9_shareOf M v0 v1 v2 v3) := by
  unfold f_X9_shareOf
  refine z_aload_n hX 0 rfl rfl dX9_shareOf_0 ?_
  refine z_iload_n hX 1 rfl rfl dX9_shareOf_1 ?_
  refine z_iload_n hX 2 rfl rfl dX9_shareOf_2 ?_
  refine z_cVIp 9 [.int v1, .int v2] hX (fun l hl o ho => c_X9_meansOf l hl M v0 v1 v2 o ho) dX9_shareOf_3 (by decide) rfl rfl q_1663 okV_X9_meansOf rfl ⟨(Nat.le_of_ble_eq_true rfl), (Nat.le_of_ble_eq_true rfl)⟩ rfl (Nat.le_of_ble_eq_true rfl) rfl rfl ⟨(Nat.le_of_ble_eq_true rfl), (Nat.le_of_ble_eq_true rfl)⟩ (fun o1 => ?_)
  refine z_istore hX [(4, .int o1), (0, .ref v0), (1, .int v1), (2, .int v2), (3, .int v3)] (by decide) rfl dX9_shareOf_6 ?_
  refine z_iload hX 0 rfl dX9_shareOf_8 ?_
  refine z_iload_n hX 4 rfl rfl dX9_shareOf_10 ?_
  refine z_aload_n hX 1 rfl rfl dX9_shareOf_11 ?_
  refine z_gFR 9 0 hX (by decide) rfl (by decide) rfl q_1311 dX9_shareOf_12 (fun r2 => ?_)
  refine z_bipush (v := 20) hX (by decide) dX9_shareOf_15 ?_
  refine z_iload_n hX 2 rfl rfl dX9_shareOf_17 ?_
  refine z_iadd hX dX9_shareOf_18 ?_
  refine z_aI hX dX9_shareOf_19 (fun x3 => ?_)
  refine z_imul hX dX9_shareOf_20 ?_
  refine z_jn (C' := 0) (S' := 0) 40 (fun (j4 : Int32) => []) (fun (j4 : Int32) => [.int j4]) (fun (j4 : Int32) => M) (fun j4 => ?_) (fun kj4 => ?_)
  · exact z_iretP hX dX9_shareOf_40 (Nat.le_of_ble_eq_true rfl) (Nat.le_of_ble_eq_true rfl)
  · refine z_iteB ?_
    refine z_icmp_ge hX 29 (by decide) dX9_shareOf_21 (fun _ => ?_) (fun _ => ?_)
    · refine z_iload_n hX 4 rfl rfl dX9_shareOf_29 ?_
      refine z_aload_n hX 1 rfl rfl dX9_shareOf_30 ?_
      refine z_asc ?_
      refine z_gFR 9 0 hX (by decide) rfl (by decide) rfl q_1311 dX9_shareOf_31 (fun r5 => ?_)
      refine z_bipush (v := 20) hX (by decide) dX9_shareOf_34 ?_
      refine z_iload_n hX 2 rfl rfl dX9_shareOf_36 ?_
      refine z_iadd hX dX9_shareOf_37 ?_
      refine z_asc ?_
      refine z_aI hX dX9_shareOf_38 (fun x6 => ?_)
      refine z_imul hX dX9_shareOf_39 ?_
      refine z_pure ?_
      refine z_sub [] rfl ?_
      exact kj4 (v3 * x6)
    · refine z_iload hX 0 rfl dX9_shareOf_24 ?_
      refine z_goto hX 40 (by decide) dX9_shareOf_26 ?_
      refine z_pure ?_
      refine z_sub [] rfl ?_
      exact kj4 o1
theorem c_X9_shareOf (l : Launch) (hl : l.stackTraces = false) (M : Mem) (v0 : Nat) (v1 : Int32) (v2 : Int32) (v3 : Int32) (o : Int32) (ho : f_X9_shareOf M v0 v1 v2 v3 = some o) : Ct l yX9_shareOf cX9_shareOf 5 (some .int) rm_X9_shareOf [.ref v0, .int v1, .int v2, .int v3] M (some (.int o)) M :=
  Ct.of hl (by decide +kernel) (Nat.le_of_ble_eq_true rfl) rfl (fun X hX hin => z_X9_shareOf hX M v0 v1 v2 v3 o ho)
theorem okV_X9_shareOf : okV yX9_shareOf cX9_shareOf 5 (some .int) 3 := ⟨q_1673, q_55, q_96, q_1674, by unfold okY; decide +kernel⟩
/-! ParticipatoryBudgetModel.sharesAt(II)I -/
abbrev rm_X9_sharesAt : Room := { frames := 3, cells := 0, slots := 0, locals := 69 }
set_option maxRecDepth 20000 in
set_option maxHeartbeats 4000000 in
theorem z_X9_sharesAt {X : Cxt} (hX : okX X cX9_sharesAt RX9 rm_X9_sharesAt (some .int) 5) (M : Mem) (v0 : Nat) (v1 : Int32) (v2 : Int32) : Zj X (fun o : Int32 => Qr X rm_X9_sharesAt.cells rm_X9_sharesAt.slots (some (.int o)) M) 0 0 0 [(0, .ref v0), (1, .int v1), (2, .int v2)] [] M (f_X9_sharesAt M v0 v1 v2) := by
  unfold f_X9_sharesAt
  refine z_iconst (v := 0) hX (by decide) dX9_sharesAt_0 ?_
  refine z_istore_n hX [(3, .int 0), (0, .ref v0), (1, .int v1), (2, .int v2)] rfl (by decide) rfl dX9_sharesAt_1 ?_
  refine z_iconst (v := 0) hX (by decide) dX9_sharesAt_2 ?_
  refine z_istore hX [(4, .int 0), (3, .int 0), (0, .ref v0), (1, .int v1), (2, .int v2)] (by decide) rfl dX9_sharesAt_3 ?_
  refine z_sub [2, 3, 4, 1, 0] rfl ?_
  refine z_lp (x0 := (0, 0)) (bd_X9_sharesAt_5 M v0 v1 v2) 5 45 (fun (u1 : Int32 × Int32) => [(0, .ref v0), (1, .int v1), (2, .int v2), (3, .int u1.1), (4, .int u1.2)]) (fun (e2 : Int32 × Int32) => [(3, .int e2.1)]) (fun (u1 : Int32 × Int32) => M) ?_ ?_
  · intro e2
    refine z_iload_n hX 0 rfl rfl dX9_sharesAt_45 ?_
    exact z_iretP hX dX9_sharesAt_46 (Nat.le_of_ble_eq_true rfl) (Nat.le_of_ble_eq_true rfl)
  · intro kk3 rc4 hkk3 hrc4 u1
    unfold bd_X9_sharesAt_5
    refine z_iload hX 4 rfl dX9_sharesAt_5 ?_
    refine z_aload_n hX 0 rfl rfl dX9_sharesAt_7 ?_
    refine z_gFI 9 7 hX (by decide) rfl (by decide) rfl q_1318 dX9_sharesAt_8 (fun x5 => ?_)
    refine z_icmp_ge hX 45 (by decide) dX9_sharesAt_11 (fun _ => ?_) (fun _ => ?_)
    · refine z_sub [3] rfl ?_
      exact hkk3 (u1.1, u1.2)
    · refine z_iload_n hX 3 rfl rfl dX9_sharesAt_14 ?_
      refine z_aload_n hX 0 rfl rfl dX9_sharesAt_15 ?_
      refine z_iload hX 4 rfl dX9_sharesAt_16 ?_
      refine z_iload_n hX 1 rfl rfl dX9_sharesAt_18 ?_
      refine z_cVIp 9 [.int u1.2, .int v1] hX (fun l hl o ho => c_X9_supports l hl M v0 u1.2 v1 o ho) dX9_sharesAt_19 (by decide) rfl rfl q_1627 okV_X9_supports rfl ⟨(Nat.le_of_ble_eq_true rfl), (Nat.le_of_ble_eq_true rfl)⟩ rfl (Nat.le_of_ble_eq_true rfl) rfl rfl ⟨(Nat.le_of_ble_eq_true rfl), (Nat.le_of_ble_eq_true rfl)⟩ (fun o6 => ?_)
      refine z_jn (C' := 0) (S' := 0) 37 (fun (j7 : Int32) => [(0, .ref v0), (1, .int v1), (2, .int v2), (4, .int u1.2)]) (fun (j7 : Int32) => [.int j7, .int u1.1]) (fun (j7 : Int32) => M) (fun j7 => ?_) (fun kj7 => ?_)
      · refine z_iadd hX dX9_sharesAt_37 ?_
        refine z_ltI (fun x8 => ?_)
        refine z_istore_n hX [(3, .int x8), (0, .ref v0), (1, .int v1), (2, .int v2), (4, .int u1.2)] rfl (by decide) rfl dX9_sharesAt_38 ?_
        refine z_iinc hX 4 [(4, .int (u1.2 + 1)), (3, .int x8), (0, .ref v0), (1, .int v1), (2, .int v2)] rfl rfl (by decide) rfl dX9_sharesAt_39 ?_
        refine z_goto hX 5 (by decide) dX9_sharesAt_42 ?_
        refine z_sub [2, 3, 4, 1, 0] rfl ?_
        exact hrc4 (x8, u1.2 + 1)
      · refine z_iteB ?_
        refine z_if_eq hX 36 (by decide) dX9_sharesAt_22 (fun _ => ?_) (fun _ => ?_)
        · refine z_iconst (v := 0) hX (by decide) dX9_sharesAt_36 ?_
          refine z_pure ?_
          refine z_sub [0, 1, 2, 4] rfl ?_
          exact kj7 0
        · refine z_aload_n hX 0 rfl rfl dX9_sharesAt_25 ?_
          refine z_iload hX 4 rfl dX9_sharesAt_26 ?_
          refine z_iload_n hX 1 rfl rfl dX9_sharesAt_28 ?_
          refine z_iload_n hX 2 rfl rfl dX9_sharesAt_29 ?_
          refine z_asc ?_
          refine z_asc2 ?_
          refine z_cVIp 9 [.int u1.2, .int v1, .int v2] hX (fun l hl o ho => c_X9_shareOf l hl M v0 u1.2 v1 v2 o ho) dX9_sharesAt_30 (by decide) rfl rfl q_1671 okV_X9_shareOf rfl ⟨(Nat.le_of_ble_eq_true rfl), (Nat.le_of_ble_eq_true rfl)⟩ rfl (Nat.le_of_ble_eq_true rfl) rfl rfl ⟨(Nat.le_of_ble_eq_true rfl), (Nat.le_of_ble_eq_true rfl)⟩ (fun o9 => ?_)
          refine z_goto hX 37 (by decide) dX9_sharesAt_33 ?_
          refine z_pure ?_
          refine z_sub [0, 1, 2, 4] rfl ?_
          exact kj7 o9
theorem c_X9_sharesAt (l : Launch) (hl : l.stackTraces = false) (M : Mem) (v0 : Nat) (v1 : Int32) (v2 : Int32) (o : Int32) (ho : f_X9_sharesAt M v0 v1 v2 = some o) : Ct l yX9_sharesAt cX9_sharesAt 5 (some .int) rm_X9_sharesAt [.ref v0, .int v1, .int v2] M (some (.int o)) M :=
  Ct.of hl (by decide +kernel) (Nat.le_of_ble_eq_true rfl) rfl (fun X hX hin => z_X9_sharesAt hX M v0 v1 v2 o ho)
theorem okV_X9_sharesAt : okV yX9_sharesAt cX9_sharesAt 5 (some .int) 2 := ⟨q_1669, q_54, q_96, q_1670, by unfold okY; decide +kernel⟩
/-! ParticipatoryBudgetModel.priceNow(I)I -/
abbrev rm_X9_priceNow : Room := { frames := 4, cells := 0, slots := 0, locals := 93 }
set_option maxRecDepth 20000 in
set_option maxHeartbeats 4000000 in
theorem z_X9_priceNow {X : Cxt} (hX : okX X cX9_priceNow RX9 rm_X9_priceNow (some .int) 5) (M : Mem) (v0 : Nat) (v1 : Int32) : Zj X (fun o : Int32 => Qr X rm_X9_priceNow.cells rm_X9_priceNow.slots (some (.int o)) M) 0 0 0 [(0, .ref v0), (1, .int v1)] [] M (f_X9_priceNow M v0 v1) := by
  unfold f_X9_priceNow
  refine z_aload_n hX 0 rfl rfl dX9_priceNow_0 ?_
  refine z_iload_n hX 1 rfl rfl dX9_priceNow_1 ?_
  refine z_cVIp 9 [.int v1] hX (fun l hl o ho => c_X9_allMeans l hl M v0 v1 o ho) dX9_priceNow_2 (by decide) rfl rfl q_1659 okV_X9_allMeans rfl ⟨(Nat.le_of_ble_eq_true rfl), (Nat.le_of_ble_eq_true rfl)⟩ rfl (Nat.le_of_ble_eq_true rfl) rfl rfl ⟨(Nat.le_of_ble_eq_true rfl), (Nat.le_of_ble_eq_true rfl)⟩ (fun o1 => ?_)
  refine z_aload_n hX 0 rfl rfl dX9_priceNow_5 ?_
  refine z_gFR 9 0 hX (by decide) rfl (by decide) rfl q_1311 dX9_priceNow_6 (fun r2 => ?_)
  refine z_bipush (v := 8) hX (by decide) dX9_priceNow_9 ?_
  refine z_iload_n hX 1 rfl rfl dX9_priceNow_11 ?_
  refine z_iadd hX dX9_priceNow_12 ?_
  refine z_aI hX dX9_priceNow_13 (fun x3 => ?_)
  refine z_icmp_ge hX 19 (by decide) dX9_priceNow_14 (fun _ => ?_) (fun _ => ?_)
  · refine z_iconst (v := 1) hX (by decide) dX9_priceNow_19 ?_
    refine z_istore_n hX [(2, .int 1), (0, .ref v0), (1, .int v1)] rfl (by decide) rfl dX9_priceNow_20 ?_
    refine z_ldc (v := 100000) hX q_1523 dX9_priceNow_21 ?_
    refine z_istore_n hX [(3, .int 100000), (2, .int 1), (0, .ref v0), (1, .int v1)] rfl (by decide) rfl dX9_priceNow_23 ?_
    refine z_sub [2, 3, 1, 0] rfl ?_
    refine z_lp (x0 := (1, 100000)) (bd_X9_priceNow_24 M v0 v1) 24 69 (fun (u4 : Int32 × Int32) => [(0, .ref v0), (1, .int v1), (2, .int u4.1), (3, .int u4.2)]) (fun (e5 : Int32 × Int32) => [(2, .int e5.1)]) (fun (u4 : Int32 × Int32) => M) ?_ ?_
    · intro e5
      refine z_iload_n hX 0 rfl rfl dX9_priceNow_69 ?_
      exact z_iretP hX dX9_priceNow_70 (Nat.le_of_ble_eq_true rfl) (Nat.le_of_ble_eq_true rfl)
    · intro kk6 rc7 hkk6 hrc7 u4
      unfold bd_X9_priceNow_24
      refine z_iload_n hX 2 rfl rfl dX9_priceNow_24 ?_
      refine z_iload_n hX 3 rfl rfl dX9_priceNow_25 ?_
      refine z_icmp_ge hX 69 (by decide) dX9_priceNow_26 (fun _ => ?_) (fun _ => ?_)
      · refine z_sub [2] rfl ?_
        exact hkk6 (u4.1, u4.2)
      · refine z_iload_n hX 2 rfl rfl dX9_priceNow_29 ?_
        refine z_iload_n hX 3 rfl rfl dX9_priceNow_30 ?_
        refine z_iadd hX dX9_priceNow_31 ?_
        refine z_iconst (v := 2) hX (by decide) dX9_priceNow_32 ?_
        refine z_idiv hX dX9_priceNow_33 (fun x8 => ?_)
        refine z_istore hX [(4, .int x8), (0, .ref v0), (1, .int v1), (2, .int u4.1), (3, .int u4.2)] (by decide) rfl dX9_priceNow_34 ?_
        refine z_aload_n hX 1 rfl rfl dX9_priceNow_36 ?_
        refine z_iload_n hX 2 rfl rfl dX9_priceNow_37 ?_
        refine z_iload hX 0 rfl dX9_priceNow_38 ?_
        refine z_cVIp 9 [.int v1, .int x8] hX (fun l hl o ho => c_X9_sharesAt l hl M v0 v1 x8 o ho) dX9_priceNow_40 (by decide) rfl rfl q_1667 okV_X9_sharesAt rfl ⟨(Nat.le_of_ble_eq_true rfl), (Nat.le_of_ble_eq_true rfl)⟩ rfl (Nat.le_of_ble_eq_true rfl) rfl rfl ⟨(Nat.le_of_ble_eq_true rfl), (Nat.le_of_ble_eq_true rfl)⟩ (fun o9 => ?_)
        refine z_aload_n hX 1 rfl rfl dX9_priceNow_43 ?_
        refine z_gFR 9 0 hX (by decide) rfl (by decide) rfl q_1311 dX9_priceNow_44 (fun r10 => ?_)
        refine z_bipush (v := 8) hX (by decide) dX9_priceNow_47 ?_
        refine z_iload_n hX 2 rfl rfl dX9_priceNow_49 ?_
        refine z_iadd hX dX9_priceNow_50 ?_
        refine z_aI hX dX9_priceNow_51 (fun x11 => ?_)
        refine z_jn (C' := 0) (S' := 0) 66 (fun (j12 : Int32 × Int32) => [(0, .ref v0), (1, .int v1), (2, .int j12.1), (3, .int j12.2)]) (fun (j12 : Int32 × Int32) => []) (fun (j12 : Int32 × Int32) => M) (fun j12 => ?_) (fun kj12 => ?_)
        · refine z_goto hX 24 (by decide) dX9_priceNow_66 ?_
          refine z_sub [0, 1, 2, 3] rfl ?_
          exact hrc7 (j12.1, j12.2)
        · refine z_iteB ?_
          refine z_icmp_lt hX 61 (by decide) dX9_priceNow_52 (fun _ => ?_) (fun _ => ?_)
          · refine z_iload hX 0 rfl dX9_priceNow_61 ?_
            refine z_iconst (v := 1) hX (by decide) dX9_priceNow_63 ?_
            refine z_iadd hX dX9_priceNow_64 ?_
            refine z_ltB ?_
            refine z_ltI (fun x13 => ?_)
            refine z_istore_n hX [(2, .int x13), (4, .int x8), (0, .ref v0), (1, .int v1), (3, .int u4.2)] rfl (by decide) rfl dX9_priceNow_65 ?_
            refine z_pure ?_
            refine z_sub [2, 3, 0, 4] rfl ?_
            exact kj12 (x13, u4.2)
          · refine z_iload hX 0 rfl dX9_priceNow_55 ?_
            refine z_istore_n hX [(3, .int x8), (4, .int x8), (0, .ref v0), (1, .int v1), (2, .int u4.1)] rfl (by decide) rfl dX9_priceNow_57 ?_
            refine z_goto hX 66 (by decide) dX9_priceNow_58 ?_
            refine z_pure ?_
            refine z_sub [2, 3, 4, 0] rfl ?_
            exact kj12 (u4.1, x8)
  · refine z_iconst (v := (-1)) hX (by decide) dX9_priceNow_17 ?_
    exact z_iretP hX dX9_priceNow_18 (Nat.le_of_ble_eq_true rfl) (Nat.le_of_ble_eq_true rfl)
theorem c_X9_priceNow (l : Launch) (hl : l.stackTraces = false) (M : Mem) (v0 : Nat) (v1 : Int32) (o : Int32) (ho : f_X9_priceNow M v0 v1 = some o) : Ct l yX9_priceNow cX9_priceNow 5 (some .int) rm_X9_priceNow [.ref v0, .int v1] M (some (.int o)) M :=
  Ct.of hl (by decide +kernel) (Nat.le_of_ble_eq_true rfl) rfl (fun X hX hin => z_X9_priceNow hX M v0 v1 o ho)
theorem okV_X9_priceNow : okV yX9_priceNow cX9_priceNow 5 (some .int) 1 := ⟨q_1657, q_51, q_96, q_1658, by unfold okY; decide +kernel⟩
/-! ParticipatoryBudgetModel.firstPrice(I)I -/
abbrev rm_X9_firstPrice : Room := { frames := 5, cells := 0, slots := 0, locals := 117 }
set_option maxRecDepth 20000 in
set_option maxHeartbeats 4000000 in
theorem z_X9_firstPrice {X : Cxt} (hX : okX X cX9_firstPrice RX9 rm_X9_firstPrice (some .int) 2) (M : Mem) (v0 : Nat) (v1 : Int32) : Zj X (fun o : Int32 × Mem => Qr X rm_X9_firstPrice.cells rm_X9_firstPrice.slots (some (.int o.1)) o.2) 0 0 0 [(0, .ref v0), (1, .int v1)] [] M (f_X9_firstPrice M v0 v1) := by
  unfold f_X9_firstPrice
  refine z_aload_n hX 0 rfl rfl dX9_firstPrice_0 ?_
  refine z_aload_n hX 0 rfl rfl dX9_firstPrice_1 ?_
  refine z_iload_n hX 1 rfl rfl dX9_firstPrice_2 ?_
  refine z_cVIp 9 [.int v1] hX (fun l hl o ho => c_X9_isProject l hl M v0 v1 o ho) dX9_firstPrice_3 (by decide) rfl rfl q_1595 okV_X9_isProject rfl ⟨(Nat.le_of_ble_eq_true rfl), (Nat.le_of_ble_eq_true rfl)⟩ rfl (Nat.le_of_ble_eq_true rfl) rfl rfl ⟨(Nat.le_of_ble_eq_true rfl), (Nat.le_of_ble_eq_true rfl)⟩ (fun o1 => ?_)
  refine z_cVIm 9 [.int o1] hX (fun l hl o ho => c_X9_fails l hl M v0 o1 o ho) dX9_firstPrice_6 (by decide) rfl rfl q_1587 okV_X9_fails rfl ⟨(Nat.le_of_ble_eq_true rfl), (Nat.le_of_ble_eq_true rfl)⟩ rfl (Nat.le_of_ble_eq_true rfl) rfl rfl ⟨(Nat.le_of_ble_eq_true rfl), (Nat.le_of_ble_eq_true rfl)⟩ (fun o2 => ?_)
  refine z_if_eq hX 14 (by decide) dX9_firstPrice_9 (fun _ => ?_) (fun _ => ?_)
  · refine z_aload_n hX 0 rfl rfl dX9_firstPrice_14 ?_
    refine z_iconst (v := 0) hX (by decide) dX9_firstPrice_15 ?_
    refine z_cVVm 9 [.int 0] hX (fun l hl o ho => c_X9_fillPurses l hl o2.2 v0 0 o ho) dX9_firstPrice_16 (by decide) rfl rfl q_1651 okV_X9_fillPurses rfl ⟨(Nat.le_of_ble_eq_true rfl), (Nat.le_of_ble_eq_true rfl)⟩ rfl (Nat.le_of_ble_eq_true rfl) rfl rfl ⟨(Nat.le_of_ble_eq_true rfl), (Nat.le_of_ble_eq_true rfl)⟩ (fun o3 => ?_)
    refine z_aload_n hX 0 rfl rfl dX9_firstPrice_19 ?_
    refine z_iload_n hX 1 rfl rfl dX9_firstPrice_20 ?_
    refine z_cVIp 9 [.int v1] hX (fun l hl o ho => c_X9_priceNow l hl o3 v0 v1 o ho) dX9_firstPrice_21 (by decide) rfl rfl q_1655 okV_X9_priceNow rfl ⟨(Nat.le_of_ble_eq_true rfl), (Nat.le_of_ble_eq_true rfl)⟩ rfl (Nat.le_of_ble_eq_true rfl) rfl rfl ⟨(Nat.le_of_ble_eq_true rfl), (Nat.le_of_ble_eq_true rfl)⟩ (fun o4 => ?_)
    exact z_iretM hX dX9_firstPrice_24 (Nat.le_of_ble_eq_true rfl) (Nat.le_of_ble_eq_true rfl)
  · refine z_iconst (v := 0) hX (by decide) dX9_firstPrice_12 ?_
    exact z_iretM hX dX9_firstPrice_13 (Nat.le_of_ble_eq_true rfl) (Nat.le_of_ble_eq_true rfl)
theorem c_X9_firstPrice (l : Launch) (hl : l.stackTraces = false) (M : Mem) (v0 : Nat) (v1 : Int32) (o : Int32 × Mem) (ho : f_X9_firstPrice M v0 v1 = some o) : Ct l yX9_firstPrice cX9_firstPrice 2 (some .int) rm_X9_firstPrice [.ref v0, .int v1] M (some (.int o.1)) o.2 :=
  Ct.of hl (by decide +kernel) (Nat.le_of_ble_eq_true rfl) rfl (fun X hX hin => z_X9_firstPrice hX M v0 v1 o ho)
theorem okV_X9_firstPrice : okV yX9_firstPrice cX9_firstPrice 2 (some .int) 1 := ⟨q_1648, q_1649, q_96, q_1650, by unfold okY; decide +kernel⟩
/-! ParticipatoryBudgetModel.comesAhead(IIII)Z -/
abbrev rm_X9_comesAhead : Room := { frames := 3, cells := 0, slots := 0, locals := 66 }
set_option maxRecDepth 20000 in
set_option maxHeartbeats 4000000 in
theorem z_X9_comesAhead {X : Cxt} (hX : okX X cX9_comesAhead RX9 rm_X9_comesAhead (some .boolean) 9) (M : Mem) (v0 : Nat) (v1 : Int32) (v2 : Int32) (v3 : Int32) (v4 : Int32) : Zj X (fun o : Int32 => Qr X rm_X9_comesAhead.cells rm_X9_comesAhead.slots (some (.int o)) M) 0 0 0 [(0, .ref v0), (1, .int v1), (2, .int v2), (3, .int v3), (4, .int v4)] [] M (f_X9_comesAhead M v0 v1 v2 v3 v4) := by
  unfold f_X9_comesAhead
  refine z_iload_n hX 2 rfl rfl dX9_comesAhead_0 ?_
  refine z_i2l hX rfl dX9_comesAhead_1 ?_
  refine z_ltL (fun x1 => ?_)
  refine z_lstore hX [(5, .long x1), (0, .ref v0), (1, .int v1), (2, .int v2), (3, .int v3), (4, .int v4)] (by decide) rfl dX9_comesAhead_2 ?_
  refine z_iload hX 5 rfl dX9_comesAhead_4 ?_
  refine z_i2l hX rfl dX9_comesAhead_6 ?_
  refine z_ltL (fun x2 => ?_)
  refine z_lstore hX [(7, .long x2), (5, .long x1), (0, .ref v0), (1, .int v1), (2, .int v2), (3, .int v3), (4, .int v4)] (by decide) rfl dX9_comesAhead_7 ?_
  refine z_aload_n hX 2 rfl rfl dX9_comesAhead_9 ?_
  refine z_gFR 9 0 hX (by decide) rfl (by decide) rfl q_1311 dX9_comesAhead_10 (fun r3 => ?_)
  refine z_iconst (v := 0) hX (by decide) dX9_comesAhead_13 ?_
  refine z_aI hX dX9_comesAhead_14 (fun x4 => ?_)
  refine z_iconst (v := 1) hX (by decide) dX9_comesAhead_15 ?_
  refine z_jn (C' := 0) (S' := 0) 50 (fun (j5 : Int64 × Int64) => [(0, .ref v0), (1, .int v1), (3, .int v3), (5, .long j5.1), (7, .long j5.2)]) (fun (j5 : Int64 × Int64) => []) (fun (j5 : Int64 × Int64) => M) (fun j5 => ?_) (fun kj5 => ?_)
  · refine z_lload hX 3 rfl dX9_comesAhead_50 ?_
    refine z_lload hX 4 rfl dX9_comesAhead_52 ?_
    refine z_lcmp hX dX9_comesAhead_54 ?_
    refine z_jn (C' := 0) (S' := 0) 84 (fun (j6 : Int32) => []) (fun (j6 : Int32) => [.int j6]) (fun (j6 : Int32) => M) (fun j6 => ?_) (fun kj6 => ?_)
    · exact z_zretP hX dX9_comesAhead_84 (Nat.le_of_ble_eq_true rfl) (Nat.le_of_ble_eq_true rfl)
    · refine z_iteB ?_
      refine z_if_lt hX 79 (by decide) dX9_comesAhead_55 (fun _ => ?_) (fun _ => ?_)
      · refine z_iconst (v := 1) hX (by decide) dX9_comesAhead_79 ?_
        refine z_goto hX 84 (by decide) dX9_comesAhead_80 ?_
        refine z_pure ?_
        refine z_sub [] rfl ?_
        exact kj6 1
      · refine z_lload hX 3 rfl dX9_comesAhead_58 ?_
        refine z_lload hX 4 rfl dX9_comesAhead_60 ?_
        refine z_lcmp hX dX9_comesAhead_62 ?_
        refine z_iteB ?_
        refine z_if_ne hX 83 (by decide) dX9_comesAhead_63 (fun _ => ?_) (fun _ => ?_)
        · refine z_iconst (v := 0) hX (by decide) dX9_comesAhead_83 ?_
          refine z_pure ?_
          refine z_sub [] rfl ?_
          exact kj6 0
        · refine z_aload_n hX 0 rfl rfl dX9_comesAhead_66 ?_
          refine z_iload_n hX 1 rfl rfl dX9_comesAhead_67 ?_
          refine z_asc ?_
          refine z_asc2 ?_
          refine z_cVIp 9 [.int v1] hX (fun l hl o ho => c_X9_votesOf l hl M v0 v1 o ho) dX9_comesAhead_68 (by decide) rfl rfl q_1635 okV_X9_votesOf rfl ⟨(Nat.le_of_ble_eq_true rfl), (Nat.le_of_ble_eq_true rfl)⟩ rfl (Nat.le_of_ble_eq_true rfl) rfl rfl ⟨(Nat.le_of_ble_eq_true rfl), (Nat.le_of_ble_eq_true rfl)⟩ (fun o7 => ?_)
          refine z_aload_n hX 0 rfl rfl dX9_comesAhead_71 ?_
          refine z_iload_n hX 2 rfl rfl dX9_comesAhead_72 ?_
          refine z_asc ?_
          refine z_asc2 ?_
          refine z_cVIp 9 [.int v3] hX (fun l hl o ho => c_X9_votesOf l hl M v0 v3 o ho) dX9_comesAhead_73 (by decide) rfl rfl q_1635 okV_X9_votesOf rfl ⟨(Nat.le_of_ble_eq_true rfl), (Nat.le_of_ble_eq_true rfl)⟩ rfl (Nat.le_of_ble_eq_true rfl) rfl rfl ⟨(Nat.le_of_ble_eq_true rfl), (Nat.le_of_ble_eq_true rfl)⟩ (fun o8 => ?_)
          refine z_iteB ?_
          refine z_icmp_le hX 83 (by decide) dX9_comesAhead_76 (fun _ => ?_) (fun _ => ?_)
          · refine z_iconst (v := 0) hX (by decide) dX9_comesAhead_83 ?_
            refine z_pure ?_
            refine z_sub [] rfl ?_
            exact kj6 0
          · refine z_iconst (v := 1) hX (by decide) dX9_comesAhead_79 ?_
            refine z_goto hX 84 (by decide) dX9_comesAhead_80 ?_
            refine z_pure ?_
            refine z_sub [] rfl ?_
            exact kj6 1
  · refine z_iteB ?_
    refine z_icmp_ne hX 50 (by decide) dX9_comesAhead_16 (fun _ => ?_) (fun _ => ?_)
    · refine z_pure ?_
      refine z_sub [2, 3, 5, 1, 0] rfl ?_
      exact kj5 (x1, x2)
    · refine z_iload_n hX 4 rfl rfl dX9_comesAhead_19 ?_
      refine z_i2l hX rfl dX9_comesAhead_20 ?_
      refine z_aload_n hX 2 rfl rfl dX9_comesAhead_21 ?_
      refine z_asc ?_
      refine z_gFR 9 0 hX (by decide) rfl (by decide) rfl q_1311 dX9_comesAhead_22 (fun r9 => ?_)
      refine z_bipush (v := 8) hX (by decide) dX9_comesAhead_25 ?_
      refine z_iload_n hX 5 rfl rfl dX9_comesAhead_27 ?_
      refine z_iadd hX dX9_comesAhead_28 ?_
      refine z_asc ?_
      refine z_aI hX dX9_comesAhead_29 (fun x10 => ?_)
      refine z_i2l hX rfl dX9_comesAhead_30 ?_
      refine z_lmul hX dX9_comesAhead_31 ?_
      refine z_ltB ?_
      refine z_ltL (fun x11 => ?_)
      refine z_lstore hX [(5, .long x11), (7, .long x2), (0, .ref v0), (1, .int v1), (2, .int v2), (3, .int v3), (4, .int v4)] (by decide) rfl dX9_comesAhead_32 ?_
      refine z_iload hX 6 rfl dX9_comesAhead_34 ?_
      refine z_i2l hX rfl dX9_comesAhead_36 ?_
      refine z_aload_n hX 2 rfl rfl dX9_comesAhead_37 ?_
      refine z_asc ?_
      refine z_gFR 9 0 hX (by decide) rfl (by decide) rfl q_1311 dX9_comesAhead_38 (fun r12 => ?_)
      refine z_bipush (v := 8) hX (by decide) dX9_comesAhead_41 ?_
      refine z_iload_n hX 3 rfl rfl dX9_comesAhead_43 ?_
      refine z_iadd hX dX9_comesAhead_44 ?_
      refine z_asc ?_
      refine z_aI hX dX9_comesAhead_45 (fun x13 => ?_)
      refine z_i2l hX rfl dX9_comesAhead_46 ?_
      refine z_lmul hX dX9_comesAhead_47 ?_
      refine z_ltB ?_
      refine z_ltL (fun x14 => ?_)
      refine z_lstore hX [(7, .long x14), (5, .long x11), (0, .ref v0), (1, .int v1), (2, .int v2), (3, .int v3), (4, .int v4)] (by decide) rfl dX9_comesAhead_48 ?_
      refine z_pure ?_
      refine z_sub [2, 3, 5, 1, 0] rfl ?_
      exact kj5 (x11, x14)
theorem c_X9_comesAhead (l : Launch) (hl : l.stackTraces = false) (M : Mem) (v0 : Nat) (v1 : Int32) (v2 : Int32) (v3 : Int32) (v4 : Int32) (o : Int32) (ho : f_X9_comesAhead M v0 v1 v2 v3 v4 = some o) : Ct l yX9_comesAhead cX9_comesAhead 9 (some .boolean) rm_X9_comesAhead [.ref v0, .int v1, .int v2, .int v3, .int v4] M (some (.int o)) M :=
  Ct.of hl (by decide +kernel) (Nat.le_of_ble_eq_true rfl) rfl (fun X hX hin => z_X9_comesAhead hX M v0 v1 v2 v3 v4 o ho)
theorem okV_X9_comesAhead : okV yX9_comesAhead cX9_comesAhead 9 (some .boolean) 4 := ⟨q_1697, q_60, q_96, q_1698, by unfold okY; decide +kernel⟩
/-! ParticipatoryBudgetModel.take(III)V -/
abbrev rm_X9_take : Room := { frames := 1, cells := 0, slots := 0, locals := 21 }
set_option maxRecDepth 20000 in
set_option maxHeartbeats 4000000 in
theorem z_X9_take {X : Cxt} (hX : okX X cX9_take RX9 rm_X9_take (none) 7) (M : Mem) (v0 : Nat) (v1 : Int32) (v2 : Int32) (v3 : Int32) : Zj X (fun o : Mem => Qr X rm_X9_take.cells rm_X9_take.slots (none) o) 0 0 0 [(0, .ref v0), (1, .int v1), (2, .int v2), (3, .int v3)] [] M (f_X9_take M v0 v1 v2 v3) := by
  unfold f_X9_take
  refine z_iload_n hX 3 rfl rfl dX9_take_0 ?_
  refine z_istore hX [(4, .int v3), (0, .ref v0), (1, .int v1), (2, .int v2), (3, .int v3)] (by decide) rfl dX9_take_1 ?_
  refine z_iconst (v := 0) hX (by decide) dX9_take_3 ?_
  refine z_istore hX [(5, .int 0), (4, .int v3), (0, .ref v0), (1, .int v1), (2, .int v2), (3, .int v3)] (by decide) rfl dX9_take_4 ?_
  refine z_sub [2, 3, 4, 1, 0] rfl ?_
  refine z_lp (x0 := (v3, 0, M)) (bd_X9_take_6 v0 v1 v2) 6 123 (fun (u1 : Int32 × Int32 × Mem) => [(0, .ref v0), (1, .int v1), (2, .int v2), (4, .int u1.1), (5, .int u1.2.1)]) (fun (e2 : Int32 × Int32 × Mem) => []) (fun (u1 : Int32 × Int32 × Mem) => u1.2.2) ?_ ?_
  · intro e2
    exact z_vretM hX dX9_take_123 (Nat.le_of_ble_eq_true rfl) (Nat.le_of_ble_eq_true rfl)
  · intro kk3 rc4 hkk3 hrc4 u1
    unfold bd_X9_take_6
    refine z_iload hX 4 rfl dX9_take_6 ?_
    refine z_aload_n hX 0 rfl rfl dX9_take_8 ?_
    refine z_gFI 9 5 hX (by decide) rfl (by decide) rfl q_1316 dX9_take_9 (fun x5 => ?_)
    refine z_icmp_ge hX 123 (by decide) dX9_take_12 (fun _ => ?_) (fun _ => ?_)
    · refine z_sub [] rfl ?_
      exact hkk3 (u1.1, u1.2.1, u1.2.2)
    · refine z_aload_n hX 0 rfl rfl dX9_take_15 ?_
      refine z_gFR 9 10 hX (by decide) rfl (by decide) rfl q_1321 dX9_take_16 (fun r6 => ?_)
      refine z_iload_n hX 2 rfl rfl dX9_take_19 ?_
      refine z_aI hX dX9_take_20 (fun x7 => ?_)
      refine z_iload hX 4 rfl dX9_take_21 ?_
      refine z_cSIp [.int x7, .int u1.2.1] hX (fun l hl o ho => c_X9_has l hl u1.2.2 x7 u1.2.1 o ho) dX9_take_23 q_1537 okS_X9_has rfl ⟨(Nat.le_of_ble_eq_true rfl), (Nat.le_of_ble_eq_true rfl)⟩ rfl (Nat.le_of_ble_eq_true rfl) rfl rfl ⟨(Nat.le_of_ble_eq_true rfl), (Nat.le_of_ble_eq_true rfl)⟩ (fun o8 => ?_)
      refine z_jn (C' := 0) (S' := 0) 117 (fun (j9 : Int32 × Mem) => [(0, .ref v0), (1, .int v1), (2, .int v2), (4, .int j9.1), (5, .int u1.2.1)]) (fun (j9 : Int32 × Mem) => []) (fun (j9 : Int32 × Mem) => j9.2) (fun j9 => ?_) (fun kj9 => ?_)
      · refine z_iinc hX 4 [(5, .int (u1.2.1 + 1)), (0, .ref v0), (1, .int v1), (2, .int v2), (4, .int j9.1)] rfl rfl (by decide) rfl dX9_take_117 ?_
        refine z_goto hX 6 (by decide) dX9_take_120 ?_
        refine z_sub [1, 2, 3, 4, 0] rfl ?_
        exact hrc4 (j9.1, u1.2.1 + 1, j9.2)
      · refine z_iteB ?_
        refine z_if_ne hX 32 (by decide) dX9_take_26 (fun _ => ?_) (fun _ => ?_)
        · refine z_aload_n hX 0 rfl rfl dX9_take_32 ?_
          refine z_asc ?_
          refine z_gFR 9 29 hX (by decide) rfl (by decide) rfl q_1340 dX9_take_33 (fun r10 => ?_)
          refine z_iconst (v := 4) hX (by decide) dX9_take_36 ?_
          refine z_iload_n hX 1 rfl rfl dX9_take_37 ?_
          refine z_imul hX dX9_take_38 ?_
          refine z_iload hX 4 rfl dX9_take_39 ?_
          refine z_iadd hX dX9_take_41 ?_
          refine z_asc ?_
          refine z_aI hX dX9_take_42 (fun x11 => ?_)
          refine z_iload hX 3 rfl dX9_take_43 ?_
          refine z_asc ?_
          refine z_jn (C' := 0) (S' := 0) 64 (fun (j12 : Int32) => [(0, .ref v0), (1, .int v1), (2, .int v2), (4, .int u1.1), (5, .int u1.2.1)]) (fun (j12 : Int32) => [.int j12]) (fun (j12 : Int32) => u1.2.2) (fun j12 => ?_) (fun kj12 => ?_)
          · refine z_istore hX [(6, .int j12), (0, .ref v0), (1, .int v1), (2, .int v2), (4, .int u1.1), (5, .int u1.2.1)] (by decide) rfl dX9_take_64 ?_
            refine z_aload_n hX 1 rfl rfl dX9_take_66 ?_
            refine z_asc ?_
            refine z_gFR 9 29 hX (by decide) rfl (by decide) rfl q_1340 dX9_take_67 (fun r13 => ?_)
            refine z_iconst (v := 4) hX (by decide) dX9_take_70 ?_
            refine z_iload_n hX 2 rfl rfl dX9_take_71 ?_
            refine z_imul hX dX9_take_72 ?_
            refine z_iload hX 5 rfl dX9_take_73 ?_
            refine z_iadd hX dX9_take_75 ?_
            refine z_dup2 hX rfl rfl dX9_take_76 ?_
            refine z_asc ?_
            refine z_aI hX dX9_take_77 (fun x14 => ?_)
            refine z_iload hX 0 rfl dX9_take_78 ?_
            refine z_isub hX dX9_take_80 ?_
            refine z_asc ?_
            refine z_wI hX dX9_take_81 (fun M15 => ?_)
            refine z_aload_n hX 1 rfl rfl dX9_take_82 ?_
            refine z_asc ?_
            refine z_gFR 9 35 hX (by decide) rfl (by decide) rfl q_1346 dX9_take_83 (fun r16 => ?_)
            refine z_iconst (v := 4) hX (by decide) dX9_take_86 ?_
            refine z_iload_n hX 3 rfl rfl dX9_take_87 ?_
            refine z_imul hX dX9_take_88 ?_
            refine z_iload hX 5 rfl dX9_take_89 ?_
            refine z_iadd hX dX9_take_91 ?_
            refine z_dup2 hX rfl rfl dX9_take_92 ?_
            refine z_asc ?_
            refine z_aI hX dX9_take_93 (fun x17 => ?_)
            refine z_iload hX 0 rfl dX9_take_94 ?_
            refine z_iadd hX dX9_take_96 ?_
            refine z_asc ?_
            refine z_wI hX dX9_take_97 (fun M18 => ?_)
            refine z_aload_n hX 1 rfl rfl dX9_take_98 ?_
            refine z_asc ?_
            refine z_gFR 9 36 hX (by decide) rfl (by decide) rfl q_1347 dX9_take_99 (fun r19 => ?_)
            refine z_iload hX 5 rfl dX9_take_102 ?_
            refine z_dup2 hX rfl rfl dX9_take_104 ?_
            refine z_asc ?_
            refine z_aI hX dX9_take_105 (fun x20 => ?_)
            refine z_iload hX 0 rfl dX9_take_106 ?_
            refine z_iadd hX dX9_take_108 ?_
            refine z_asc ?_
            refine z_wI hX dX9_take_109 (fun M21 => ?_)
            refine z_iload hX 4 rfl dX9_take_110 ?_
            refine z_iload hX 0 rfl dX9_take_112 ?_
            refine z_isub hX dX9_take_114 ?_
            refine z_ltB ?_
            refine z_ltI (fun x22 => ?_)
            refine z_istore hX [(4, .int x22), (6, .int j12), (0, .ref v0), (1, .int v1), (2, .int v2), (5, .int u1.2.1)] (by decide) rfl dX9_take_115 ?_
            refine z_pure ?_
            refine z_sub [2, 3, 4, 0, 5] rfl ?_
            exact kj9 (x22, M21)
          · refine z_iteB ?_
            refine z_icmp_ge hX 62 (by decide) dX9_take_45 (fun _ => ?_) (fun _ => ?_)
            · refine z_iload hX 3 rfl dX9_take_62 ?_
              refine z_pure ?_
              refine z_sub [0, 1, 2, 3, 4] rfl ?_
              exact kj12 u1.1
            · refine z_aload_n hX 0 rfl rfl dX9_take_48 ?_
              refine z_asc ?_
              refine z_gFR 9 29 hX (by decide) rfl (by decide) rfl q_1340 dX9_take_49 (fun r23 => ?_)
              refine z_iconst (v := 4) hX (by decide) dX9_take_52 ?_
              refine z_iload_n hX 1 rfl rfl dX9_take_53 ?_
              refine z_imul hX dX9_take_54 ?_
              refine z_iload hX 4 rfl dX9_take_55 ?_
              refine z_iadd hX dX9_take_57 ?_
              refine z_asc ?_
              refine z_aI hX dX9_take_58 (fun x24 => ?_)
              refine z_goto hX 64 (by decide) dX9_take_59 ?_
              refine z_pure ?_
              refine z_sub [0, 1, 2, 3, 4] rfl ?_
              exact kj12 x24
        · refine z_goto hX 117 (by decide) dX9_take_29 ?_
          refine z_pure ?_
          refine z_sub [0, 1, 2, 3, 4] rfl ?_
          exact kj9 (u1.1, u1.2.2)
theorem c_X9_take (l : Launch) (hl : l.stackTraces = false) (M : Mem) (v0 : Nat) (v1 : Int32) (v2 : Int32) (v3 : Int32) (o : Mem) (ho : f_X9_take M v0 v1 v2 v3 = some o) : Ct l yX9_take cX9_take 7 (none) rm_X9_take [.ref v0, .int v1, .int v2, .int v3] M (none) o :=
  Ct.of hl (by decide +kernel) (Nat.le_of_ble_eq_true rfl) rfl (fun X hX hin => z_X9_take hX M v0 v1 v2 v3 o ho)
theorem okV_X9_take : okV yX9_take cX9_take 7 (none) 3 := ⟨q_1709, q_63, q_96, q_1710, by unfold okY; decide +kernel⟩
/-! ParticipatoryBudgetModel.note(I)V -/
abbrev rm_X9_note : Room := { frames := 0, cells := 0, slots := 0, locals := 0 }
set_option maxRecDepth 20000 in
set_option maxHeartbeats 4000000 in
theorem z_X9_note {X : Cxt} (hX : okX X cX9_note RX9 rm_X9_note (none) 2) (M : Mem) (v0 : Nat) (v1 : Int32) : Zj X (fun o : Mem => Qr X rm_X9_note.cells rm_X9_note.slots (none) o) 0 0 0 [(0, .ref v0), (1, .int v1)] [] M (f_X9_note M v0 v1) := by
  unfold f_X9_note
  refine z_aload_n hX 0 rfl rfl dX9_note_0 ?_
  refine z_dup hX rfl dX9_note_1 ?_
  refine z_gFI 9 30 hX (by decide) rfl (by decide) rfl q_1341 dX9_note_2 (fun x1 => ?_)
  refine z_iconst (v := 1) hX (by decide) dX9_note_5 ?_
  refine z_iload_n hX 1 rfl rfl dX9_note_6 ?_
  refine z_ishl hX dX9_note_7 ?_
  refine z_ior hX dX9_note_8 ?_
  refine z_pFI 9 30 hX (by decide) rfl (by decide) rfl q_1341 rfl pd_1 rfl rfl dX9_note_9 (fun M2 => ?_)
  refine z_aload_n hX 0 rfl rfl dX9_note_12 ?_
  refine z_gFR 9 32 hX (by decide) rfl (by decide) rfl q_1343 dX9_note_13 (fun r3 => ?_)
  refine z_aload_n hX 0 rfl rfl dX9_note_16 ?_
  refine z_gFI 9 31 hX (by decide) rfl (by decide) rfl q_1342 dX9_note_17 (fun x4 => ?_)
  refine z_iload_n hX 1 rfl rfl dX9_note_20 ?_
  refine z_wI hX dX9_note_21 (fun M5 => ?_)
  refine z_aload_n hX 0 rfl rfl dX9_note_22 ?_
  refine z_dup hX rfl dX9_note_23 ?_
  refine z_gFI 9 31 hX (by decide) rfl (by decide) rfl q_1342 dX9_note_24 (fun x6 => ?_)
  refine z_iconst (v := 1) hX (by decide) dX9_note_27 ?_
  refine z_iadd hX dX9_note_28 ?_
  refine z_pFI 9 31 hX (by decide) rfl (by decide) rfl q_1342 rfl pd_1 rfl rfl dX9_note_29 (fun M7 => ?_)
  exact z_vretM hX dX9_note_32 (Nat.le_of_ble_eq_true rfl) (Nat.le_of_ble_eq_true rfl)
theorem c_X9_note (l : Launch) (hl : l.stackTraces = false) (M : Mem) (v0 : Nat) (v1 : Int32) (o : Mem) (ho : f_X9_note M v0 v1 = some o) : Ct l yX9_note cX9_note 2 (none) rm_X9_note [.ref v0, .int v1] M (none) o :=
  Ct.of hl (by decide +kernel) (Nat.le_of_ble_eq_true rfl) rfl (fun X hX hin => z_X9_note hX M v0 v1 o ho)
theorem okV_X9_note : okV yX9_note cX9_note 2 (none) 1 := ⟨q_1705, q_62, q_96, q_1706, by unfold okY; decide +kernel⟩
/-! ParticipatoryBudgetModel.fund(II)V -/
abbrev rm_X9_fund : Room := { frames := 4, cells := 0, slots := 0, locals := 93 }
set_option maxRecDepth 20000 in
set_option maxHeartbeats 4000000 in
theorem z_X9_fund {X : Cxt} (hX : okX X cX9_fund RX9 rm_X9_fund (none) 7) (M : Mem) (v0 : Nat) (v1 : Int32) (v2 : Int32) : Zj X (fun o : Mem => Qr X rm_X9_fund.cells rm_X9_fund.slots (none) o) 0 0 0 [(0, .ref v0), (1, .int v1), (2, .int v2)] [] M (f_X9_fund M v0 v1 v2) := by
  unfold f_X9_fund
  refine z_aload_n hX 0 rfl rfl dX9_fund_0 ?_
  refine z_iload_n hX 1 rfl rfl dX9_fund_1 ?_
  refine z_cVVm 9 [.int v1] hX (fun l hl o ho => c_X9_note l hl M v0 v1 o ho) dX9_fund_2 (by decide) rfl rfl q_1703 okV_X9_note rfl ⟨(Nat.le_of_ble_eq_true rfl), (Nat.le_of_ble_eq_true rfl)⟩ rfl (Nat.le_of_ble_eq_true rfl) rfl rfl ⟨(Nat.le_of_ble_eq_true rfl), (Nat.le_of_ble_eq_true rfl)⟩ (fun o1 => ?_)
  refine z_aload_n hX 0 rfl rfl dX9_fund_5 ?_
  refine z_gFR 9 33 hX (by decide) rfl (by decide) rfl q_1344 dX9_fund_6 (fun r2 => ?_)
  refine z_iload_n hX 1 rfl rfl dX9_fund_9 ?_
  refine z_iload_n hX 2 rfl rfl dX9_fund_10 ?_
  refine z_wI hX dX9_fund_11 (fun M3 => ?_)
  refine z_aload_n hX 0 rfl rfl dX9_fund_12 ?_
  refine z_iload_n hX 1 rfl rfl dX9_fund_13 ?_
  refine z_iload_n hX 2 rfl rfl dX9_fund_14 ?_
  refine z_cVIp 9 [.int v1, .int v2] hX (fun l hl o ho => c_X9_sharesAt l hl M3 v0 v1 v2 o ho) dX9_fund_15 (by decide) rfl rfl q_1667 okV_X9_sharesAt rfl ⟨(Nat.le_of_ble_eq_true rfl), (Nat.le_of_ble_eq_true rfl)⟩ rfl (Nat.le_of_ble_eq_true rfl) rfl rfl ⟨(Nat.le_of_ble_eq_true rfl), (Nat.le_of_ble_eq_true rfl)⟩ (fun o4 => ?_)
  refine z_aload_n hX 0 rfl rfl dX9_fund_18 ?_
  refine z_gFR 9 0 hX (by decide) rfl (by decide) rfl q_1311 dX9_fund_19 (fun r5 => ?_)
  refine z_bipush (v := 8) hX (by decide) dX9_fund_22 ?_
  refine z_iload_n hX 1 rfl rfl dX9_fund_24 ?_
  refine z_iadd hX dX9_fund_25 ?_
  refine z_aI hX dX9_fund_26 (fun x6 => ?_)
  refine z_isub hX dX9_fund_27 ?_
  refine z_ltI (fun x7 => ?_)
  refine z_istore_n hX [(3, .int x7), (0, .ref v0), (1, .int v1), (2, .int v2)] rfl (by decide) rfl dX9_fund_28 ?_
  refine z_aload_n hX 1 rfl rfl dX9_fund_29 ?_
  refine z_gFI 9 7 hX (by decide) rfl (by decide) rfl q_1318 dX9_fund_30 (fun x8 => ?_)
  refine z_iconst (v := 1) hX (by decide) dX9_fund_33 ?_
  refine z_isub hX dX9_fund_34 ?_
  refine z_ltI (fun x9 => ?_)
  refine z_istore hX [(4, .int x9), (3, .int x7), (0, .ref v0), (1, .int v1), (2, .int v2)] (by decide) rfl dX9_fund_35 ?_
  refine z_sub [2, 3, 4, 1, 0] rfl ?_
  refine z_lp (x0 := (x7, x9, M3)) (bd_X9_fund_37 v0 v1 v2) 37 122 (fun (u10 : Int32 × Int32 × Mem) => [(0, .ref v0), (1, .int v1), (2, .int v2), (3, .int u10.1), (4, .int u10.2.1)]) (fun (e11 : Int32 × Int32 × Mem) => [(0, .ref v0), (1, .int v1)]) (fun (u10 : Int32 × Int32 × Mem) => u10.2.2) ?_ ?_
  · intro e11
    refine z_iconst (v := 0) hX (by decide) dX9_fund_122 ?_
    refine z_istore hX [(4, .int 0), (0, .ref v0), (1, .int v1)] (by decide) rfl dX9_fund_123 ?_
    refine z_sub [1, 2, 0] rfl ?_
    refine z_lp (x0 := (0, e11.2.2)) (bd_X9_fund_125 v0 v1) 125 159 (fun (u24 : Int32 × Mem) => [(0, .ref v0), (1, .int v1), (4, .int u24.1)]) (fun (e25 : Int32 × Mem) => []) (fun (u24 : Int32 × Mem) => u24.2) ?_ ?_
    · intro e25
      exact z_vretM hX dX9_fund_159 (Nat.le_of_ble_eq_true rfl) (Nat.le_of_ble_eq_true rfl)
    · intro kk26 rc27 hkk26 hrc27 u24
      unfold bd_X9_fund_125
      refine z_iload hX 2 rfl dX9_fund_125 ?_
      refine z_aload_n hX 0 rfl rfl dX9_fund_127 ?_
      refine z_gFI 9 7 hX (by decide) rfl (by decide) rfl q_1318 dX9_fund_128 (fun x28 => ?_)
      refine z_icmp_ge hX 159 (by decide) dX9_fund_131 (fun _ => ?_) (fun _ => ?_)
      · refine z_sub [] rfl ?_
        exact hkk26 (u24.1, u24.2)
      · refine z_aload_n hX 0 rfl rfl dX9_fund_134 ?_
        refine z_iload hX 2 rfl dX9_fund_135 ?_
        refine z_iload_n hX 1 rfl rfl dX9_fund_137 ?_
        refine z_aload_n hX 0 rfl rfl dX9_fund_138 ?_
        refine z_gFR 9 34 hX (by decide) rfl (by decide) rfl q_1345 dX9_fund_139 (fun r29 => ?_)
        refine z_bipush (v := 24) hX (by decide) dX9_fund_142 ?_
        refine z_iload_n hX 1 rfl rfl dX9_fund_144 ?_
        refine z_imul hX dX9_fund_145 ?_
        refine z_iload hX 2 rfl dX9_fund_146 ?_
        refine z_iadd hX dX9_fund_148 ?_
        refine z_aI hX dX9_fund_149 (fun x30 => ?_)
        refine z_cVVm 9 [.int u24.1, .int v1, .int x30] hX (fun l hl o ho => c_X9_take l hl u24.2 v0 u24.1 v1 x30 o ho) dX9_fund_150 (by decide) rfl rfl q_1707 okV_X9_take rfl ⟨(Nat.le_of_ble_eq_true rfl), (Nat.le_of_ble_eq_true rfl)⟩ rfl (Nat.le_of_ble_eq_true rfl) rfl rfl ⟨(Nat.le_of_ble_eq_true rfl), (Nat.le_of_ble_eq_true rfl)⟩ (fun o31 => ?_)
        refine z_iinc hX 2 [(4, .int (u24.1 + 1)), (0, .ref v0), (1, .int v1)] rfl rfl (by decide) rfl dX9_fund_153 ?_
        refine z_goto hX 125 (by decide) dX9_fund_156 ?_
        refine z_sub [1, 2, 0] rfl ?_
        exact hrc27 (u24.1 + 1, o31)
  · intro kk12 rc13 hkk12 hrc13 u10
    unfold bd_X9_fund_37
    refine z_iload hX 4 rfl dX9_fund_37 ?_
    refine z_if_lt hX 122 (by decide) dX9_fund_39 (fun _ => ?_) (fun _ => ?_)
    · refine z_sub [0, 1] rfl ?_
      exact hkk12 (u10.1, u10.2.1, u10.2.2)
    · refine z_aload_n hX 0 rfl rfl dX9_fund_42 ?_
      refine z_iload hX 4 rfl dX9_fund_43 ?_
      refine z_iload_n hX 1 rfl rfl dX9_fund_45 ?_
      refine z_cVIp 9 [.int u10.2.1, .int v1] hX (fun l hl o ho => c_X9_supports l hl u10.2.2 v0 u10.2.1 v1 o ho) dX9_fund_46 (by decide) rfl rfl q_1627 okV_X9_supports rfl ⟨(Nat.le_of_ble_eq_true rfl), (Nat.le_of_ble_eq_true rfl)⟩ rfl (Nat.le_of_ble_eq_true rfl) rfl rfl ⟨(Nat.le_of_ble_eq_true rfl), (Nat.le_of_ble_eq_true rfl)⟩ (fun o14 => ?_)
      refine z_jn (C' := 0) (S' := 0) 116 (fun (j15 : Int32 × Mem) => [(0, .ref v0), (1, .int v1), (2, .int v2), (3, .int j15.1), (4, .int u10.2.1)]) (fun (j15 : Int32 × Mem) => []) (fun (j15 : Int32 × Mem) => j15.2) (fun j15 => ?_) (fun kj15 => ?_)
      · obtain ⟨w16, hw16⟩ : ∃ z : Int32, u10.2.1 + (-1) = z := ⟨_, rfl⟩
        rw [hw16]
        refine z_iinc hX 4 [(4, .int w16), (0, .ref v0), (1, .int v1), (2, .int v2), (3, .int j15.1)] rfl ((congrArg (fun z : Int32 => u10.2.1 + z) (show Int32.ofInt (-1) = (-1) by decide)).trans hw16) (by decide) rfl dX9_fund_116 ?_
        refine z_goto hX 37 (by decide) dX9_fund_119 ?_
        refine z_sub [1, 2, 3, 4, 0] rfl ?_
        exact hrc13 (j15.1, w16, j15.2)
      · refine z_iteB ?_
        refine z_if_ne hX 55 (by decide) dX9_fund_49 (fun _ => ?_) (fun _ => ?_)
        · refine z_aload_n hX 0 rfl rfl dX9_fund_55 ?_
          refine z_iload hX 4 rfl dX9_fund_56 ?_
          refine z_iload_n hX 1 rfl rfl dX9_fund_58 ?_
          refine z_iload_n hX 2 rfl rfl dX9_fund_59 ?_
          refine z_asc ?_
          refine z_asc2 ?_
          refine z_cVIp 9 [.int u10.2.1, .int v1, .int v2] hX (fun l hl o ho => c_X9_shareOf l hl u10.2.2 v0 u10.2.1 v1 v2 o ho) dX9_fund_60 (by decide) rfl rfl q_1671 okV_X9_shareOf rfl ⟨(Nat.le_of_ble_eq_true rfl), (Nat.le_of_ble_eq_true rfl)⟩ rfl (Nat.le_of_ble_eq_true rfl) rfl rfl ⟨(Nat.le_of_ble_eq_true rfl), (Nat.le_of_ble_eq_true rfl)⟩ (fun o17 => ?_)
          refine z_istore hX [(5, .int o17), (0, .ref v0), (1, .int v1), (2, .int v2), (3, .int u10.1), (4, .int u10.2.1)] (by decide) rfl dX9_fund_63 ?_
          refine z_iload hX 0 rfl dX9_fund_65 ?_
          refine z_aload_n hX 1 rfl rfl dX9_fund_67 ?_
          refine z_iload hX 5 rfl dX9_fund_68 ?_
          refine z_iload_n hX 2 rfl rfl dX9_fund_70 ?_
          refine z_iload_n hX 3 rfl rfl dX9_fund_71 ?_
          refine z_iconst (v := 1) hX (by decide) dX9_fund_72 ?_
          refine z_isub hX dX9_fund_73 ?_
          refine z_asc ?_
          refine z_asc2 ?_
          refine z_cVIp 9 [.int u10.2.1, .int v1, .int (v2 - 1)] hX (fun l hl o ho => c_X9_shareOf l hl u10.2.2 v0 u10.2.1 v1 (v2 - 1) o ho) dX9_fund_74 (by decide) rfl rfl q_1671 okV_X9_shareOf rfl ⟨(Nat.le_of_ble_eq_true rfl), (Nat.le_of_ble_eq_true rfl)⟩ rfl (Nat.le_of_ble_eq_true rfl) rfl rfl ⟨(Nat.le_of_ble_eq_true rfl), (Nat.le_of_ble_eq_true rfl)⟩ (fun o18 => ?_)
          refine z_isub hX dX9_fund_77 ?_
          refine z_ltB ?_
          refine z_ltI (fun x19 => ?_)
          refine z_istore hX [(6, .int x19), (5, .int o17), (0, .ref v0), (1, .int v1), (2, .int v2), (3, .int u10.1), (4, .int u10.2.1)] (by decide) rfl dX9_fund_78 ?_
          refine z_iload hX 0 rfl dX9_fund_80 ?_
          refine z_iload_n hX 5 rfl rfl dX9_fund_82 ?_
          refine z_asc ?_
          refine z_jn (C' := 0) (S' := 0) 92 (fun (j20 : Int32) => [(0, .ref v0), (1, .int v1), (2, .int v2), (3, .int u10.1), (4, .int u10.2.1), (5, .int o17)]) (fun (j20 : Int32) => [.int j20]) (fun (j20 : Int32) => u10.2.2) (fun j20 => ?_) (fun kj20 => ?_)
          · refine z_istore hX [(6, .int j20), (0, .ref v0), (1, .int v1), (2, .int v2), (3, .int u10.1), (4, .int u10.2.1), (5, .int o17)] (by decide) rfl dX9_fund_92 ?_
            refine z_iload_n hX 4 rfl rfl dX9_fund_94 ?_
            refine z_iload hX 0 rfl dX9_fund_95 ?_
            refine z_isub hX dX9_fund_97 ?_
            refine z_ltB ?_
            refine z_ltI (fun x21 => ?_)
            refine z_istore_n hX [(3, .int x21), (6, .int j20), (0, .ref v0), (1, .int v1), (2, .int v2), (4, .int u10.2.1), (5, .int o17)] rfl (by decide) rfl dX9_fund_98 ?_
            refine z_aload_n hX 2 rfl rfl dX9_fund_99 ?_
            refine z_asc ?_
            refine z_gFR 9 34 hX (by decide) rfl (by decide) rfl q_1345 dX9_fund_100 (fun r22 => ?_)
            refine z_bipush (v := 24) hX (by decide) dX9_fund_103 ?_
            refine z_iload_n hX 3 rfl rfl dX9_fund_105 ?_
            refine z_imul hX dX9_fund_106 ?_
            refine z_iload hX 5 rfl dX9_fund_107 ?_
            refine z_iadd hX dX9_fund_109 ?_
            refine z_iload hX 6 rfl dX9_fund_110 ?_
            refine z_iload hX 1 rfl dX9_fund_112 ?_
            refine z_isub hX dX9_fund_114 ?_
            refine z_asc ?_
            refine z_wI hX dX9_fund_115 (fun M23 => ?_)
            refine z_pure ?_
            refine z_sub [2, 3, 4, 0, 5] rfl ?_
            exact kj15 (x21, M23)
          · refine z_iteB ?_
            refine z_icmp_ge hX 91 (by decide) dX9_fund_83 (fun _ => ?_) (fun _ => ?_)
            · refine z_iload_n hX 5 rfl rfl dX9_fund_91 ?_
              refine z_pure ?_
              refine z_sub [2, 3, 4, 5, 6, 1] rfl ?_
              exact kj20 u10.1
            · refine z_iload hX 0 rfl dX9_fund_86 ?_
              refine z_goto hX 92 (by decide) dX9_fund_88 ?_
              refine z_pure ?_
              refine z_sub [2, 3, 4, 5, 6, 1] rfl ?_
              exact kj20 x19
        · refine z_goto hX 116 (by decide) dX9_fund_52 ?_
          refine z_pure ?_
          refine z_sub [0, 1, 2, 3, 4] rfl ?_
          exact kj15 (u10.1, u10.2.2)
theorem c_X9_fund (l : Launch) (hl : l.stackTraces = false) (M : Mem) (v0 : Nat) (v1 : Int32) (v2 : Int32) (o : Mem) (ho : f_X9_fund M v0 v1 v2 = some o) : Ct l yX9_fund cX9_fund 7 (none) rm_X9_fund [.ref v0, .int v1, .int v2] M (none) o :=
  Ct.of hl (by decide +kernel) (Nat.le_of_ble_eq_true rfl) rfl (fun X hX hin => z_X9_fund hX M v0 v1 v2 o ho)
theorem okV_X9_fund : okV yX9_fund cX9_fund 7 (none) 2 := ⟨q_1701, q_61, q_96, q_1702, by unfold okY; decide +kernel⟩
/-! ParticipatoryBudgetModel.clearResult()V -/
abbrev rm_X9_clearResult : Room := { frames := 0, cells := 0, slots := 0, locals := 0 }
set_option maxRecDepth 20000 in
set_option maxHeartbeats 4000000 in
theorem z_X9_clearResult {X : Cxt} (hX : okX X cX9_clearResult RX9 rm_X9_clearResult (none) 2) (M : Mem) (v0 : Nat) : Zj X (fun o : Mem => Qr X rm_X9_clearResult.cells rm_X9_clearResult.slots (none) o) 0 0 0 [(0, .ref v0)] [] M (f_X9_clearResult M v0) := by
  unfold f_X9_clearResult
  refine z_aload_n hX 0 rfl rfl dX9_clearResult_0 ?_
  refine z_iconst (v := 0) hX (by decide) dX9_clearResult_1 ?_
  refine z_pFI 9 30 hX (by decide) rfl (by decide) rfl q_1341 rfl pd_1 rfl rfl dX9_clearResult_2 (fun M1 => ?_)
  refine z_aload_n hX 0 rfl rfl dX9_clearResult_5 ?_
  refine z_iconst (v := 0) hX (by decide) dX9_clearResult_6 ?_
  refine z_pFI 9 31 hX (by decide) rfl (by decide) rfl q_1342 rfl pd_1 rfl rfl dX9_clearResult_7 (fun M2 => ?_)
  refine z_iconst (v := 0) hX (by decide) dX9_clearResult_10 ?_
  refine z_istore_n hX [(1, .int 0), (0, .ref v0)] rfl (by decide) rfl dX9_clearResult_11 ?_
  refine z_sub [1, 0] rfl ?_
  refine z_lp (x0 := (0, M2)) (bd_X9_clearResult_12 v0) 12 31 (fun (u3 : Int32 × Mem) => [(0, .ref v0), (1, .int u3.1)]) (fun (e4 : Int32 × Mem) => [(0, .ref v0)]) (fun (u3 : Int32 × Mem) => u3.2) ?_ ?_
  · intro e4
    refine z_iconst (v := 0) hX (by decide) dX9_clearResult_31 ?_
    refine z_istore_n hX [(1, .int 0), (0, .ref v0)] rfl (by decide) rfl dX9_clearResult_32 ?_
    refine z_sub [1, 0] rfl ?_
    refine z_lp (x0 := (0, e4.2)) (bd_X9_clearResult_33 v0) 33 53 (fun (u9 : Int32 × Mem) => [(0, .ref v0), (1, .int u9.1)]) (fun (e10 : Int32 × Mem) => [(0, .ref v0)]) (fun (u9 : Int32 × Mem) => u9.2) ?_ ?_
    · intro e10
      refine z_iconst (v := 0) hX (by decide) dX9_clearResult_53 ?_
      refine z_istore_n hX [(1, .int 0), (0, .ref v0)] rfl (by decide) rfl dX9_clearResult_54 ?_
      refine z_sub [1, 0] rfl ?_
      refine z_lp (x0 := (0, e10.2)) (bd_X9_clearResult_55 v0) 55 74 (fun (u15 : Int32 × Mem) => [(0, .ref v0), (1, .int u15.1)]) (fun (e16 : Int32 × Mem) => [(0, .ref v0)]) (fun (u15 : Int32 × Mem) => u15.2) ?_ ?_
      · intro e16
        refine z_iconst (v := 0) hX (by decide) dX9_clearResult_74 ?_
        refine z_istore_n hX [(1, .int 0), (0, .ref v0)] rfl (by decide) rfl dX9_clearResult_75 ?_
        refine z_sub [1, 0] rfl ?_
        refine z_lp (x0 := (0, e16.2)) (bd_X9_clearResult_76 v0) 76 94 (fun (u21 : Int32 × Mem) => [(0, .ref v0), (1, .int u21.1)]) (fun (e22 : Int32 × Mem) => []) (fun (u21 : Int32 × Mem) => u21.2) ?_ ?_
        · intro e22
          exact z_vretM hX dX9_clearResult_94 (Nat.le_of_ble_eq_true rfl) (Nat.le_of_ble_eq_true rfl)
        · intro kk23 rc24 hkk23 hrc24 u21
          unfold bd_X9_clearResult_76
          refine z_iload_n hX 1 rfl rfl dX9_clearResult_76 ?_
          refine z_iconst (v := 4) hX (by decide) dX9_clearResult_77 ?_
          refine z_icmp_ge hX 94 (by decide) dX9_clearResult_78 (fun _ => ?_) (fun _ => ?_)
          · refine z_sub [] rfl ?_
            exact hkk23 (u21.1, u21.2)
          · refine z_aload_n hX 0 rfl rfl dX9_clearResult_81 ?_
            refine z_gFR 9 36 hX (by decide) rfl (by decide) rfl q_1347 dX9_clearResult_82 (fun r25 => ?_)
            refine z_iload_n hX 1 rfl rfl dX9_clearResult_85 ?_
            refine z_iconst (v := 0) hX (by decide) dX9_clearResult_86 ?_
            refine z_wI hX dX9_clearResult_87 (fun M26 => ?_)
            refine z_iinc hX 1 [(1, .int (u21.1 + 1)), (0, .ref v0)] rfl rfl (by decide) rfl dX9_clearResult_88 ?_
            refine z_goto hX 76 (by decide) dX9_clearResult_91 ?_
            refine z_sub [1, 0] rfl ?_
            exact hrc24 (u21.1 + 1, M26)
      · intro kk17 rc18 hkk17 hrc18 u15
        unfold bd_X9_clearResult_55
        refine z_iload_n hX 1 rfl rfl dX9_clearResult_55 ?_
        refine z_bipush (v := 48) hX (by decide) dX9_clearResult_56 ?_
        refine z_icmp_ge hX 74 (by decide) dX9_clearResult_58 (fun _ => ?_) (fun _ => ?_)
        · refine z_sub [0] rfl ?_
          exact hkk17 (u15.1, u15.2)
        · refine z_aload_n hX 0 rfl rfl dX9_clearResult_61 ?_
          refine z_gFR 9 35 hX (by decide) rfl (by decide) rfl q_1346 dX9_clearResult_62 (fun r19 => ?_)
          refine z_iload_n hX 1 rfl rfl dX9_clearResult_65 ?_
          refine z_iconst (v := 0) hX (by decide) dX9_clearResult_66 ?_
          refine z_wI hX dX9_clearResult_67 (fun M20 => ?_)
          refine z_iinc hX 1 [(1, .int (u15.1 + 1)), (0, .ref v0)] rfl rfl (by decide) rfl dX9_clearResult_68 ?_
          refine z_goto hX 55 (by decide) dX9_clearResult_71 ?_
          refine z_sub [1, 0] rfl ?_
          exact hrc18 (u15.1 + 1, M20)
    · intro kk11 rc12 hkk11 hrc12 u9
      unfold bd_X9_clearResult_33
      refine z_iload_n hX 1 rfl rfl dX9_clearResult_33 ?_
      refine z_sipush (v := 288) hX (by decide) dX9_clearResult_34 ?_
      refine z_icmp_ge hX 53 (by decide) dX9_clearResult_37 (fun _ => ?_) (fun _ => ?_)
      · refine z_sub [0] rfl ?_
        exact hkk11 (u9.1, u9.2)
      · refine z_aload_n hX 0 rfl rfl dX9_clearResult_40 ?_
        refine z_gFR 9 34 hX (by decide) rfl (by decide) rfl q_1345 dX9_clearResult_41 (fun r13 => ?_)
        refine z_iload_n hX 1 rfl rfl dX9_clearResult_44 ?_
        refine z_iconst (v := 0) hX (by decide) dX9_clearResult_45 ?_
        refine z_wI hX dX9_clearResult_46 (fun M14 => ?_)
        refine z_iinc hX 1 [(1, .int (u9.1 + 1)), (0, .ref v0)] rfl rfl (by decide) rfl dX9_clearResult_47 ?_
        refine z_goto hX 33 (by decide) dX9_clearResult_50 ?_
        refine z_sub [1, 0] rfl ?_
        exact hrc12 (u9.1 + 1, M14)
  · intro kk5 rc6 hkk5 hrc6 u3
    unfold bd_X9_clearResult_12
    refine z_iload_n hX 1 rfl rfl dX9_clearResult_12 ?_
    refine z_bipush (v := 12) hX (by decide) dX9_clearResult_13 ?_
    refine z_icmp_ge hX 31 (by decide) dX9_clearResult_15 (fun _ => ?_) (fun _ => ?_)
    · refine z_sub [0] rfl ?_
      exact hkk5 (u3.1, u3.2)
    · refine z_aload_n hX 0 rfl rfl dX9_clearResult_18 ?_
      refine z_gFR 9 33 hX (by decide) rfl (by decide) rfl q_1344 dX9_clearResult_19 (fun r7 => ?_)
      refine z_iload_n hX 1 rfl rfl dX9_clearResult_22 ?_
      refine z_iconst (v := (-1)) hX (by decide) dX9_clearResult_23 ?_
      refine z_wI hX dX9_clearResult_24 (fun M8 => ?_)
      refine z_iinc hX 1 [(1, .int (u3.1 + 1)), (0, .ref v0)] rfl rfl (by decide) rfl dX9_clearResult_25 ?_
      refine z_goto hX 12 (by decide) dX9_clearResult_28 ?_
      refine z_sub [1, 0] rfl ?_
      exact hrc6 (u3.1 + 1, M8)
theorem c_X9_clearResult (l : Launch) (hl : l.stackTraces = false) (M : Mem) (v0 : Nat) (o : Mem) (ho : f_X9_clearResult M v0 = some o) : Ct l yX9_clearResult cX9_clearResult 2 (none) rm_X9_clearResult [.ref v0] M (none) o :=
  Ct.of hl (by decide +kernel) (Nat.le_of_ble_eq_true rfl) rfl (fun X hX hin => z_X9_clearResult hX M v0 o ho)
theorem okV_X9_clearResult : okV yX9_clearResult cX9_clearResult 2 (none) 0 := ⟨q_1693, q_59, q_96, q_1694, by unfold okY; decide +kernel⟩
/-! ParticipatoryBudgetModel.rounds(I)V -/
abbrev rm_X9_rounds : Room := { frames := 5, cells := 0, slots := 0, locals := 119 }
set_option maxRecDepth 20000 in
set_option maxHeartbeats 4000000 in
theorem z_X9_rounds {X : Cxt} (hX : okX X cX9_rounds RX9 rm_X9_rounds (none) 6) (M : Mem) (v0 : Nat) (v1 : Int32) : Zj X (fun o : Mem => Qr X rm_X9_rounds.cells rm_X9_rounds.slots (none) o) 0 0 0 [(0, .ref v0), (1, .int v1)] [] M (f_X9_rounds M v0 v1) := by
  unfold f_X9_rounds
  refine z_aload_n hX 0 rfl rfl dX9_rounds_0 ?_
  refine z_cVVm 9 [] hX (fun l hl o ho => c_X9_clearResult l hl M v0 o ho) dX9_rounds_1 (by decide) rfl rfl q_1691 okV_X9_clearResult rfl ⟨(Nat.le_of_ble_eq_true rfl), (Nat.le_of_ble_eq_true rfl)⟩ rfl (Nat.le_of_ble_eq_true rfl) rfl rfl ⟨(Nat.le_of_ble_eq_true rfl), (Nat.le_of_ble_eq_true rfl)⟩ (fun o1 => ?_)
  refine z_aload_n hX 0 rfl rfl dX9_rounds_4 ?_
  refine z_iload_n hX 1 rfl rfl dX9_rounds_5 ?_
  refine z_cVVm 9 [.int v1] hX (fun l hl o ho => c_X9_fillPurses l hl o1 v0 v1 o ho) dX9_rounds_6 (by decide) rfl rfl q_1651 okV_X9_fillPurses rfl ⟨(Nat.le_of_ble_eq_true rfl), (Nat.le_of_ble_eq_true rfl)⟩ rfl (Nat.le_of_ble_eq_true rfl) rfl rfl ⟨(Nat.le_of_ble_eq_true rfl), (Nat.le_of_ble_eq_true rfl)⟩ (fun o2 => ?_)
  refine z_iconst (v := 0) hX (by decide) dX9_rounds_9 ?_
  refine z_istore_n hX [(2, .int 0), (0, .ref v0), (1, .int v1)] rfl (by decide) rfl dX9_rounds_10 ?_
  refine z_sub [1, 0] rfl ?_
  refine z_lp (x0 := (0, o2)) (bd_X9_rounds_11 v0) 11 116 (fun (u3 : Int32 × Mem) => [(0, .ref v0), (2, .int u3.1)]) (fun (e4 : Int32 × Mem) => []) (fun (u3 : Int32 × Mem) => u3.2) ?_ ?_
  · intro e4
    exact z_vretM hX dX9_rounds_116 (Nat.le_of_ble_eq_true rfl) (Nat.le_of_ble_eq_true rfl)
  · intro kk5 rc6 hkk5 hrc6 u3
    unfold bd_X9_rounds_11
    refine z_iload_n hX 1 rfl rfl dX9_rounds_11 ?_
    refine z_if_lt hX 116 (by decide) dX9_rounds_12 (fun _ => ?_) (fun _ => ?_)
    · refine z_sub [] rfl ?_
      exact hkk5 (u3.1, u3.2)
    · refine z_aload_n hX 0 rfl rfl dX9_rounds_15 ?_
      refine z_gFI 9 31 hX (by decide) rfl (by decide) rfl q_1342 dX9_rounds_16 (fun x7 => ?_)
      refine z_aload_n hX 0 rfl rfl dX9_rounds_19 ?_
      refine z_gFI 9 37 hX (by decide) rfl (by decide) rfl q_1348 dX9_rounds_20 (fun x8 => ?_)
      refine z_icmp_ge hX 116 (by decide) dX9_rounds_23 (fun _ => ?_) (fun _ => ?_)
      · refine z_sub [] rfl ?_
        exact hkk5 (u3.1, u3.2)
      · refine z_iconst (v := (-1)) hX (by decide) dX9_rounds_26 ?_
        refine z_ltI (fun x9 => ?_)
        refine z_istore_n hX [(2, .int x9), (0, .ref v0)] rfl (by decide) rfl dX9_rounds_27 ?_
        refine z_iconst (v := 0) hX (by decide) dX9_rounds_28 ?_
        refine z_istore_n hX [(3, .int 0), (2, .int x9), (0, .ref v0)] rfl (by decide) rfl dX9_rounds_29 ?_
        refine z_iconst (v := 0) hX (by decide) dX9_rounds_30 ?_
        refine z_istore hX [(4, .int 0), (3, .int 0), (2, .int x9), (0, .ref v0)] (by decide) rfl dX9_rounds_31 ?_
        refine z_sub [3, 2, 1, 0] rfl ?_
        refine z_lp (x0 := (x9, 0, 0)) (bd_X9_rounds_33 v0 u3) 33 103 (fun (u10 : Int32 × Int32 × Int32) => [(0, .ref v0), (2, .int u10.1), (3, .int u10.2.1), (4, .int u10.2.2)]) (fun (e11 : Int32 × Int32 × Int32) => [(0, .ref v0), (2, .int e11.1), (3, .int e11.2.1)]) (fun (u10 : Int32 × Int32 × Int32) => u3.2) ?_ ?_
        · intro e11
          refine z_iload_n hX 1 rfl rfl dX9_rounds_103 ?_
          refine z_jn (C' := 0) (S' := 0) 113 (fun (j21 : Mem) => [(0, .ref v0), (2, .int e11.1)]) (fun (j21 : Mem) => []) (fun (j21 : Mem) => j21) (fun j21 => ?_) (fun kj21 => ?_)
          · refine z_goto hX 11 (by decide) dX9_rounds_113 ?_
            refine z_sub [0, 1] rfl ?_
            exact hrc6 (e11.1, j21)
          · refine z_iteB ?_
            refine z_if_lt hX 113 (by decide) dX9_rounds_104 (fun _ => ?_) (fun _ => ?_)
            · refine z_pure ?_
              refine z_sub [0, 1] rfl ?_
              exact kj21 u3.2
            · refine z_aload_n hX 0 rfl rfl dX9_rounds_107 ?_
              refine z_iload_n hX 1 rfl rfl dX9_rounds_108 ?_
              refine z_iload_n hX 2 rfl rfl dX9_rounds_109 ?_
              refine z_asc ?_
              refine z_asc2 ?_
              refine z_cVVm 9 [.int e11.1, .int e11.2.1] hX (fun l hl o ho => c_X9_fund l hl u3.2 v0 e11.1 e11.2.1 o ho) dX9_rounds_110 (by decide) rfl rfl q_1699 okV_X9_fund rfl ⟨(Nat.le_of_ble_eq_true rfl), (Nat.le_of_ble_eq_true rfl)⟩ rfl (Nat.le_of_ble_eq_true rfl) rfl rfl ⟨(Nat.le_of_ble_eq_true rfl), (Nat.le_of_ble_eq_true rfl)⟩ (fun o22 => ?_)
              refine z_pure ?_
              refine z_sub [0, 1] rfl ?_
              exact kj21 o22
        · intro kk12 rc13 hkk12 hrc13 u10
          unfold bd_X9_rounds_33
          refine z_iload hX 3 rfl dX9_rounds_33 ?_
          refine z_aload_n hX 0 rfl rfl dX9_rounds_35 ?_
          refine z_gFI 9 6 hX (by decide) rfl (by decide) rfl q_1317 dX9_rounds_36 (fun x14 => ?_)
          refine z_icmp_ge hX 103 (by decide) dX9_rounds_39 (fun _ => ?_) (fun _ => ?_)
          · refine z_sub [0, 1, 2] rfl ?_
            exact hkk12 (u10.1, u10.2.1, u10.2.2)
          · refine z_aload_n hX 0 rfl rfl dX9_rounds_42 ?_
            refine z_gFI 9 30 hX (by decide) rfl (by decide) rfl q_1341 dX9_rounds_43 (fun x15 => ?_)
            refine z_iload hX 3 rfl dX9_rounds_46 ?_
            refine z_cSIp [.int x15, .int u10.2.2] hX (fun l hl o ho => c_X9_has l hl u3.2 x15 u10.2.2 o ho) dX9_rounds_48 q_1537 okS_X9_has rfl ⟨(Nat.le_of_ble_eq_true rfl), (Nat.le_of_ble_eq_true rfl)⟩ rfl (Nat.le_of_ble_eq_true rfl) rfl rfl ⟨(Nat.le_of_ble_eq_true rfl), (Nat.le_of_ble_eq_true rfl)⟩ (fun o16 => ?_)
            refine z_jn (C' := 0) (S' := 0) 64 (fun (j17 : Int32) => [(0, .ref v0), (2, .int u10.1), (3, .int u10.2.1), (4, .int u10.2.2)]) (fun (j17 : Int32) => [.int j17]) (fun (j17 : Int32) => u3.2) (fun j17 => ?_) (fun kj17 => ?_)
            · refine z_istore hX [(5, .int j17), (0, .ref v0), (2, .int u10.1), (3, .int u10.2.1), (4, .int u10.2.2)] (by decide) rfl dX9_rounds_64 ?_
              refine z_iload hX 0 rfl dX9_rounds_66 ?_
              refine z_jn (C' := 0) (S' := 0) 97 (fun (j18 : Int32 × Int32) => [(0, .ref v0), (2, .int j18.1), (3, .int j18.2), (4, .int u10.2.2)]) (fun (j18 : Int32 × Int32) => []) (fun (j18 : Int32 × Int32) => u3.2) (fun j18 => ?_) (fun kj18 => ?_)
              · refine z_iinc hX 3 [(4, .int (u10.2.2 + 1)), (0, .ref v0), (2, .int j18.1), (3, .int j18.2)] rfl rfl (by decide) rfl dX9_rounds_97 ?_
                refine z_goto hX 33 (by decide) dX9_rounds_100 ?_
                refine z_sub [1, 2, 3, 0] rfl ?_
                exact hrc13 (j18.1, j18.2, u10.2.2 + 1)
              · refine z_iteB ?_
                refine z_if_lt hX 97 (by decide) dX9_rounds_68 (fun _ => ?_) (fun _ => ?_)
                · refine z_pure ?_
                  refine z_sub [1, 2, 3, 4] rfl ?_
                  exact kj18 (u10.1, u10.2.1)
                · refine z_iload_n hX 2 rfl rfl dX9_rounds_71 ?_
                  refine z_iteB ?_
                  refine z_if_lt hX 91 (by decide) dX9_rounds_72 (fun _ => ?_) (fun _ => ?_)
                  · refine z_iload hX 4 rfl dX9_rounds_91 ?_
                    refine z_istore_n hX [(2, .int u10.2.2), (5, .int j17), (0, .ref v0), (3, .int u10.2.1), (4, .int u10.2.2)] rfl (by decide) rfl dX9_rounds_93 ?_
                    refine z_iload hX 1 rfl dX9_rounds_94 ?_
                    refine z_istore_n hX [(3, .int j17), (2, .int u10.2.2), (5, .int j17), (0, .ref v0), (4, .int u10.2.2)] rfl (by decide) rfl dX9_rounds_96 ?_
                    refine z_pure ?_
                    refine z_sub [3, 1, 0, 4] rfl ?_
                    exact kj18 (u10.2.2, j17)
                  · refine z_aload_n hX 1 rfl rfl dX9_rounds_75 ?_
                    refine z_iload hX 4 rfl dX9_rounds_76 ?_
                    refine z_iload hX 0 rfl dX9_rounds_78 ?_
                    refine z_iload_n hX 2 rfl rfl dX9_rounds_80 ?_
                    refine z_iload_n hX 3 rfl rfl dX9_rounds_81 ?_
                    refine z_asc ?_
                    refine z_asc2 ?_
                    refine z_cVIp 9 [.int u10.2.2, .int j17, .int u10.1, .int u10.2.1] hX (fun l hl o ho => c_X9_comesAhead l hl u3.2 v0 u10.2.2 j17 u10.1 u10.2.1 o ho) dX9_rounds_82 (by decide) rfl rfl q_1695 okV_X9_comesAhead rfl ⟨(Nat.le_of_ble_eq_true rfl), (Nat.le_of_ble_eq_true rfl)⟩ rfl (Nat.le_of_ble_eq_true rfl) rfl rfl ⟨(Nat.le_of_ble_eq_true rfl), (Nat.le_of_ble_eq_true rfl)⟩ (fun o19 => ?_)
                    refine z_iteB ?_
                    refine z_if_ne hX 91 (by decide) dX9_rounds_85 (fun _ => ?_) (fun _ => ?_)
                    · refine z_iload hX 4 rfl dX9_rounds_91 ?_
                      refine z_istore_n hX [(2, .int u10.2.2), (5, .int j17), (0, .ref v0), (3, .int u10.2.1), (4, .int u10.2.2)] rfl (by decide) rfl dX9_rounds_93 ?_
                      refine z_iload hX 1 rfl dX9_rounds_94 ?_
                      refine z_istore_n hX [(3, .int j17), (2, .int u10.2.2), (5, .int j17), (0, .ref v0), (4, .int u10.2.2)] rfl (by decide) rfl dX9_rounds_96 ?_
                      refine z_pure ?_
                      refine z_sub [3, 1, 0, 4] rfl ?_
                      exact kj18 (u10.2.2, j17)
                    · refine z_goto hX 97 (by decide) dX9_rounds_88 ?_
                      refine z_pure ?_
                      refine z_sub [1, 2, 3, 4] rfl ?_
                      exact kj18 (u10.1, u10.2.1)
            · refine z_iteB ?_
              refine z_if_eq hX 58 (by decide) dX9_rounds_51 (fun _ => ?_) (fun _ => ?_)
              · refine z_aload_n hX 0 rfl rfl dX9_rounds_58 ?_
                refine z_iload hX 3 rfl dX9_rounds_59 ?_
                refine z_asc ?_
                refine z_asc2 ?_
                refine z_cVIp 9 [.int u10.2.2] hX (fun l hl o ho => c_X9_priceNow l hl u3.2 v0 u10.2.2 o ho) dX9_rounds_61 (by decide) rfl rfl q_1655 okV_X9_priceNow rfl ⟨(Nat.le_of_ble_eq_true rfl), (Nat.le_of_ble_eq_true rfl)⟩ rfl (Nat.le_of_ble_eq_true rfl) rfl rfl ⟨(Nat.le_of_ble_eq_true rfl), (Nat.le_of_ble_eq_true rfl)⟩ (fun o20 => ?_)
                refine z_pure ?_
                refine z_sub [0, 1, 2, 3] rfl ?_
                exact kj17 o20
              · refine z_iconst (v := (-1)) hX (by decide) dX9_rounds_54 ?_
                refine z_goto hX 64 (by decide) dX9_rounds_55 ?_
                refine z_pure ?_
                refine z_sub [0, 1, 2, 3] rfl ?_
                exact kj17 (-1)
theorem c_X9_rounds (l : Launch) (hl : l.stackTraces = false) (M : Mem) (v0 : Nat) (v1 : Int32) (o : Mem) (ho : f_X9_rounds M v0 v1 = some o) : Ct l yX9_rounds cX9_rounds 6 (none) rm_X9_rounds [.ref v0, .int v1] M (none) o :=
  Ct.of hl (by decide +kernel) (Nat.le_of_ble_eq_true rfl) rfl (fun X hX hin => z_X9_rounds hX M v0 v1 o ho)
theorem okV_X9_rounds : okV yX9_rounds cX9_rounds 6 (none) 1 := ⟨q_1689, q_58, q_96, q_1690, by unfold okY; decide +kernel⟩
/-! ParticipatoryBudgetModel.isAhead(II)Z -/
abbrev rm_X9_isAhead : Room := { frames := 3, cells := 0, slots := 0, locals := 66 }
set_option maxRecDepth 20000 in
set_option maxHeartbeats 4000000 in
theorem z_X9_isAhead {X : Cxt} (hX : okX X cX9_isAhead RX9 rm_X9_isAhead (some .boolean) 7) (M : Mem) (v0 : Nat) (v1 : Int32) (v2 : Int32) : Zj X (fun o : Int32 => Qr X rm_X9_isAhead.cells rm_X9_isAhead.slots (some (.int o)) M) 0 0 0 [(0, .ref v0), (1, .int v1), (2, .int v2)] [] M (f_X9_isAhead M v0 v1 v2) := by
  unfold f_X9_isAhead
  refine z_aload_n hX 0 rfl rfl dX9_isAhead_0 ?_
  refine z_iload_n hX 1 rfl rfl dX9_isAhead_1 ?_
  refine z_cVIp 9 [.int v1] hX (fun l hl o ho => c_X9_votesOf l hl M v0 v1 o ho) dX9_isAhead_2 (by decide) rfl rfl q_1635 okV_X9_votesOf rfl ⟨(Nat.le_of_ble_eq_true rfl), (Nat.le_of_ble_eq_true rfl)⟩ rfl (Nat.le_of_ble_eq_true rfl) rfl rfl ⟨(Nat.le_of_ble_eq_true rfl), (Nat.le_of_ble_eq_true rfl)⟩ (fun o1 => ?_)
  refine z_i2l hX rfl dX9_isAhead_5 ?_
  refine z_ltL (fun x2 => ?_)
  refine z_lstore_n hX [(3, .long x2), (0, .ref v0), (1, .int v1), (2, .int v2)] rfl (by decide) rfl dX9_isAhead_6 ?_
  refine z_aload_n hX 1 rfl rfl dX9_isAhead_7 ?_
  refine z_iload_n hX 3 rfl rfl dX9_isAhead_8 ?_
  refine z_cVIp 9 [.int v2] hX (fun l hl o ho => c_X9_votesOf l hl M v0 v2 o ho) dX9_isAhead_9 (by decide) rfl rfl q_1635 okV_X9_votesOf rfl ⟨(Nat.le_of_ble_eq_true rfl), (Nat.le_of_ble_eq_true rfl)⟩ rfl (Nat.le_of_ble_eq_true rfl) rfl rfl ⟨(Nat.le_of_ble_eq_true rfl), (Nat.le_of_ble_eq_true rfl)⟩ (fun o3 => ?_)
  refine z_i2l hX rfl dX9_isAhead_12 ?_
  refine z_ltL (fun x4 => ?_)
  refine z_lstore hX [(5, .long x4), (3, .long x2), (0, .ref v0), (1, .int v1), (2, .int v2)] (by decide) rfl dX9_isAhead_13 ?_
  refine z_aload_n hX 2 rfl rfl dX9_isAhead_15 ?_
  refine z_gFR 9 0 hX (by decide) rfl (by decide) rfl q_1311 dX9_isAhead_16 (fun r5 => ?_)
  refine z_iconst (v := 3) hX (by decide) dX9_isAhead_19 ?_
  refine z_aI hX dX9_isAhead_20 (fun x6 => ?_)
  refine z_iconst (v := 1) hX (by decide) dX9_isAhead_21 ?_
  refine z_jn (C' := 0) (S' := 0) 53 (fun (j7 : Int64 × Int64) => [(0, .ref v0), (1, .int v1), (2, .int v2), (3, .long j7.1), (5, .long j7.2)]) (fun (j7 : Int64 × Int64) => []) (fun (j7 : Int64 × Int64) => M) (fun j7 => ?_) (fun kj7 => ?_)
  · refine z_lload_n hX 3 rfl rfl dX9_isAhead_53 ?_
    refine z_lload hX 4 rfl dX9_isAhead_54 ?_
    refine z_lcmp hX dX9_isAhead_56 ?_
    refine z_if_eq hX 73 (by decide) dX9_isAhead_57 (fun _ => ?_) (fun _ => ?_)
    · refine z_aload_n hX 0 rfl rfl dX9_isAhead_73 ?_
      refine z_gFR 9 0 hX (by decide) rfl (by decide) rfl q_1311 dX9_isAhead_74 (fun r8 => ?_)
      refine z_bipush (v := 8) hX (by decide) dX9_isAhead_77 ?_
      refine z_iload_n hX 1 rfl rfl dX9_isAhead_79 ?_
      refine z_iadd hX dX9_isAhead_80 ?_
      refine z_aI hX dX9_isAhead_81 (fun x9 => ?_)
      refine z_aload_n hX 0 rfl rfl dX9_isAhead_82 ?_
      refine z_gFR 9 0 hX (by decide) rfl (by decide) rfl q_1311 dX9_isAhead_83 (fun r10 => ?_)
      refine z_bipush (v := 8) hX (by decide) dX9_isAhead_86 ?_
      refine z_iload_n hX 2 rfl rfl dX9_isAhead_88 ?_
      refine z_iadd hX dX9_isAhead_89 ?_
      refine z_aI hX dX9_isAhead_90 (fun x11 => ?_)
      refine z_jn (C' := 0) (S' := 0) 133 (fun (j12 : Int32) => []) (fun (j12 : Int32) => [.int j12]) (fun (j12 : Int32) => M) (fun j12 => ?_) (fun kj12 => ?_)
      · exact z_zretP hX dX9_isAhead_133 (Nat.le_of_ble_eq_true rfl) (Nat.le_of_ble_eq_true rfl)
      · refine z_iteB ?_
        refine z_icmp_eq hX 123 (by decide) dX9_isAhead_91 (fun _ => ?_) (fun _ => ?_)
        · refine z_iload_n hX 1 rfl rfl dX9_isAhead_123 ?_
          refine z_iload_n hX 2 rfl rfl dX9_isAhead_124 ?_
          refine z_iteB ?_
          refine z_icmp_ge hX 132 (by decide) dX9_isAhead_125 (fun _ => ?_) (fun _ => ?_)
          · refine z_iconst (v := 0) hX (by decide) dX9_isAhead_132 ?_
            refine z_pure ?_
            refine z_sub [] rfl ?_
            exact kj12 0
          · refine z_iconst (v := 1) hX (by decide) dX9_isAhead_128 ?_
            refine z_goto hX 133 (by decide) dX9_isAhead_129 ?_
            refine z_pure ?_
            refine z_sub [] rfl ?_
            exact kj12 1
        · refine z_aload_n hX 0 rfl rfl dX9_isAhead_94 ?_
          refine z_asc ?_
          refine z_gFR 9 0 hX (by decide) rfl (by decide) rfl q_1311 dX9_isAhead_95 (fun r13 => ?_)
          refine z_bipush (v := 8) hX (by decide) dX9_isAhead_98 ?_
          refine z_iload_n hX 1 rfl rfl dX9_isAhead_100 ?_
          refine z_iadd hX dX9_isAhead_101 ?_
          refine z_asc ?_
          refine z_aI hX dX9_isAhead_102 (fun x14 => ?_)
          refine z_aload_n hX 0 rfl rfl dX9_isAhead_103 ?_
          refine z_asc ?_
          refine z_gFR 9 0 hX (by decide) rfl (by decide) rfl q_1311 dX9_isAhead_104 (fun r15 => ?_)
          refine z_bipush (v := 8) hX (by decide) dX9_isAhead_107 ?_
          refine z_iload_n hX 2 rfl rfl dX9_isAhead_109 ?_
          refine z_iadd hX dX9_isAhead_110 ?_
          refine z_asc ?_
          refine z_aI hX dX9_isAhead_111 (fun x16 => ?_)
          refine z_iteB ?_
          refine z_icmp_ge hX 119 (by decide) dX9_isAhead_112 (fun _ => ?_) (fun _ => ?_)
          · refine z_iconst (v := 0) hX (by decide) dX9_isAhead_119 ?_
            refine z_goto hX 133 (by decide) dX9_isAhead_120 ?_
            refine z_pure ?_
            refine z_sub [] rfl ?_
            exact kj12 0
          · refine z_iconst (v := 1) hX (by decide) dX9_isAhead_115 ?_
            refine z_goto hX 133 (by decide) dX9_isAhead_116 ?_
            refine z_pure ?_
            refine z_sub [] rfl ?_
            exact kj12 1
    · refine z_lload_n hX 3 rfl rfl dX9_isAhead_60 ?_
      refine z_lload hX 4 rfl dX9_isAhead_61 ?_
      refine z_lcmp hX dX9_isAhead_63 ?_
      refine z_jn (C' := 0) (S' := 0) 72 (fun (j17 : Int32) => []) (fun (j17 : Int32) => [.int j17]) (fun (j17 : Int32) => M) (fun j17 => ?_) (fun kj17 => ?_)
      · exact z_zretP hX dX9_isAhead_72 (Nat.le_of_ble_eq_true rfl) (Nat.le_of_ble_eq_true rfl)
      · refine z_iteB ?_
        refine z_if_le hX 71 (by decide) dX9_isAhead_64 (fun _ => ?_) (fun _ => ?_)
        · refine z_iconst (v := 0) hX (by decide) dX9_isAhead_71 ?_
          refine z_pure ?_
          refine z_sub [] rfl ?_
          exact kj17 0
        · refine z_iconst (v := 1) hX (by decide) dX9_isAhead_67 ?_
          refine z_goto hX 72 (by decide) dX9_isAhead_68 ?_
          refine z_pure ?_
          refine z_sub [] rfl ?_
          exact kj17 1
  · refine z_iteB ?_
    refine z_icmp_ne hX 53 (by decide) dX9_isAhead_22 (fun _ => ?_) (fun _ => ?_)
    · refine z_pure ?_
      refine z_sub [2, 3, 4, 1, 0] rfl ?_
      exact kj7 (x2, x4)
    · refine z_lload_n hX 1 rfl rfl dX9_isAhead_25 ?_
      refine z_aload_n hX 2 rfl rfl dX9_isAhead_26 ?_
      refine z_asc ?_
      refine z_gFR 9 0 hX (by decide) rfl (by decide) rfl q_1311 dX9_isAhead_27 (fun r18 => ?_)
      refine z_bipush (v := 8) hX (by decide) dX9_isAhead_30 ?_
      refine z_iload_n hX 4 rfl rfl dX9_isAhead_32 ?_
      refine z_iadd hX dX9_isAhead_33 ?_
      refine z_asc ?_
      refine z_aI hX dX9_isAhead_34 (fun x19 => ?_)
      refine z_i2l hX rfl dX9_isAhead_35 ?_
      refine z_lmul hX dX9_isAhead_36 ?_
      refine z_ltB ?_
      refine z_ltL (fun x20 => ?_)
      refine z_lstore_n hX [(3, .long x20), (5, .long x4), (0, .ref v0), (1, .int v1), (2, .int v2)] rfl (by decide) rfl dX9_isAhead_37 ?_
      refine z_lload hX 1 rfl dX9_isAhead_38 ?_
      refine z_aload_n hX 2 rfl rfl dX9_isAhead_40 ?_
      refine z_asc ?_
      refine z_gFR 9 0 hX (by decide) rfl (by decide) rfl q_1311 dX9_isAhead_41 (fun r21 => ?_)
      refine z_bipush (v := 8) hX (by decide) dX9_isAhead_44 ?_
      refine z_iload_n hX 3 rfl rfl dX9_isAhead_46 ?_
      refine z_iadd hX dX9_isAhead_47 ?_
      refine z_asc ?_
      refine z_aI hX dX9_isAhead_48 (fun x22 => ?_)
      refine z_i2l hX rfl dX9_isAhead_49 ?_
      refine z_lmul hX dX9_isAhead_50 ?_
      refine z_ltB ?_
      refine z_ltL (fun x23 => ?_)
      refine z_lstore hX [(5, .long x23), (3, .long x20), (0, .ref v0), (1, .int v1), (2, .int v2)] (by decide) rfl dX9_isAhead_51 ?_
      refine z_pure ?_
      refine z_sub [2, 3, 4, 1, 0] rfl ?_
      exact kj7 (x20, x23)
theorem c_X9_isAhead (l : Launch) (hl : l.stackTraces = false) (M : Mem) (v0 : Nat) (v1 : Int32) (v2 : Int32) (o : Int32) (ho : f_X9_isAhead M v0 v1 v2 = some o) : Ct l yX9_isAhead cX9_isAhead 7 (some .boolean) rm_X9_isAhead [.ref v0, .int v1, .int v2] M (some (.int o)) M :=
  Ct.of hl (by decide +kernel) (Nat.le_of_ble_eq_true rfl) rfl (fun X hX hin => z_X9_isAhead hX M v0 v1 v2 o ho)
theorem okV_X9_isAhead : okV yX9_isAhead cX9_isAhead 7 (some .boolean) 2 := ⟨q_1717, q_65, q_96, q_1718, by unfold okY; decide +kernel⟩
/-! ParticipatoryBudgetModel.greedily()V -/
abbrev rm_X9_greedily : Room := { frames := 4, cells := 0, slots := 0, locals := 92 }
set_option maxRecDepth 20000 in
set_option maxHeartbeats 4000000 in
theorem z_X9_greedily {X : Cxt} (hX : okX X cX9_greedily RX9 rm_X9_greedily (none) 7) (M : Mem) (v0 : Nat) : Zj X (fun o : Mem => Qr X rm_X9_greedily.cells rm_X9_greedily.slots (none) o) 0 0 0 [(0, .ref v0)] [] M (f_X9_greedily M v0) := by
  unfold f_X9_greedily
  refine z_aload_n hX 0 rfl rfl dX9_greedily_0 ?_
  refine z_gFI 9 30 hX (by decide) rfl (by decide) rfl q_1341 dX9_greedily_1 (fun x1 => ?_)
  refine z_istore_n hX [(1, .int x1), (0, .ref v0)] rfl (by decide) rfl dX9_greedily_4 ?_
  refine z_iconst (v := 0) hX (by decide) dX9_greedily_5 ?_
  refine z_istore_n hX [(2, .int 0), (1, .int x1), (0, .ref v0)] rfl (by decide) rfl dX9_greedily_6 ?_
  refine z_sub [2, 1, 0] rfl ?_
  refine z_lp (x0 := (x1, 0, M)) (bd_X9_greedily_7 v0) 7 277 (fun (u2 : Int32 × Int32 × Mem) => [(0, .ref v0), (1, .int u2.1), (2, .int u2.2.1)]) (fun (e3 : Int32 × Int32 × Mem) => []) (fun (u2 : Int32 × Int32 × Mem) => u2.2.2) ?_ ?_
  · intro e3
    exact z_vretM hX dX9_greedily_277 (Nat.le_of_ble_eq_true rfl) (Nat.le_of_ble_eq_true rfl)
  · intro kk4 rc5 hkk4 hrc5 u2
    unfold bd_X9_greedily_7
    refine z_iload_n hX 2 rfl rfl dX9_greedily_7 ?_
    refine z_if_lt hX 277 (by decide) dX9_greedily_8 (fun _ => ?_) (fun _ => ?_)
    · refine z_sub [] rfl ?_
      exact hkk4 (u2.1, u2.2.1, u2.2.2)
    · refine z_iconst (v := (-1)) hX (by decide) dX9_greedily_11 ?_
      refine z_ltI (fun x6 => ?_)
      refine z_istore_n hX [(2, .int x6), (0, .ref v0), (1, .int u2.1)] rfl (by decide) rfl dX9_greedily_12 ?_
      refine z_iconst (v := 0) hX (by decide) dX9_greedily_13 ?_
      refine z_istore_n hX [(3, .int 0), (2, .int x6), (0, .ref v0), (1, .int u2.1)] rfl (by decide) rfl dX9_greedily_14 ?_
      refine z_sub [2, 3, 1, 0] rfl ?_
      refine z_lp (x0 := (x6, 0)) (bd_X9_greedily_15 v0 u2) 15 60 (fun (u7 : Int32 × Int32) => [(0, .ref v0), (1, .int u2.1), (2, .int u7.1), (3, .int u7.2)]) (fun (e8 : Int32 × Int32) => [(0, .ref v0), (1, .int u2.1), (2, .int e8.1)]) (fun (u7 : Int32 × Int32) => u2.2.2) ?_ ?_
      · intro e8
        refine z_iload_n hX 2 rfl rfl dX9_greedily_60 ?_
        refine z_if_ge hX 65 (by decide) dX9_greedily_61 (fun _ => ?_) (fun _ => ?_)
        · refine z_iload_n hX 1 rfl rfl dX9_greedily_65 ?_
          refine z_iconst (v := 1) hX (by decide) dX9_greedily_66 ?_
          refine z_iload_n hX 2 rfl rfl dX9_greedily_67 ?_
          refine z_ishl hX dX9_greedily_68 ?_
          refine z_ior hX dX9_greedily_69 ?_
          refine z_ltI (fun x16 => ?_)
          refine z_istore_n hX [(1, .int x16), (0, .ref v0), (2, .int e8.1)] rfl (by decide) rfl dX9_greedily_70 ?_
          refine z_iconst (v := 0) hX (by decide) dX9_greedily_71 ?_
          refine z_istore_n hX [(3, .int 0), (1, .int x16), (0, .ref v0), (2, .int e8.1)] rfl (by decide) rfl dX9_greedily_72 ?_
          refine z_iconst (v := 0) hX (by decide) dX9_greedily_73 ?_
          refine z_istore hX [(4, .int 0), (3, .int 0), (1, .int x16), (0, .ref v0), (2, .int e8.1)] (by decide) rfl dX9_greedily_74 ?_
          refine z_sub [3, 2, 4, 1, 0] rfl ?_
          refine z_lp (x0 := (0, 0)) (bd_X9_greedily_76 v0 u2 e8) 76 129 (fun (u17 : Int32 × Int32) => [(0, .ref v0), (1, .int x16), (2, .int e8.1), (3, .int u17.1), (4, .int u17.2)]) (fun (e18 : Int32 × Int32) => [(0, .ref v0), (1, .int x16), (2, .int e8.1), (3, .int e18.1)]) (fun (u17 : Int32 × Int32) => u2.2.2) ?_ ?_
          · intro e18
            refine z_iload_n hX 3 rfl rfl dX9_greedily_129 ?_
            refine z_aload_n hX 0 rfl rfl dX9_greedily_130 ?_
            refine z_gFR 9 0 hX (by decide) rfl (by decide) rfl q_1311 dX9_greedily_131 (fun r31 => ?_)
            refine z_bipush (v := 8) hX (by decide) dX9_greedily_134 ?_
            refine z_iload_n hX 2 rfl rfl dX9_greedily_136 ?_
            refine z_iadd hX dX9_greedily_137 ?_
            refine z_aI hX dX9_greedily_138 (fun x32 => ?_)
            refine z_icmp_ge hX 145 (by decide) dX9_greedily_139 (fun _ => ?_) (fun _ => ?_)
            · refine z_aload_n hX 0 rfl rfl dX9_greedily_145 ?_
              refine z_iload_n hX 2 rfl rfl dX9_greedily_146 ?_
              refine z_cVVm 9 [.int e8.1] hX (fun l hl o ho => c_X9_note l hl u2.2.2 v0 e8.1 o ho) dX9_greedily_147 (by decide) rfl rfl q_1703 okV_X9_note rfl ⟨(Nat.le_of_ble_eq_true rfl), (Nat.le_of_ble_eq_true rfl)⟩ rfl (Nat.le_of_ble_eq_true rfl) rfl rfl ⟨(Nat.le_of_ble_eq_true rfl), (Nat.le_of_ble_eq_true rfl)⟩ (fun o33 => ?_)
              refine z_aload_n hX 0 rfl rfl dX9_greedily_150 ?_
              refine z_gFR 9 0 hX (by decide) rfl (by decide) rfl q_1311 dX9_greedily_151 (fun r34 => ?_)
              refine z_bipush (v := 8) hX (by decide) dX9_greedily_154 ?_
              refine z_iload_n hX 2 rfl rfl dX9_greedily_156 ?_
              refine z_iadd hX dX9_greedily_157 ?_
              refine z_aI hX dX9_greedily_158 (fun x35 => ?_)
              refine z_istore hX [(4, .int x35), (0, .ref v0), (1, .int x16), (2, .int e8.1), (3, .int e18.1)] (by decide) rfl dX9_greedily_159 ?_
              refine z_iconst (v := 0) hX (by decide) dX9_greedily_161 ?_
              refine z_istore hX [(5, .int 0), (4, .int x35), (0, .ref v0), (1, .int x16), (2, .int e8.1), (3, .int e18.1)] (by decide) rfl dX9_greedily_162 ?_
              refine z_sub [2, 3, 4, 1, 0] rfl ?_
              refine z_lp (x0 := (x35, 0, o33)) (bd_X9_greedily_164 v0 e8) 164 274 (fun (u36 : Int32 × Int32 × Mem) => [(0, .ref v0), (1, .int x16), (2, .int e8.1), (4, .int u36.1), (5, .int u36.2.1)]) (fun (e37 : Int32 × Int32 × Mem) => [(0, .ref v0), (1, .int x16), (2, .int e8.1)]) (fun (u36 : Int32 × Int32 × Mem) => u36.2.2) ?_ ?_
              · intro e37
                refine z_goto hX 7 (by decide) dX9_greedily_274 ?_
                refine z_sub [0, 1, 2] rfl ?_
                exact hrc5 (x16, e8.1, e37.2.2)
              · intro kk38 rc39 hkk38 hrc39 u36
                unfold bd_X9_greedily_164
                refine z_iload hX 4 rfl dX9_greedily_164 ?_
                refine z_aload_n hX 0 rfl rfl dX9_greedily_166 ?_
                refine z_gFI 9 5 hX (by decide) rfl (by decide) rfl q_1316 dX9_greedily_167 (fun x40 => ?_)
                refine z_icmp_ge hX 274 (by decide) dX9_greedily_170 (fun _ => ?_) (fun _ => ?_)
                · refine z_sub [0, 1, 2] rfl ?_
                  exact hkk38 (u36.1, u36.2.1, u36.2.2)
                · refine z_aload_n hX 0 rfl rfl dX9_greedily_173 ?_
                  refine z_gFR 9 10 hX (by decide) rfl (by decide) rfl q_1321 dX9_greedily_174 (fun r41 => ?_)
                  refine z_iload_n hX 2 rfl rfl dX9_greedily_177 ?_
                  refine z_aI hX dX9_greedily_178 (fun x42 => ?_)
                  refine z_iload hX 4 rfl dX9_greedily_179 ?_
                  refine z_cSIp [.int x42, .int u36.2.1] hX (fun l hl o ho => c_X9_has l hl u36.2.2 x42 u36.2.1 o ho) dX9_greedily_181 q_1537 okS_X9_has rfl ⟨(Nat.le_of_ble_eq_true rfl), (Nat.le_of_ble_eq_true rfl)⟩ rfl (Nat.le_of_ble_eq_true rfl) rfl rfl ⟨(Nat.le_of_ble_eq_true rfl), (Nat.le_of_ble_eq_true rfl)⟩ (fun o43 => ?_)
                  refine z_jn (C' := 0) (S' := 0) 268 (fun (j44 : Int32 × Mem) => [(0, .ref v0), (1, .int x16), (2, .int e8.1), (4, .int j44.1), (5, .int u36.2.1)]) (fun (j44 : Int32 × Mem) => []) (fun (j44 : Int32 × Mem) => j44.2) (fun j44 => ?_) (fun kj44 => ?_)
                  · refine z_iinc hX 4 [(5, .int (u36.2.1 + 1)), (0, .ref v0), (1, .int x16), (2, .int e8.1), (4, .int j44.1)] rfl rfl (by decide) rfl dX9_greedily_268 ?_
                    refine z_goto hX 164 (by decide) dX9_greedily_271 ?_
                    refine z_sub [1, 2, 3, 4, 0] rfl ?_
                    exact hrc39 (j44.1, u36.2.1 + 1, j44.2)
                  · refine z_iteB ?_
                    refine z_if_ne hX 190 (by decide) dX9_greedily_184 (fun _ => ?_) (fun _ => ?_)
                    · refine z_aload_n hX 0 rfl rfl dX9_greedily_190 ?_
                      refine z_asc ?_
                      refine z_gFR 9 0 hX (by decide) rfl (by decide) rfl q_1311 dX9_greedily_191 (fun r45 => ?_)
                      refine z_iconst (v := 4) hX (by decide) dX9_greedily_194 ?_
                      refine z_iload hX 4 rfl dX9_greedily_195 ?_
                      refine z_iadd hX dX9_greedily_197 ?_
                      refine z_asc ?_
                      refine z_aI hX dX9_greedily_198 (fun x46 => ?_)
                      refine z_aload_n hX 0 rfl rfl dX9_greedily_199 ?_
                      refine z_asc ?_
                      refine z_gFR 9 36 hX (by decide) rfl (by decide) rfl q_1347 dX9_greedily_200 (fun r47 => ?_)
                      refine z_iload hX 4 rfl dX9_greedily_203 ?_
                      refine z_asc ?_
                      refine z_aI hX dX9_greedily_205 (fun x48 => ?_)
                      refine z_isub hX dX9_greedily_206 ?_
                      refine z_iload hX 3 rfl dX9_greedily_207 ?_
                      refine z_asc ?_
                      refine z_jn (C' := 0) (S' := 0) 234 (fun (j49 : Int32) => [(0, .ref v0), (1, .int x16), (2, .int e8.1), (4, .int u36.1), (5, .int u36.2.1)]) (fun (j49 : Int32) => [.int j49]) (fun (j49 : Int32) => u36.2.2) (fun j49 => ?_) (fun kj49 => ?_)
                      · refine z_istore hX [(6, .int j49), (0, .ref v0), (1, .int x16), (2, .int e8.1), (4, .int u36.1), (5, .int u36.2.1)] (by decide) rfl dX9_greedily_234 ?_
                        refine z_aload_n hX 1 rfl rfl dX9_greedily_236 ?_
                        refine z_asc ?_
                        refine z_gFR 9 35 hX (by decide) rfl (by decide) rfl q_1346 dX9_greedily_237 (fun r50 => ?_)
                        refine z_iconst (v := 4) hX (by decide) dX9_greedily_240 ?_
                        refine z_iload_n hX 3 rfl rfl dX9_greedily_241 ?_
                        refine z_imul hX dX9_greedily_242 ?_
                        refine z_iload hX 5 rfl dX9_greedily_243 ?_
                        refine z_iadd hX dX9_greedily_245 ?_
                        refine z_iload hX 0 rfl dX9_greedily_246 ?_
                        refine z_asc ?_
                        refine z_wI hX dX9_greedily_248 (fun M51 => ?_)
                        refine z_aload_n hX 1 rfl rfl dX9_greedily_249 ?_
                        refine z_asc ?_
                        refine z_gFR 9 36 hX (by decide) rfl (by decide) rfl q_1347 dX9_greedily_250 (fun r52 => ?_)
                        refine z_iload hX 5 rfl dX9_greedily_253 ?_
                        refine z_dup2 hX rfl rfl dX9_greedily_255 ?_
                        refine z_asc ?_
                        refine z_aI hX dX9_greedily_256 (fun x53 => ?_)
                        refine z_iload hX 0 rfl dX9_greedily_257 ?_
                        refine z_iadd hX dX9_greedily_259 ?_
                        refine z_asc ?_
                        refine z_wI hX dX9_greedily_260 (fun M54 => ?_)
                        refine z_iload hX 4 rfl dX9_greedily_261 ?_
                        refine z_iload hX 0 rfl dX9_greedily_263 ?_
                        refine z_isub hX dX9_greedily_265 ?_
                        refine z_ltB ?_
                        refine z_ltI (fun x55 => ?_)
                        refine z_istore hX [(4, .int x55), (6, .int j49), (0, .ref v0), (1, .int x16), (2, .int e8.1), (5, .int u36.2.1)] (by decide) rfl dX9_greedily_266 ?_
                        refine z_pure ?_
                        refine z_sub [2, 3, 4, 0, 5] rfl ?_
                        exact kj44 (x55, M54)
                      · refine z_iteB ?_
                        refine z_icmp_ge hX 232 (by decide) dX9_greedily_209 (fun _ => ?_) (fun _ => ?_)
                        · refine z_iload hX 3 rfl dX9_greedily_232 ?_
                          refine z_pure ?_
                          refine z_sub [0, 1, 2, 3, 4] rfl ?_
                          exact kj49 u36.1
                        · refine z_aload_n hX 0 rfl rfl dX9_greedily_212 ?_
                          refine z_asc ?_
                          refine z_gFR 9 0 hX (by decide) rfl (by decide) rfl q_1311 dX9_greedily_213 (fun r56 => ?_)
                          refine z_iconst (v := 4) hX (by decide) dX9_greedily_216 ?_
                          refine z_iload hX 4 rfl dX9_greedily_217 ?_
                          refine z_iadd hX dX9_greedily_219 ?_
                          refine z_asc ?_
                          refine z_aI hX dX9_greedily_220 (fun x57 => ?_)
                          refine z_aload_n hX 0 rfl rfl dX9_greedily_221 ?_
                          refine z_asc ?_
                          refine z_gFR 9 36 hX (by decide) rfl (by decide) rfl q_1347 dX9_greedily_222 (fun r58 => ?_)
                          refine z_iload hX 4 rfl dX9_greedily_225 ?_
                          refine z_asc ?_
                          refine z_aI hX dX9_greedily_227 (fun x59 => ?_)
                          refine z_isub hX dX9_greedily_228 ?_
                          refine z_goto hX 234 (by decide) dX9_greedily_229 ?_
                          refine z_pure ?_
                          refine z_sub [0, 1, 2, 3, 4] rfl ?_
                          exact kj49 (x57 - x59)
                    · refine z_goto hX 268 (by decide) dX9_greedily_187 ?_
                      refine z_pure ?_
                      refine z_sub [0, 1, 2, 3, 4] rfl ?_
                      exact kj44 (u36.1, u36.2.2)
            · refine z_goto hX 7 (by decide) dX9_greedily_142 ?_
              refine z_sub [0, 1, 2] rfl ?_
              exact hrc5 (x16, e8.1, u2.2.2)
          · intro kk19 rc20 hkk19 hrc20 u17
            unfold bd_X9_greedily_76
            refine z_iload hX 4 rfl dX9_greedily_76 ?_
            refine z_aload_n hX 0 rfl rfl dX9_greedily_78 ?_
            refine z_gFI 9 5 hX (by decide) rfl (by decide) rfl q_1316 dX9_greedily_79 (fun x21 => ?_)
            refine z_icmp_ge hX 129 (by decide) dX9_greedily_82 (fun _ => ?_) (fun _ => ?_)
            · refine z_sub [0, 1, 2, 3] rfl ?_
              exact hkk19 (u17.1, u17.2)
            · refine z_iload_n hX 3 rfl rfl dX9_greedily_85 ?_
              refine z_aload_n hX 0 rfl rfl dX9_greedily_86 ?_
              refine z_gFR 9 10 hX (by decide) rfl (by decide) rfl q_1321 dX9_greedily_87 (fun r22 => ?_)
              refine z_iload_n hX 2 rfl rfl dX9_greedily_90 ?_
              refine z_aI hX dX9_greedily_91 (fun x23 => ?_)
              refine z_iload hX 4 rfl dX9_greedily_92 ?_
              refine z_cSIp [.int x23, .int u17.2] hX (fun l hl o ho => c_X9_has l hl u2.2.2 x23 u17.2 o ho) dX9_greedily_94 q_1537 okS_X9_has rfl ⟨(Nat.le_of_ble_eq_true rfl), (Nat.le_of_ble_eq_true rfl)⟩ rfl (Nat.le_of_ble_eq_true rfl) rfl rfl ⟨(Nat.le_of_ble_eq_true rfl), (Nat.le_of_ble_eq_true rfl)⟩ (fun o24 => ?_)
              refine z_jn (C' := 0) (S' := 0) 121 (fun (j25 : Int32) => [(0, .ref v0), (1, .int x16), (2, .int e8.1), (4, .int u17.2)]) (fun (j25 : Int32) => [.int j25, .int u17.1]) (fun (j25 : Int32) => u2.2.2) (fun j25 => ?_) (fun kj25 => ?_)
              · refine z_iadd hX dX9_greedily_121 ?_
                refine z_ltI (fun x26 => ?_)
                refine z_istore_n hX [(3, .int x26), (0, .ref v0), (1, .int x16), (2, .int e8.1), (4, .int u17.2)] rfl (by decide) rfl dX9_greedily_122 ?_
                refine z_iinc hX 4 [(4, .int (u17.2 + 1)), (3, .int x26), (0, .ref v0), (1, .int x16), (2, .int e8.1)] rfl rfl (by decide) rfl dX9_greedily_123 ?_
                refine z_goto hX 76 (by decide) dX9_greedily_126 ?_
                refine z_sub [2, 3, 4, 1, 0] rfl ?_
                exact hrc20 (x26, u17.2 + 1)
              · refine z_iteB ?_
                refine z_if_eq hX 120 (by decide) dX9_greedily_97 (fun _ => ?_) (fun _ => ?_)
                · refine z_iconst (v := 0) hX (by decide) dX9_greedily_120 ?_
                  refine z_pure ?_
                  refine z_sub [0, 1, 2, 4] rfl ?_
                  exact kj25 0
                · refine z_aload_n hX 0 rfl rfl dX9_greedily_100 ?_
                  refine z_asc ?_
                  refine z_gFR 9 0 hX (by decide) rfl (by decide) rfl q_1311 dX9_greedily_101 (fun r27 => ?_)
                  refine z_iconst (v := 4) hX (by decide) dX9_greedily_104 ?_
                  refine z_iload hX 4 rfl dX9_greedily_105 ?_
                  refine z_iadd hX dX9_greedily_107 ?_
                  refine z_asc ?_
                  refine z_aI hX dX9_greedily_108 (fun x28 => ?_)
                  refine z_aload_n hX 0 rfl rfl dX9_greedily_109 ?_
                  refine z_asc ?_
                  refine z_gFR 9 36 hX (by decide) rfl (by decide) rfl q_1347 dX9_greedily_110 (fun r29 => ?_)
                  refine z_iload hX 4 rfl dX9_greedily_113 ?_
                  refine z_asc ?_
                  refine z_aI hX dX9_greedily_115 (fun x30 => ?_)
                  refine z_isub hX dX9_greedily_116 ?_
                  refine z_goto hX 121 (by decide) dX9_greedily_117 ?_
                  refine z_pure ?_
                  refine z_sub [0, 1, 2, 4] rfl ?_
                  exact kj25 (x28 - x30)
        · exact z_vretM hX dX9_greedily_64 (Nat.le_of_ble_eq_true rfl) (Nat.le_of_ble_eq_true rfl)
      · intro kk9 rc10 hkk9 hrc10 u7
        unfold bd_X9_greedily_15
        refine z_iload_n hX 3 rfl rfl dX9_greedily_15 ?_
        refine z_aload_n hX 0 rfl rfl dX9_greedily_16 ?_
        refine z_gFI 9 6 hX (by decide) rfl (by decide) rfl q_1317 dX9_greedily_17 (fun x11 => ?_)
        refine z_icmp_ge hX 60 (by decide) dX9_greedily_20 (fun _ => ?_) (fun _ => ?_)
        · refine z_sub [0, 1, 2] rfl ?_
          exact hkk9 (u7.1, u7.2)
        · refine z_iload_n hX 1 rfl rfl dX9_greedily_23 ?_
          refine z_iload_n hX 3 rfl rfl dX9_greedily_24 ?_
          refine z_cSIp [.int u2.1, .int u7.2] hX (fun l hl o ho => c_X9_has l hl u2.2.2 u2.1 u7.2 o ho) dX9_greedily_25 q_1537 okS_X9_has rfl ⟨(Nat.le_of_ble_eq_true rfl), (Nat.le_of_ble_eq_true rfl)⟩ rfl (Nat.le_of_ble_eq_true rfl) rfl rfl ⟨(Nat.le_of_ble_eq_true rfl), (Nat.le_of_ble_eq_true rfl)⟩ (fun o12 => ?_)
          refine z_jn (C' := 0) (S' := 0) 54 (fun (j13 : Int32) => [(0, .ref v0), (1, .int u2.1), (2, .int j13), (3, .int u7.2)]) (fun (j13 : Int32) => []) (fun (j13 : Int32) => u2.2.2) (fun j13 => ?_) (fun kj13 => ?_)
          · refine z_iinc hX 3 [(3, .int (u7.2 + 1)), (0, .ref v0), (1, .int u2.1), (2, .int j13)] rfl rfl (by decide) rfl dX9_greedily_54 ?_
            refine z_goto hX 15 (by decide) dX9_greedily_57 ?_
            refine z_sub [1, 2, 3, 0] rfl ?_
            exact hrc10 (j13, u7.2 + 1)
          · refine z_iteB ?_
            refine z_if_ne hX 54 (by decide) dX9_greedily_28 (fun _ => ?_) (fun _ => ?_)
            · refine z_pure ?_
              refine z_sub [0, 1, 2, 3] rfl ?_
              exact kj13 u7.1
            · refine z_aload_n hX 0 rfl rfl dX9_greedily_31 ?_
              refine z_iload_n hX 3 rfl rfl dX9_greedily_32 ?_
              refine z_asc ?_
              refine z_asc2 ?_
              refine z_cVIp 9 [.int u7.2] hX (fun l hl o ho => c_X9_votesOf l hl u2.2.2 v0 u7.2 o ho) dX9_greedily_33 (by decide) rfl rfl q_1635 okV_X9_votesOf rfl ⟨(Nat.le_of_ble_eq_true rfl), (Nat.le_of_ble_eq_true rfl)⟩ rfl (Nat.le_of_ble_eq_true rfl) rfl rfl ⟨(Nat.le_of_ble_eq_true rfl), (Nat.le_of_ble_eq_true rfl)⟩ (fun o14 => ?_)
              refine z_iteB ?_
              refine z_if_le hX 54 (by decide) dX9_greedily_36 (fun _ => ?_) (fun _ => ?_)
              · refine z_pure ?_
                refine z_sub [0, 1, 2, 3] rfl ?_
                exact kj13 u7.1
              · refine z_iload_n hX 2 rfl rfl dX9_greedily_39 ?_
                refine z_iteB ?_
                refine z_if_lt hX 52 (by decide) dX9_greedily_40 (fun _ => ?_) (fun _ => ?_)
                · refine z_iload_n hX 3 rfl rfl dX9_greedily_52 ?_
                  refine z_istore_n hX [(2, .int u7.2), (0, .ref v0), (1, .int u2.1), (3, .int u7.2)] rfl (by decide) rfl dX9_greedily_53 ?_
                  refine z_pure ?_
                  refine z_sub [1, 2, 0, 3] rfl ?_
                  exact kj13 u7.2
                · refine z_aload_n hX 0 rfl rfl dX9_greedily_43 ?_
                  refine z_iload_n hX 3 rfl rfl dX9_greedily_44 ?_
                  refine z_iload_n hX 2 rfl rfl dX9_greedily_45 ?_
                  refine z_asc ?_
                  refine z_asc2 ?_
                  refine z_cVIp 9 [.int u7.2, .int u7.1] hX (fun l hl o ho => c_X9_isAhead l hl u2.2.2 v0 u7.2 u7.1 o ho) dX9_greedily_46 (by decide) rfl rfl q_1715 okV_X9_isAhead rfl ⟨(Nat.le_of_ble_eq_true rfl), (Nat.le_of_ble_eq_true rfl)⟩ rfl (Nat.le_of_ble_eq_true rfl) rfl rfl ⟨(Nat.le_of_ble_eq_true rfl), (Nat.le_of_ble_eq_true rfl)⟩ (fun o15 => ?_)
                  refine z_iteB ?_
                  refine z_if_eq hX 54 (by decide) dX9_greedily_49 (fun _ => ?_) (fun _ => ?_)
                  · refine z_pure ?_
                    refine z_sub [0, 1, 2, 3] rfl ?_
                    exact kj13 u7.1
                  · refine z_iload_n hX 3 rfl rfl dX9_greedily_52 ?_
                    refine z_istore_n hX [(2, .int u7.2), (0, .ref v0), (1, .int u2.1), (3, .int u7.2)] rfl (by decide) rfl dX9_greedily_53 ?_
                    refine z_pure ?_
                    refine z_sub [1, 2, 0, 3] rfl ?_
                    exact kj13 u7.2
theorem c_X9_greedily (l : Launch) (hl : l.stackTraces = false) (M : Mem) (v0 : Nat) (o : Mem) (ho : f_X9_greedily M v0 = some o) : Ct l yX9_greedily cX9_greedily 7 (none) rm_X9_greedily [.ref v0] M (none) o :=
  Ct.of hl (by decide +kernel) (Nat.le_of_ble_eq_true rfl) rfl (fun X hX hin => z_X9_greedily hX M v0 o ho)
theorem okV_X9_greedily : okV yX9_greedily cX9_greedily 7 (none) 0 := ⟨q_1713, q_64, q_96, q_1714, by unfold okY; decide +kernel⟩
/-! ParticipatoryBudgetModel.allFunded()Z -/
abbrev rm_X9_allFunded : Room := { frames := 3, cells := 0, slots := 0, locals := 66 }
set_option maxRecDepth 20000 in
set_option maxHeartbeats 4000000 in
theorem z_X9_allFunded {X : Cxt} (hX : okX X cX9_allFunded RX9 rm_X9_allFunded (some .boolean) 2) (M : Mem) (v0 : Nat) : Zj X (fun o : Int32 => Qr X rm_X9_allFunded.cells rm_X9_allFunded.slots (some (.int o)) M) 0 0 0 [(0, .ref v0)] [] M (f_X9_allFunded M v0) := by
  unfold f_X9_allFunded
  refine z_iconst (v := 0) hX (by decide) dX9_allFunded_0 ?_
  refine z_istore_n hX [(1, .int 0), (0, .ref v0)] rfl (by decide) rfl dX9_allFunded_1 ?_
  refine z_sub [1, 0] rfl ?_
  refine z_lp (x0 := 0) (bd_X9_allFunded_2 M v0) 2 37 (fun (u1 : Int32) => [(0, .ref v0), (1, .int u1)]) (fun (e2 : Int32) => []) (fun (u1 : Int32) => M) ?_ ?_
  · intro e2
    refine z_iconst (v := 1) hX (by decide) dX9_allFunded_37 ?_
    exact z_zretP hX dX9_allFunded_38 (Nat.le_of_ble_eq_true rfl) (Nat.le_of_ble_eq_true rfl)
  · intro kk3 rc4 hkk3 hrc4 u1
    unfold bd_X9_allFunded_2
    refine z_iload_n hX 1 rfl rfl dX9_allFunded_2 ?_
    refine z_aload_n hX 0 rfl rfl dX9_allFunded_3 ?_
    refine z_gFI 9 6 hX (by decide) rfl (by decide) rfl q_1317 dX9_allFunded_4 (fun x5 => ?_)
    refine z_icmp_ge hX 37 (by decide) dX9_allFunded_7 (fun _ => ?_) (fun _ => ?_)
    · refine z_sub [] rfl ?_
      exact hkk3 u1
    · refine z_aload_n hX 0 rfl rfl dX9_allFunded_10 ?_
      refine z_iload_n hX 1 rfl rfl dX9_allFunded_11 ?_
      refine z_cVIp 9 [.int u1] hX (fun l hl o ho => c_X9_votesOf l hl M v0 u1 o ho) dX9_allFunded_12 (by decide) rfl rfl q_1635 okV_X9_votesOf rfl ⟨(Nat.le_of_ble_eq_true rfl), (Nat.le_of_ble_eq_true rfl)⟩ rfl (Nat.le_of_ble_eq_true rfl) rfl rfl ⟨(Nat.le_of_ble_eq_true rfl), (Nat.le_of_ble_eq_true rfl)⟩ (fun o6 => ?_)
      refine z_if_le hX 31 (by decide) dX9_allFunded_15 (fun _ => ?_) (fun _ => ?_)
      · refine z_iinc hX 1 [(1, .int (u1 + 1)), (0, .ref v0)] rfl rfl (by decide) rfl dX9_allFunded_31 ?_
        refine z_goto hX 2 (by decide) dX9_allFunded_34 ?_
        refine z_sub [1, 0] rfl ?_
        exact hrc4 (u1 + 1)
      · refine z_aload_n hX 0 rfl rfl dX9_allFunded_18 ?_
        refine z_gFI 9 30 hX (by decide) rfl (by decide) rfl q_1341 dX9_allFunded_19 (fun x7 => ?_)
        refine z_iload_n hX 1 rfl rfl dX9_allFunded_22 ?_
        refine z_cSIp [.int x7, .int u1] hX (fun l hl o ho => c_X9_has l hl M x7 u1 o ho) dX9_allFunded_23 q_1537 okS_X9_has rfl ⟨(Nat.le_of_ble_eq_true rfl), (Nat.le_of_ble_eq_true rfl)⟩ rfl (Nat.le_of_ble_eq_true rfl) rfl rfl ⟨(Nat.le_of_ble_eq_true rfl), (Nat.le_of_ble_eq_true rfl)⟩ (fun o8 => ?_)
        refine z_if_ne hX 31 (by decide) dX9_allFunded_26 (fun _ => ?_) (fun _ => ?_)
        · refine z_iinc hX 1 [(1, .int (u1 + 1)), (0, .ref v0)] rfl rfl (by decide) rfl dX9_allFunded_31 ?_
          refine z_goto hX 2 (by decide) dX9_allFunded_34 ?_
          refine z_sub [1, 0] rfl ?_
          exact hrc4 (u1 + 1)
        · refine z_iconst (v := 0) hX (by decide) dX9_allFunded_29 ?_
          exact z_zretP hX dX9_allFunded_30 (Nat.le_of_ble_eq_true rfl) (Nat.le_of_ble_eq_true rfl)
theorem c_X9_allFunded (l : Launch) (hl : l.stackTraces = false) (M : Mem) (v0 : Nat) (o : Int32) (ho : f_X9_allFunded M v0 = some o) : Ct l yX9_allFunded cX9_allFunded 2 (some .boolean) rm_X9_allFunded [.ref v0] M (some (.int o)) M :=
  Ct.of hl (by decide +kernel) (Nat.le_of_ble_eq_true rfl) rfl (fun X hX hin => z_X9_allFunded hX M v0 o ho)
theorem okV_X9_allFunded : okV yX9_allFunded cX9_allFunded 2 (some .boolean) 0 := ⟨q_1721, q_66, q_96, q_1722, by unfold okY; decide +kernel⟩
/-! ParticipatoryBudgetModel.isOverpaid()Z -/
abbrev rm_X9_isOverpaid : Room := { frames := 0, cells := 0, slots := 0, locals := 0 }
set_option maxRecDepth 20000 in
set_option maxHeartbeats 4000000 in
theorem z_X9_isOverpaid {X : Cxt} (hX : okX X cX9_isOverpaid RX9 rm_X9_isOverpaid (some .boolean) 2) (M : Mem) (v0 : Nat) : Zj X (fun o : Int32 => Qr X rm_X9_isOverpaid.cells rm_X9_isOverpaid.slots (some (.int o)) M) 0 0 0 [(0, .ref v0)] [] M (f_X9_isOverpaid M v0) := by
  unfold f_X9_isOverpaid
  refine z_iconst (v := 0) hX (by decide) dX9_isOverpaid_0 ?_
  refine z_istore_n hX [(1, .int 0), (0, .ref v0)] rfl (by decide) rfl dX9_isOverpaid_1 ?_
  refine z_sub [1, 0] rfl ?_
  refine z_lp (x0 := 0) (bd_X9_isOverpaid_2 M v0) 2 35 (fun (u1 : Int32) => [(0, .ref v0), (1, .int u1)]) (fun (e2 : Int32) => []) (fun (u1 : Int32) => M) ?_ ?_
  · intro e2
    refine z_iconst (v := 0) hX (by decide) dX9_isOverpaid_35 ?_
    exact z_zretP hX dX9_isOverpaid_36 (Nat.le_of_ble_eq_true rfl) (Nat.le_of_ble_eq_true rfl)
  · intro kk3 rc4 hkk3 hrc4 u1
    unfold bd_X9_isOverpaid_2
    refine z_iload_n hX 1 rfl rfl dX9_isOverpaid_2 ?_
    refine z_aload_n hX 0 rfl rfl dX9_isOverpaid_3 ?_
    refine z_gFI 9 5 hX (by decide) rfl (by decide) rfl q_1316 dX9_isOverpaid_4 (fun x5 => ?_)
    refine z_icmp_ge hX 35 (by decide) dX9_isOverpaid_7 (fun _ => ?_) (fun _ => ?_)
    · refine z_sub [] rfl ?_
      exact hkk3 u1
    · refine z_aload_n hX 0 rfl rfl dX9_isOverpaid_10 ?_
      refine z_gFR 9 36 hX (by decide) rfl (by decide) rfl q_1347 dX9_isOverpaid_11 (fun r6 => ?_)
      refine z_iload_n hX 1 rfl rfl dX9_isOverpaid_14 ?_
      refine z_aI hX dX9_isOverpaid_15 (fun x7 => ?_)
      refine z_aload_n hX 0 rfl rfl dX9_isOverpaid_16 ?_
      refine z_gFR 9 0 hX (by decide) rfl (by decide) rfl q_1311 dX9_isOverpaid_17 (fun r8 => ?_)
      refine z_iconst (v := 4) hX (by decide) dX9_isOverpaid_20 ?_
      refine z_iload_n hX 1 rfl rfl dX9_isOverpaid_21 ?_
      refine z_iadd hX dX9_isOverpaid_22 ?_
      refine z_aI hX dX9_isOverpaid_23 (fun x9 => ?_)
      refine z_icmp_le hX 29 (by decide) dX9_isOverpaid_24 (fun _ => ?_) (fun _ => ?_)
      · refine z_iinc hX 1 [(1, .int (u1 + 1)), (0, .ref v0)] rfl rfl (by decide) rfl dX9_isOverpaid_29 ?_
        refine z_goto hX 2 (by decide) dX9_isOverpaid_32 ?_
        refine z_sub [1, 0] rfl ?_
        exact hrc4 (u1 + 1)
      · refine z_iconst (v := 1) hX (by decide) dX9_isOverpaid_27 ?_
        exact z_zretP hX dX9_isOverpaid_28 (Nat.le_of_ble_eq_true rfl) (Nat.le_of_ble_eq_true rfl)
theorem c_X9_isOverpaid (l : Launch) (hl : l.stackTraces = false) (M : Mem) (v0 : Nat) (o : Int32) (ho : f_X9_isOverpaid M v0 = some o) : Ct l yX9_isOverpaid cX9_isOverpaid 2 (some .boolean) rm_X9_isOverpaid [.ref v0] M (some (.int o)) M :=
  Ct.of hl (by decide +kernel) (Nat.le_of_ble_eq_true rfl) rfl (fun X hX hin => z_X9_isOverpaid hX M v0 o ho)
theorem okV_X9_isOverpaid : okV yX9_isOverpaid cX9_isOverpaid 2 (some .boolean) 0 := ⟨q_1725, q_67, q_96, q_1726, by unfold okY; decide +kernel⟩
/-! ParticipatoryBudgetModel.equal()V -/
abbrev rm_X9_equal : Room := { frames := 6, cells := 0, slots := 0, locals := 144 }
set_option maxRecDepth 20000 in
set_option maxHeartbeats 4000000 in
theorem z_X9_equal {X : Cxt} (hX : okX X cX9_equal RX9 rm_X9_equal (none) 2) (M : Mem) (v0 : Nat) : Zj X (fun o : Mem => Qr X rm_X9_equal.cells rm_X9_equal.slots (none) o) 0 0 0 [(0, .ref v0)] [] M (f_X9_equal M v0) := by
  unfold f_X9_equal
  refine z_aload_n hX 0 rfl rfl dX9_equal_0 ?_
  refine z_iconst (v := 0) hX (by decide) dX9_equal_1 ?_
  refine z_cVVm 9 [.int 0] hX (fun l hl o ho => c_X9_rounds l hl M v0 0 o ho) dX9_equal_2 (by decide) rfl rfl q_1687 okV_X9_rounds rfl ⟨(Nat.le_of_ble_eq_true rfl), (Nat.le_of_ble_eq_true rfl)⟩ rfl (Nat.le_of_ble_eq_true rfl) rfl rfl ⟨(Nat.le_of_ble_eq_true rfl), (Nat.le_of_ble_eq_true rfl)⟩ (fun o1 => ?_)
  refine z_aload_n hX 0 rfl rfl dX9_equal_5 ?_
  refine z_aload_n hX 0 rfl rfl dX9_equal_6 ?_
  refine z_gFI 9 30 hX (by decide) rfl (by decide) rfl q_1341 dX9_equal_7 (fun x2 => ?_)
  refine z_pFI 9 38 hX (by decide) rfl (by decide) rfl q_1349 rfl pd_1 rfl rfl dX9_equal_10 (fun M3 => ?_)
  refine z_aload_n hX 0 rfl rfl dX9_equal_13 ?_
  refine z_iconst (v := 0) hX (by decide) dX9_equal_14 ?_
  refine z_pFI 9 39 hX (by decide) rfl (by decide) rfl q_1350 rfl pd_1 rfl rfl dX9_equal_15 (fun M4 => ?_)
  refine z_aload_n hX 0 rfl rfl dX9_equal_18 ?_
  refine z_gFR 9 0 hX (by decide) rfl (by decide) rfl q_1311 dX9_equal_19 (fun r5 => ?_)
  refine z_iconst (v := 1) hX (by decide) dX9_equal_22 ?_
  refine z_aI hX dX9_equal_23 (fun x6 => ?_)
  refine z_iconst (v := 1) hX (by decide) dX9_equal_24 ?_
  refine z_jn (C' := 0) (S' := 0) 32 (fun (j7 : Mem) => [(0, .ref v0)]) (fun (j7 : Mem) => []) (fun (j7 : Mem) => j7) (fun j7 => ?_) (fun kj7 => ?_)
  · refine z_aload_n hX 0 rfl rfl dX9_equal_32 ?_
    refine z_gFR 9 0 hX (by decide) rfl (by decide) rfl q_1311 dX9_equal_33 (fun r8 => ?_)
    refine z_iconst (v := 1) hX (by decide) dX9_equal_36 ?_
    refine z_aI hX dX9_equal_37 (fun x9 => ?_)
    refine z_iconst (v := 2) hX (by decide) dX9_equal_38 ?_
    refine z_icmp_eq hX 43 (by decide) dX9_equal_39 (fun _ => ?_) (fun _ => ?_)
    · refine z_aload_n hX 0 rfl rfl dX9_equal_43 ?_
      refine z_cVIp 9 [] hX (fun l hl o ho => c_X9_allFunded l hl j7 v0 o ho) dX9_equal_44 (by decide) rfl rfl q_1719 okV_X9_allFunded rfl ⟨(Nat.le_of_ble_eq_true rfl), (Nat.le_of_ble_eq_true rfl)⟩ rfl (Nat.le_of_ble_eq_true rfl) rfl rfl ⟨(Nat.le_of_ble_eq_true rfl), (Nat.le_of_ble_eq_true rfl)⟩ (fun o10 => ?_)
      refine z_jn (C' := 0) (S' := 0) 55 (fun (j11 : Int32) => [(0, .ref v0)]) (fun (j11 : Int32) => [.int j11]) (fun (j11 : Int32) => j7) (fun j11 => ?_) (fun kj11 => ?_)
      · refine z_istore_n hX [(1, .int j11), (0, .ref v0)] rfl (by decide) rfl dX9_equal_55 ?_
        refine z_sub [1, 0] rfl ?_
        refine z_lp (x0 := (j11, j7)) (bd_X9_equal_56 v0) 56 135 (fun (u12 : Int32 × Mem) => [(0, .ref v0), (1, .int u12.1)]) (fun (e13 : Int32 × Mem) => []) (fun (u12 : Int32 × Mem) => u12.2) ?_ ?_
        · intro e13
          exact z_vretM hX dX9_equal_135 (Nat.le_of_ble_eq_true rfl) (Nat.le_of_ble_eq_true rfl)
        · intro kk14 rc15 hkk14 hrc15 u12
          unfold bd_X9_equal_56
          refine z_iload_n hX 1 rfl rfl dX9_equal_56 ?_
          refine z_if_eq hX 135 (by decide) dX9_equal_57 (fun _ => ?_) (fun _ => ?_)
          · refine z_sub [] rfl ?_
            exact hkk14 (u12.1, u12.2)
          · refine z_aload_n hX 0 rfl rfl dX9_equal_60 ?_
            refine z_gFI 9 39 hX (by decide) rfl (by decide) rfl q_1350 dX9_equal_61 (fun x16 => ?_)
            refine z_bipush (v := 60) hX (by decide) dX9_equal_64 ?_
            refine z_icmp_ge hX 135 (by decide) dX9_equal_66 (fun _ => ?_) (fun _ => ?_)
            · refine z_sub [] rfl ?_
              exact hkk14 (u12.1, u12.2)
            · refine z_aload_n hX 0 rfl rfl dX9_equal_69 ?_
              refine z_aload_n hX 0 rfl rfl dX9_equal_70 ?_
              refine z_gFI 9 39 hX (by decide) rfl (by decide) rfl q_1350 dX9_equal_71 (fun x17 => ?_)
              refine z_iconst (v := 1) hX (by decide) dX9_equal_74 ?_
              refine z_iadd hX dX9_equal_75 ?_
              refine z_aload_n hX 0 rfl rfl dX9_equal_76 ?_
              refine z_gFR 9 0 hX (by decide) rfl (by decide) rfl q_1311 dX9_equal_77 (fun r18 => ?_)
              refine z_iconst (v := 2) hX (by decide) dX9_equal_80 ?_
              refine z_aI hX dX9_equal_81 (fun x19 => ?_)
              refine z_imul hX dX9_equal_82 ?_
              refine z_cVVm 9 [.int ((x17 + 1) * x19)] hX (fun l hl o ho => c_X9_rounds l hl u12.2 v0 ((x17 + 1) * x19) o ho) dX9_equal_83 (by decide) rfl rfl q_1687 okV_X9_rounds rfl ⟨(Nat.le_of_ble_eq_true rfl), (Nat.le_of_ble_eq_true rfl)⟩ rfl (Nat.le_of_ble_eq_true rfl) rfl rfl ⟨(Nat.le_of_ble_eq_true rfl), (Nat.le_of_ble_eq_true rfl)⟩ (fun o20 => ?_)
              refine z_aload_n hX 0 rfl rfl dX9_equal_86 ?_
              refine z_cVIp 9 [] hX (fun l hl o ho => c_X9_isOverpaid l hl o20 v0 o ho) dX9_equal_87 (by decide) rfl rfl q_1723 okV_X9_isOverpaid rfl ⟨(Nat.le_of_ble_eq_true rfl), (Nat.le_of_ble_eq_true rfl)⟩ rfl (Nat.le_of_ble_eq_true rfl) rfl rfl ⟨(Nat.le_of_ble_eq_true rfl), (Nat.le_of_ble_eq_true rfl)⟩ (fun o21 => ?_)
              refine z_if_eq hX 109 (by decide) dX9_equal_90 (fun _ => ?_) (fun _ => ?_)
              · refine z_aload_n hX 0 rfl rfl dX9_equal_109 ?_
                refine z_dup hX rfl dX9_equal_110 ?_
                refine z_gFI 9 39 hX (by decide) rfl (by decide) rfl q_1350 dX9_equal_111 (fun x22 => ?_)
                refine z_iconst (v := 1) hX (by decide) dX9_equal_114 ?_
                refine z_iadd hX dX9_equal_115 ?_
                refine z_pFI 9 39 hX (by decide) rfl (by decide) rfl q_1350 rfl pd_1 rfl rfl dX9_equal_116 (fun M23 => ?_)
                refine z_aload_n hX 0 rfl rfl dX9_equal_119 ?_
                refine z_cVIp 9 [] hX (fun l hl o ho => c_X9_allFunded l hl M23 v0 o ho) dX9_equal_120 (by decide) rfl rfl q_1719 okV_X9_allFunded rfl ⟨(Nat.le_of_ble_eq_true rfl), (Nat.le_of_ble_eq_true rfl)⟩ rfl (Nat.le_of_ble_eq_true rfl) rfl rfl ⟨(Nat.le_of_ble_eq_true rfl), (Nat.le_of_ble_eq_true rfl)⟩ (fun o24 => ?_)
                refine z_jn (C' := 0) (S' := 0) 131 (fun (j25 : Int32) => [(0, .ref v0)]) (fun (j25 : Int32) => [.int j25]) (fun (j25 : Int32) => M23) (fun j25 => ?_) (fun kj25 => ?_)
                · refine z_istore_n hX [(1, .int j25), (0, .ref v0)] rfl (by decide) rfl dX9_equal_131 ?_
                  refine z_goto hX 56 (by decide) dX9_equal_132 ?_
                  refine z_sub [1, 0] rfl ?_
                  exact hrc15 (j25, M23)
                · refine z_iteB ?_
                  refine z_if_ne hX 130 (by decide) dX9_equal_123 (fun _ => ?_) (fun _ => ?_)
                  · refine z_iconst (v := 0) hX (by decide) dX9_equal_130 ?_
                    refine z_pure ?_
                    refine z_sub [0] rfl ?_
                    exact kj25 0
                  · refine z_iconst (v := 1) hX (by decide) dX9_equal_126 ?_
                    refine z_goto hX 131 (by decide) dX9_equal_127 ?_
                    refine z_pure ?_
                    refine z_sub [0] rfl ?_
                    exact kj25 1
              · refine z_aload_n hX 0 rfl rfl dX9_equal_93 ?_
                refine z_aload_n hX 0 rfl rfl dX9_equal_94 ?_
                refine z_gFI 9 39 hX (by decide) rfl (by decide) rfl q_1350 dX9_equal_95 (fun x26 => ?_)
                refine z_aload_n hX 0 rfl rfl dX9_equal_98 ?_
                refine z_gFR 9 0 hX (by decide) rfl (by decide) rfl q_1311 dX9_equal_99 (fun r27 => ?_)
                refine z_iconst (v := 2) hX (by decide) dX9_equal_102 ?_
                refine z_aI hX dX9_equal_103 (fun x28 => ?_)
                refine z_imul hX dX9_equal_104 ?_
                refine z_cVVm 9 [.int (x26 * x28)] hX (fun l hl o ho => c_X9_rounds l hl o20 v0 (x26 * x28) o ho) dX9_equal_105 (by decide) rfl rfl q_1687 okV_X9_rounds rfl ⟨(Nat.le_of_ble_eq_true rfl), (Nat.le_of_ble_eq_true rfl)⟩ rfl (Nat.le_of_ble_eq_true rfl) rfl rfl ⟨(Nat.le_of_ble_eq_true rfl), (Nat.le_of_ble_eq_true rfl)⟩ (fun o29 => ?_)
                exact z_vretM hX dX9_equal_108 (Nat.le_of_ble_eq_true rfl) (Nat.le_of_ble_eq_true rfl)
      · refine z_iteB ?_
        refine z_if_ne hX 54 (by decide) dX9_equal_47 (fun _ => ?_) (fun _ => ?_)
        · refine z_iconst (v := 0) hX (by decide) dX9_equal_54 ?_
          refine z_pure ?_
          refine z_sub [0] rfl ?_
          exact kj11 0
        · refine z_iconst (v := 1) hX (by decide) dX9_equal_50 ?_
          refine z_goto hX 55 (by decide) dX9_equal_51 ?_
          refine z_pure ?_
          refine z_sub [0] rfl ?_
          exact kj11 1
    · exact z_vretM hX dX9_equal_42 (Nat.le_of_ble_eq_true rfl) (Nat.le_of_ble_eq_true rfl)
  · refine z_iteB ?_
    refine z_icmp_ne hX 32 (by decide) dX9_equal_25 (fun _ => ?_) (fun _ => ?_)
    · refine z_pure ?_
      refine z_sub [0] rfl ?_
      exact kj7 M4
    · refine z_aload_n hX 0 rfl rfl dX9_equal_28 ?_
      refine z_asc ?_
      refine z_asc2 ?_
      refine z_cVVm 9 [] hX (fun l hl o ho => c_X9_greedily l hl M4 v0 o ho) dX9_equal_29 (by decide) rfl rfl q_1711 okV_X9_greedily rfl ⟨(Nat.le_of_ble_eq_true rfl), (Nat.le_of_ble_eq_true rfl)⟩ rfl (Nat.le_of_ble_eq_true rfl) rfl rfl ⟨(Nat.le_of_ble_eq_true rfl), (Nat.le_of_ble_eq_true rfl)⟩ (fun o30 => ?_)
      refine z_pure ?_
      refine z_sub [0] rfl ?_
      exact kj7 o30
theorem c_X9_equal (l : Launch) (hl : l.stackTraces = false) (M : Mem) (v0 : Nat) (o : Mem) (ho : f_X9_equal M v0 = some o) : Ct l yX9_equal cX9_equal 2 (none) rm_X9_equal [.ref v0] M (none) o :=
  Ct.of hl (by decide +kernel) (Nat.le_of_ble_eq_true rfl) rfl (fun X hX hin => z_X9_equal hX M v0 o ho)
theorem okV_X9_equal : okV yX9_equal cX9_equal 2 (none) 0 := ⟨q_1685, q_57, q_96, q_1686, by unfold okY; decide +kernel⟩
/-! ParticipatoryBudgetModel.isPayable(I)Z -/
abbrev rm_X9_isPayable : Room := { frames := 1, cells := 0, slots := 0, locals := 21 }
set_option maxRecDepth 20000 in
set_option maxHeartbeats 4000000 in
theorem z_X9_isPayable {X : Cxt} (hX : okX X cX9_isPayable RX9 rm_X9_isPayable (some .boolean) 6) (M : Mem) (v0 : Nat) (v1 : Int32) : Zj X (fun o : Int32 => Qr X rm_X9_isPayable.cells rm_X9_isPayable.slots (some (.int o)) M) 0 0 0 [(0, .ref v0), (1, .int v1)] [] M (f_X9_isPayable M v0 v1) := by
  unfold f_X9_isPayable
  refine z_iconst (v := 0) hX (by decide) dX9_isPayable_0 ?_
  refine z_istore_n hX [(2, .int 0), (0, .ref v0), (1, .int v1)] rfl (by decide) rfl dX9_isPayable_1 ?_
  refine z_sub [1, 2, 0] rfl ?_
  refine z_lp (x0 := 0) (bd_X9_isPayable_2 M v0 v1) 2 134 (fun (u1 : Int32) => [(0, .ref v0), (1, .int v1), (2, .int u1)]) (fun (e2 : Int32) => []) (fun (u1 : Int32) => M) ?_ ?_
  · intro e2
    refine z_iconst (v := 1) hX (by decide) dX9_isPayable_134 ?_
    exact z_zretP hX dX9_isPayable_135 (Nat.le_of_ble_eq_true rfl) (Nat.le_of_ble_eq_true rfl)
  · intro kk3 rc4 hkk3 hrc4 u1
    unfold bd_X9_isPayable_2
    refine z_iload_n hX 2 rfl rfl dX9_isPayable_2 ?_
    refine z_iconst (v := 1) hX (by decide) dX9_isPayable_3 ?_
    refine z_aload_n hX 0 rfl rfl dX9_isPayable_4 ?_
    refine z_gFI 9 5 hX (by decide) rfl (by decide) rfl q_1316 dX9_isPayable_5 (fun x5 => ?_)
    refine z_ishl hX dX9_isPayable_8 ?_
    refine z_icmp_ge hX 134 (by decide) dX9_isPayable_9 (fun _ => ?_) (fun _ => ?_)
    · refine z_sub [] rfl ?_
      exact hkk3 u1
    · refine z_iconst (v := 0) hX (by decide) dX9_isPayable_12 ?_
      refine z_istore_n hX [(3, .int 0), (0, .ref v0), (1, .int v1), (2, .int u1)] rfl (by decide) rfl dX9_isPayable_13 ?_
      refine z_iconst (v := 0) hX (by decide) dX9_isPayable_14 ?_
      refine z_istore hX [(4, .int 0), (3, .int 0), (0, .ref v0), (1, .int v1), (2, .int u1)] (by decide) rfl dX9_isPayable_15 ?_
      refine z_iconst (v := 0) hX (by decide) dX9_isPayable_17 ?_
      refine z_istore hX [(5, .int 0), (4, .int 0), (3, .int 0), (0, .ref v0), (1, .int v1), (2, .int u1)] (by decide) rfl dX9_isPayable_18 ?_
      refine z_sub [3, 4, 5, 2, 1, 0] rfl ?_
      refine z_lp (x0 := (0, 0)) (bd_X9_isPayable_20 M v0 v1 u1) 20 75 (fun (u6 : Int32 × Int32) => [(0, .ref v0), (1, .int v1), (2, .int u1), (3, .int u6.1), (4, .int 0), (5, .int u6.2)]) (fun (e7 : Int32 × Int32) => [(0, .ref v0), (1, .int v1), (2, .int u1), (3, .int e7.1), (4, .int 0)]) (fun (u6 : Int32 × Int32) => M) ?_ ?_
      · intro e7
        refine z_iconst (v := 0) hX (by decide) dX9_isPayable_75 ?_
        refine z_istore hX [(5, .int 0), (0, .ref v0), (1, .int v1), (2, .int u1), (3, .int e7.1), (4, .int 0)] (by decide) rfl dX9_isPayable_76 ?_
        refine z_sub [1, 2, 3, 4, 5, 0] rfl ?_
        refine z_lp (x0 := (0, 0)) (bd_X9_isPayable_78 M v0 u1) 78 120 (fun (u18 : Int32 × Int32) => [(0, .ref v0), (1, .int v1), (2, .int u1), (3, .int e7.1), (4, .int u18.1), (5, .int u18.2)]) (fun (e19 : Int32 × Int32) => [(0, .ref v0), (1, .int v1), (2, .int u1), (3, .int e7.1), (4, .int e19.1)]) (fun (u18 : Int32 × Int32) => M) ?_ ?_
        · intro e19
          refine z_iload_n hX 3 rfl rfl dX9_isPayable_120 ?_
          refine z_iload hX 4 rfl dX9_isPayable_121 ?_
          refine z_icmp_le hX 128 (by decide) dX9_isPayable_123 (fun _ => ?_) (fun _ => ?_)
          · refine z_iinc hX 2 [(2, .int (u1 + 1)), (0, .ref v0), (1, .int v1), (3, .int e7.1), (4, .int e19.1)] rfl rfl (by decide) rfl dX9_isPayable_128 ?_
            refine z_goto hX 2 (by decide) dX9_isPayable_131 ?_
            refine z_sub [1, 2, 0] rfl ?_
            exact hrc4 (u1 + 1)
          · refine z_iconst (v := 0) hX (by decide) dX9_isPayable_126 ?_
            exact z_zretP hX dX9_isPayable_127 (Nat.le_of_ble_eq_true rfl) (Nat.le_of_ble_eq_true rfl)
        · intro kk20 rc21 hkk20 hrc21 u18
          unfold bd_X9_isPayable_78
          refine z_iload hX 5 rfl dX9_isPayable_78 ?_
          refine z_aload_n hX 0 rfl rfl dX9_isPayable_80 ?_
          refine z_gFI 9 5 hX (by decide) rfl (by decide) rfl q_1316 dX9_isPayable_81 (fun x22 => ?_)
          refine z_icmp_ge hX 120 (by decide) dX9_isPayable_84 (fun _ => ?_) (fun _ => ?_)
          · refine z_sub [0, 1, 2, 3, 4] rfl ?_
            exact hkk20 (u18.1, u18.2)
          · refine z_iload hX 4 rfl dX9_isPayable_87 ?_
            refine z_iload_n hX 2 rfl rfl dX9_isPayable_89 ?_
            refine z_iload hX 5 rfl dX9_isPayable_90 ?_
            refine z_cSIp [.int u1, .int u18.2] hX (fun l hl o ho => c_X9_has l hl M u1 u18.2 o ho) dX9_isPayable_92 q_1537 okS_X9_has rfl ⟨(Nat.le_of_ble_eq_true rfl), (Nat.le_of_ble_eq_true rfl)⟩ rfl (Nat.le_of_ble_eq_true rfl) rfl rfl ⟨(Nat.le_of_ble_eq_true rfl), (Nat.le_of_ble_eq_true rfl)⟩ (fun o23 => ?_)
            refine z_jn (C' := 0) (S' := 0) 111 (fun (j24 : Int32) => [(0, .ref v0), (1, .int v1), (2, .int u1), (3, .int e7.1), (5, .int u18.2)]) (fun (j24 : Int32) => [.int j24, .int u18.1]) (fun (j24 : Int32) => M) (fun j24 => ?_) (fun kj24 => ?_)
            · refine z_iadd hX dX9_isPayable_111 ?_
              refine z_ltI (fun x25 => ?_)
              refine z_istore hX [(4, .int x25), (0, .ref v0), (1, .int v1), (2, .int u1), (3, .int e7.1), (5, .int u18.2)] (by decide) rfl dX9_isPayable_112 ?_
              refine z_iinc hX 5 [(5, .int (u18.2 + 1)), (4, .int x25), (0, .ref v0), (1, .int v1), (2, .int u1), (3, .int e7.1)] rfl rfl (by decide) rfl dX9_isPayable_114 ?_
              refine z_goto hX 78 (by decide) dX9_isPayable_117 ?_
              refine z_sub [2, 3, 4, 5, 1, 0] rfl ?_
              exact hrc21 (x25, u18.2 + 1)
            · refine z_iteB ?_
              refine z_if_eq hX 110 (by decide) dX9_isPayable_95 (fun _ => ?_) (fun _ => ?_)
              · refine z_iconst (v := 0) hX (by decide) dX9_isPayable_110 ?_
                refine z_pure ?_
                refine z_sub [0, 1, 2, 3, 5] rfl ?_
                exact kj24 0
              · refine z_aload_n hX 0 rfl rfl dX9_isPayable_98 ?_
                refine z_asc ?_
                refine z_gFR 9 0 hX (by decide) rfl (by decide) rfl q_1311 dX9_isPayable_99 (fun r26 => ?_)
                refine z_iconst (v := 4) hX (by decide) dX9_isPayable_102 ?_
                refine z_iload hX 5 rfl dX9_isPayable_103 ?_
                refine z_iadd hX dX9_isPayable_105 ?_
                refine z_asc ?_
                refine z_aI hX dX9_isPayable_106 (fun x27 => ?_)
                refine z_goto hX 111 (by decide) dX9_isPayable_107 ?_
                refine z_pure ?_
                refine z_sub [0, 1, 2, 3, 5] rfl ?_
                exact kj24 x27
      · intro kk8 rc9 hkk8 hrc9 u6
        unfold bd_X9_isPayable_20
        refine z_iload hX 5 rfl dX9_isPayable_20 ?_
        refine z_aload_n hX 0 rfl rfl dX9_isPayable_22 ?_
        refine z_gFI 9 6 hX (by decide) rfl (by decide) rfl q_1317 dX9_isPayable_23 (fun x10 => ?_)
        refine z_icmp_ge hX 75 (by decide) dX9_isPayable_26 (fun _ => ?_) (fun _ => ?_)
        · refine z_sub [0, 1, 2, 3, 4] rfl ?_
          exact hkk8 (u6.1, u6.2)
        · refine z_iload_n hX 3 rfl rfl dX9_isPayable_29 ?_
          refine z_iload_n hX 1 rfl rfl dX9_isPayable_30 ?_
          refine z_iload hX 5 rfl dX9_isPayable_31 ?_
          refine z_cSIp [.int v1, .int u6.2] hX (fun l hl o ho => c_X9_has l hl M v1 u6.2 o ho) dX9_isPayable_33 q_1537 okS_X9_has rfl ⟨(Nat.le_of_ble_eq_true rfl), (Nat.le_of_ble_eq_true rfl)⟩ rfl (Nat.le_of_ble_eq_true rfl) rfl rfl ⟨(Nat.le_of_ble_eq_true rfl), (Nat.le_of_ble_eq_true rfl)⟩ (fun o11 => ?_)
          refine z_jn (C' := 0) (S' := 0) 67 (fun (j12 : Int32) => [(0, .ref v0), (1, .int v1), (2, .int u1), (4, .int 0), (5, .int u6.2)]) (fun (j12 : Int32) => [.int j12, .int u6.1]) (fun (j12 : Int32) => M) (fun j12 => ?_) (fun kj12 => ?_)
          · refine z_iadd hX dX9_isPayable_67 ?_
            refine z_ltI (fun x13 => ?_)
            refine z_istore_n hX [(3, .int x13), (0, .ref v0), (1, .int v1), (2, .int u1), (4, .int 0), (5, .int u6.2)] rfl (by decide) rfl dX9_isPayable_68 ?_
            refine z_iinc hX 5 [(5, .int (u6.2 + 1)), (3, .int x13), (0, .ref v0), (1, .int v1), (2, .int u1), (4, .int 0)] rfl rfl (by decide) rfl dX9_isPayable_69 ?_
            refine z_goto hX 20 (by decide) dX9_isPayable_72 ?_
            refine z_sub [2, 3, 4, 1, 5, 0] rfl ?_
            exact hrc9 (x13, u6.2 + 1)
          · refine z_iteB ?_
            refine z_if_eq hX 66 (by decide) dX9_isPayable_36 (fun _ => ?_) (fun _ => ?_)
            · refine z_iconst (v := 0) hX (by decide) dX9_isPayable_66 ?_
              refine z_pure ?_
              refine z_sub [0, 1, 2, 4, 5] rfl ?_
              exact kj12 0
            · refine z_aload_n hX 0 rfl rfl dX9_isPayable_39 ?_
              refine z_asc ?_
              refine z_gFR 9 10 hX (by decide) rfl (by decide) rfl q_1321 dX9_isPayable_40 (fun r14 => ?_)
              refine z_iload hX 5 rfl dX9_isPayable_43 ?_
              refine z_asc ?_
              refine z_aI hX dX9_isPayable_45 (fun x15 => ?_)
              refine z_iload_n hX 2 rfl rfl dX9_isPayable_46 ?_
              refine z_iconst (v := (-1)) hX (by decide) dX9_isPayable_47 ?_
              refine z_ixor hX dX9_isPayable_48 ?_
              refine z_iand hX dX9_isPayable_49 ?_
              refine z_iteB ?_
              refine z_if_ne hX 66 (by decide) dX9_isPayable_50 (fun _ => ?_) (fun _ => ?_)
              · refine z_iconst (v := 0) hX (by decide) dX9_isPayable_66 ?_
                refine z_pure ?_
                refine z_sub [0, 1, 2, 4, 5] rfl ?_
                exact kj12 0
              · refine z_aload_n hX 0 rfl rfl dX9_isPayable_53 ?_
                refine z_asc ?_
                refine z_gFR 9 0 hX (by decide) rfl (by decide) rfl q_1311 dX9_isPayable_54 (fun r16 => ?_)
                refine z_bipush (v := 8) hX (by decide) dX9_isPayable_57 ?_
                refine z_iload hX 5 rfl dX9_isPayable_59 ?_
                refine z_iadd hX dX9_isPayable_61 ?_
                refine z_asc ?_
                refine z_aI hX dX9_isPayable_62 (fun x17 => ?_)
                refine z_goto hX 67 (by decide) dX9_isPayable_63 ?_
                refine z_pure ?_
                refine z_sub [0, 1, 2, 4, 5] rfl ?_
                exact kj12 x17
theorem c_X9_isPayable (l : Launch) (hl : l.stackTraces = false) (M : Mem) (v0 : Nat) (v1 : Int32) (o : Int32) (ho : f_X9_isPayable M v0 v1 = some o) : Ct l yX9_isPayable cX9_isPayable 6 (some .boolean) rm_X9_isPayable [.ref v0, .int v1] M (some (.int o)) M :=
  Ct.of hl (by decide +kernel) (Nat.le_of_ble_eq_true rfl) rfl (fun X hX hin => z_X9_isPayable hX M v0 v1 o ho)
theorem okV_X9_isPayable : okV yX9_isPayable cX9_isPayable 6 (some .boolean) 1 := ⟨q_1749, q_73, q_96, q_1750, by unfold okY; decide +kernel⟩
/-! ParticipatoryBudgetModel.gainOf(I)J -/
abbrev rm_X9_gainOf : Room := { frames := 1, cells := 0, slots := 0, locals := 21 }
set_option maxRecDepth 20000 in
set_option maxHeartbeats 4000000 in
theorem z_X9_gainOf {X : Cxt} (hX : okX X cX9_gainOf RX9 rm_X9_gainOf (some .long) 5) (M : Mem) (v0 : Nat) (v1 : Int32) : Zj X (fun o : Int64 => Qr X rm_X9_gainOf.cells rm_X9_gainOf.slots (some (.long o)) M) 0 0 0 [(0, .ref v0), (1, .int v1)] [] M (f_X9_gainOf M v0 v1) := by
  unfold f_X9_gainOf
  refine z_lconst (v := 0) hX (by decide) dX9_gainOf_0 ?_
  refine z_lstore_n hX [(2, .long 0), (0, .ref v0), (1, .int v1)] rfl (by decide) rfl dX9_gainOf_1 ?_
  refine z_iconst (v := 0) hX (by decide) dX9_gainOf_2 ?_
  refine z_istore hX [(4, .int 0), (2, .long 0), (0, .ref v0), (1, .int v1)] (by decide) rfl dX9_gainOf_3 ?_
  refine z_sub [2, 3, 1, 0] rfl ?_
  refine z_lp (x0 := (0, 0)) (bd_X9_gainOf_5 M v0 v1) 5 43 (fun (u1 : Int64 × Int32) => [(0, .ref v0), (1, .int v1), (2, .long u1.1), (4, .int u1.2)]) (fun (e2 : Int64 × Int32) => [(2, .long e2.1)]) (fun (u1 : Int64 × Int32) => M) ?_ ?_
  · intro e2
    refine z_lload_n hX 0 rfl rfl dX9_gainOf_43 ?_
    exact z_lretP hX dX9_gainOf_44 (Nat.le_of_ble_eq_true rfl) (Nat.le_of_ble_eq_true rfl)
  · intro kk3 rc4 hkk3 hrc4 u1
    unfold bd_X9_gainOf_5
    refine z_iload hX 3 rfl dX9_gainOf_5 ?_
    refine z_aload_n hX 0 rfl rfl dX9_gainOf_7 ?_
    refine z_gFI 9 6 hX (by decide) rfl (by decide) rfl q_1317 dX9_gainOf_8 (fun x5 => ?_)
    refine z_icmp_ge hX 43 (by decide) dX9_gainOf_11 (fun _ => ?_) (fun _ => ?_)
    · refine z_sub [2] rfl ?_
      exact hkk3 (u1.1, u1.2)
    · refine z_lload_n hX 2 rfl rfl dX9_gainOf_14 ?_
      refine z_iload_n hX 1 rfl rfl dX9_gainOf_15 ?_
      refine z_iload hX 3 rfl dX9_gainOf_16 ?_
      refine z_cSIp [.int v1, .int u1.2] hX (fun l hl o ho => c_X9_has l hl M v1 u1.2 o ho) dX9_gainOf_18 q_1537 okS_X9_has rfl ⟨(Nat.le_of_ble_eq_true rfl), (Nat.le_of_ble_eq_true rfl)⟩ rfl (Nat.le_of_ble_eq_true rfl) rfl rfl ⟨(Nat.le_of_ble_eq_true rfl), (Nat.le_of_ble_eq_true rfl)⟩ (fun o6 => ?_)
      refine z_jn (C' := 0) (S' := 0) 35 (fun (j7 : Int64) => [(0, .ref v0), (1, .int v1), (4, .int u1.2)]) (fun (j7 : Int64) => [.long j7, .long u1.1]) (fun (j7 : Int64) => M) (fun j7 => ?_) (fun kj7 => ?_)
      · refine z_ladd hX dX9_gainOf_35 ?_
        refine z_ltL (fun x8 => ?_)
        refine z_lstore_n hX [(2, .long x8), (0, .ref v0), (1, .int v1), (4, .int u1.2)] rfl (by decide) rfl dX9_gainOf_36 ?_
        refine z_iinc hX 3 [(4, .int (u1.2 + 1)), (2, .long x8), (0, .ref v0), (1, .int v1)] rfl rfl (by decide) rfl dX9_gainOf_37 ?_
        refine z_goto hX 5 (by decide) dX9_gainOf_40 ?_
        refine z_sub [2, 3, 1, 0] rfl ?_
        exact hrc4 (x8, u1.2 + 1)
      · refine z_iteB ?_
        refine z_if_eq hX 34 (by decide) dX9_gainOf_21 (fun _ => ?_) (fun _ => ?_)
        · refine z_lconst (v := 0) hX (by decide) dX9_gainOf_34 ?_
          refine z_pure ?_
          refine z_sub [0, 1, 3] rfl ?_
          exact kj7 0
        · refine z_aload_n hX 0 rfl rfl dX9_gainOf_24 ?_
          refine z_asc ?_
          refine z_gFR 9 40 hX (by decide) rfl (by decide) rfl q_1351 dX9_gainOf_25 (fun r9 => ?_)
          refine z_iload hX 3 rfl dX9_gainOf_28 ?_
          refine z_asc ?_
          refine z_aL hX dX9_gainOf_30 (fun x10 => ?_)
          refine z_goto hX 35 (by decide) dX9_gainOf_31 ?_
          refine z_pure ?_
          refine z_sub [0, 1, 3] rfl ?_
          exact kj7 x10
theorem c_X9_gainOf (l : Launch) (hl : l.stackTraces = false) (M : Mem) (v0 : Nat) (v1 : Int32) (o : Int64) (ho : f_X9_gainOf M v0 v1 = some o) : Ct l yX9_gainOf cX9_gainOf 5 (some .long) rm_X9_gainOf [.ref v0, .int v1] M (some (.long o)) M :=
  Ct.of hl (by decide +kernel) (Nat.le_of_ble_eq_true rfl) rfl (fun X hX hin => z_X9_gainOf hX M v0 v1 o ho)
theorem okV_X9_gainOf : okV yX9_gainOf cX9_gainOf 5 (some .long) 1 := ⟨q_1741, q_71, q_96, q_1742, by unfold okY; decide +kernel⟩
/-! ParticipatoryBudgetModel.costsOf(I)I -/
abbrev rm_X9_costsOf : Room := { frames := 1, cells := 0, slots := 0, locals := 21 }
set_option maxRecDepth 20000 in
set_option maxHeartbeats 4000000 in
theorem z_X9_costsOf {X : Cxt} (hX : okX X cX9_costsOf RX9 rm_X9_costsOf (some .int) 4) (M : Mem) (v0 : Nat) (v1 : Int32) : Zj X (fun o : Int32 => Qr X rm_X9_costsOf.cells rm_X9_costsOf.slots (some (.int o)) M) 0 0 0 [(0, .ref v0), (1, .int v1)] [] M (f_X9_costsOf M v0 v1) := by
  unfold f_X9_costsOf
  refine z_iconst (v := 0) hX (by decide) dX9_costsOf_0 ?_
  refine z_istore_n hX [(2, .int 0), (0, .ref v0), (1, .int v1)] rfl (by decide) rfl dX9_costsOf_1 ?_
  refine z_iconst (v := 0) hX (by decide) dX9_costsOf_2 ?_
  refine z_istore_n hX [(3, .int 0), (2, .int 0), (0, .ref v0), (1, .int v1)] rfl (by decide) rfl dX9_costsOf_3 ?_
  refine z_sub [2, 3, 1, 0] rfl ?_
  refine z_lp (x0 := (0, 0)) (bd_X9_costsOf_4 M v0 v1) 4 42 (fun (u1 : Int32 × Int32) => [(0, .ref v0), (1, .int v1), (2, .int u1.1), (3, .int u1.2)]) (fun (e2 : Int32 × Int32) => [(2, .int e2.1)]) (fun (u1 : Int32 × Int32) => M) ?_ ?_
  · intro e2
    refine z_iload_n hX 0 rfl rfl dX9_costsOf_42 ?_
    exact z_iretP hX dX9_costsOf_43 (Nat.le_of_ble_eq_true rfl) (Nat.le_of_ble_eq_true rfl)
  · intro kk3 rc4 hkk3 hrc4 u1
    unfold bd_X9_costsOf_4
    refine z_iload_n hX 3 rfl rfl dX9_costsOf_4 ?_
    refine z_aload_n hX 0 rfl rfl dX9_costsOf_5 ?_
    refine z_gFI 9 6 hX (by decide) rfl (by decide) rfl q_1317 dX9_costsOf_6 (fun x5 => ?_)
    refine z_icmp_ge hX 42 (by decide) dX9_costsOf_9 (fun _ => ?_) (fun _ => ?_)
    · refine z_sub [2] rfl ?_
      exact hkk3 (u1.1, u1.2)
    · refine z_iload_n hX 2 rfl rfl dX9_costsOf_12 ?_
      refine z_iload_n hX 1 rfl rfl dX9_costsOf_13 ?_
      refine z_iload_n hX 3 rfl rfl dX9_costsOf_14 ?_
      refine z_cSIp [.int v1, .int u1.2] hX (fun l hl o ho => c_X9_has l hl M v1 u1.2 o ho) dX9_costsOf_15 q_1537 okS_X9_has rfl ⟨(Nat.le_of_ble_eq_true rfl), (Nat.le_of_ble_eq_true rfl)⟩ rfl (Nat.le_of_ble_eq_true rfl) rfl rfl ⟨(Nat.le_of_ble_eq_true rfl), (Nat.le_of_ble_eq_true rfl)⟩ (fun o6 => ?_)
      refine z_jn (C' := 0) (S' := 0) 34 (fun (j7 : Int32) => [(0, .ref v0), (1, .int v1), (3, .int u1.2)]) (fun (j7 : Int32) => [.int j7, .int u1.1]) (fun (j7 : Int32) => M) (fun j7 => ?_) (fun kj7 => ?_)
      · refine z_iadd hX dX9_costsOf_34 ?_
        refine z_ltI (fun x8 => ?_)
        refine z_istore_n hX [(2, .int x8), (0, .ref v0), (1, .int v1), (3, .int u1.2)] rfl (by decide) rfl dX9_costsOf_35 ?_
        refine z_iinc hX 3 [(3, .int (u1.2 + 1)), (2, .int x8), (0, .ref v0), (1, .int v1)] rfl rfl (by decide) rfl dX9_costsOf_36 ?_
        refine z_goto hX 4 (by decide) dX9_costsOf_39 ?_
        refine z_sub [2, 3, 1, 0] rfl ?_
        exact hrc4 (x8, u1.2 + 1)
      · refine z_iteB ?_
        refine z_if_eq hX 33 (by decide) dX9_costsOf_18 (fun _ => ?_) (fun _ => ?_)
        · refine z_iconst (v := 0) hX (by decide) dX9_costsOf_33 ?_
          refine z_pure ?_
          refine z_sub [0, 1, 3] rfl ?_
          exact kj7 0
        · refine z_aload_n hX 0 rfl rfl dX9_costsOf_21 ?_
          refine z_asc ?_
          refine z_gFR 9 0 hX (by decide) rfl (by decide) rfl q_1311 dX9_costsOf_22 (fun r9 => ?_)
          refine z_bipush (v := 8) hX (by decide) dX9_costsOf_25 ?_
          refine z_iload_n hX 3 rfl rfl dX9_costsOf_27 ?_
          refine z_iadd hX dX9_costsOf_28 ?_
          refine z_asc ?_
          refine z_aI hX dX9_costsOf_29 (fun x10 => ?_)
          refine z_goto hX 34 (by decide) dX9_costsOf_30 ?_
          refine z_pure ?_
          refine z_sub [0, 1, 3] rfl ?_
          exact kj7 x10
theorem c_X9_costsOf (l : Launch) (hl : l.stackTraces = false) (M : Mem) (v0 : Nat) (v1 : Int32) (o : Int32) (ho : f_X9_costsOf M v0 v1 = some o) : Ct l yX9_costsOf cX9_costsOf 4 (some .int) rm_X9_costsOf [.ref v0, .int v1] M (some (.int o)) M :=
  Ct.of hl (by decide +kernel) (Nat.le_of_ble_eq_true rfl) rfl (fun X hX hin => z_X9_costsOf hX M v0 v1 o ho)
theorem okV_X9_costsOf : okV yX9_costsOf cX9_costsOf 4 (some .int) 1 := ⟨q_1745, q_72, q_96, q_1746, by unfold okY; decide +kernel⟩
/-! ParticipatoryBudgetModel.layGains()V -/
abbrev rm_X9_layGains : Room := { frames := 3, cells := 0, slots := 0, locals := 66 }
set_option maxRecDepth 20000 in
set_option maxHeartbeats 4000000 in
theorem z_X9_layGains {X : Cxt} (hX : okX X cX9_layGains RX9 rm_X9_layGains (none) 2) (M : Mem) (v0 : Nat) : Zj X (fun o : Mem => Qr X rm_X9_layGains.cells rm_X9_layGains.slots (none) o) 0 0 0 [(0, .ref v0)] [] M (f_X9_layGains M v0) := by
  unfold f_X9_layGains
  refine z_iconst (v := 0) hX (by decide) dX9_layGains_0 ?_
  refine z_istore_n hX [(1, .int 0), (0, .ref v0)] rfl (by decide) rfl dX9_layGains_1 ?_
  refine z_sub [1, 0] rfl ?_
  refine z_lp (x0 := (0, M)) (bd_X9_layGains_2 v0) 2 35 (fun (u1 : Int32 × Mem) => [(0, .ref v0), (1, .int u1.1)]) (fun (e2 : Int32 × Mem) => []) (fun (u1 : Int32 × Mem) => u1.2) ?_ ?_
  · intro e2
    exact z_vretM hX dX9_layGains_35 (Nat.le_of_ble_eq_true rfl) (Nat.le_of_ble_eq_true rfl)
  · intro kk3 rc4 hkk3 hrc4 u1
    unfold bd_X9_layGains_2
    refine z_iload_n hX 1 rfl rfl dX9_layGains_2 ?_
    refine z_aload_n hX 0 rfl rfl dX9_layGains_3 ?_
    refine z_gFI 9 6 hX (by decide) rfl (by decide) rfl q_1317 dX9_layGains_4 (fun x5 => ?_)
    refine z_icmp_ge hX 35 (by decide) dX9_layGains_7 (fun _ => ?_) (fun _ => ?_)
    · refine z_sub [] rfl ?_
      exact hkk3 (u1.1, u1.2)
    · refine z_aload_n hX 0 rfl rfl dX9_layGains_10 ?_
      refine z_gFR 9 40 hX (by decide) rfl (by decide) rfl q_1351 dX9_layGains_11 (fun r6 => ?_)
      refine z_iload_n hX 1 rfl rfl dX9_layGains_14 ?_
      refine z_aload_n hX 0 rfl rfl dX9_layGains_15 ?_
      refine z_iload_n hX 1 rfl rfl dX9_layGains_16 ?_
      refine z_cVIp 9 [.int u1.1] hX (fun l hl o ho => c_X9_votesOf l hl u1.2 v0 u1.1 o ho) dX9_layGains_17 (by decide) rfl rfl q_1635 okV_X9_votesOf rfl ⟨(Nat.le_of_ble_eq_true rfl), (Nat.le_of_ble_eq_true rfl)⟩ rfl (Nat.le_of_ble_eq_true rfl) rfl rfl ⟨(Nat.le_of_ble_eq_true rfl), (Nat.le_of_ble_eq_true rfl)⟩ (fun o7 => ?_)
      refine z_i2l hX rfl dX9_layGains_20 ?_
      refine z_aload_n hX 0 rfl rfl dX9_layGains_21 ?_
      refine z_iload_n hX 1 rfl rfl dX9_layGains_22 ?_
      refine z_cVIp 9 [.int u1.1] hX (fun l hl o ho => c_X9_worthOf l hl u1.2 v0 u1.1 o ho) dX9_layGains_23 (by decide) rfl rfl q_1735 okV_X9_worthOf rfl ⟨(Nat.le_of_ble_eq_true rfl), (Nat.le_of_ble_eq_true rfl)⟩ rfl (Nat.le_of_ble_eq_true rfl) rfl rfl ⟨(Nat.le_of_ble_eq_true rfl), (Nat.le_of_ble_eq_true rfl)⟩ (fun o8 => ?_)
      refine z_i2l hX rfl dX9_layGains_26 ?_
      refine z_lmul hX dX9_layGains_27 ?_
      refine z_wL hX dX9_layGains_28 (fun M9 => ?_)
      refine z_iinc hX 1 [(1, .int (u1.1 + 1)), (0, .ref v0)] rfl rfl (by decide) rfl dX9_layGains_29 ?_
      refine z_goto hX 2 (by decide) dX9_layGains_32 ?_
      refine z_sub [1, 0] rfl ?_
      exact hrc4 (u1.1 + 1, M9)
theorem c_X9_layGains (l : Launch) (hl : l.stackTraces = false) (M : Mem) (v0 : Nat) (o : Mem) (ho : f_X9_layGains M v0 = some o) : Ct l yX9_layGains cX9_layGains 2 (none) rm_X9_layGains [.ref v0] M (none) o :=
  Ct.of hl (by decide +kernel) (Nat.le_of_ble_eq_true rfl) rfl (fun X hX hin => z_X9_layGains hX M v0 o ho)
theorem okV_X9_layGains : okV yX9_layGains cX9_layGains 2 (none) 0 := ⟨q_1733, q_69, q_96, q_1734, by unfold okY; decide +kernel⟩
/-! ParticipatoryBudgetModel.best()V -/
abbrev rm_X9_best : Room := { frames := 4, cells := 0, slots := 0, locals := 87 }
set_option maxRecDepth 20000 in
set_option maxHeartbeats 4000000 in
theorem z_X9_best {X : Cxt} (hX : okX X cX9_best RX9 rm_X9_best (none) 7) (M : Mem) (v0 : Nat) : Zj X (fun o : Mem => Qr X rm_X9_best.cells rm_X9_best.slots (none) o) 0 0 0 [(0, .ref v0)] [] M (f_X9_best M v0) := by
  unfold f_X9_best
  refine z_aload_n hX 0 rfl rfl dX9_best_0 ?_
  refine z_cVVm 9 [] hX (fun l hl o ho => c_X9_clearResult l hl M v0 o ho) dX9_best_1 (by decide) rfl rfl q_1691 okV_X9_clearResult rfl ⟨(Nat.le_of_ble_eq_true rfl), (Nat.le_of_ble_eq_true rfl)⟩ rfl (Nat.le_of_ble_eq_true rfl) rfl rfl ⟨(Nat.le_of_ble_eq_true rfl), (Nat.le_of_ble_eq_true rfl)⟩ (fun o1 => ?_)
  refine z_aload_n hX 0 rfl rfl dX9_best_4 ?_
  refine z_cVVm 9 [] hX (fun l hl o ho => c_X9_layGains l hl o1 v0 o ho) dX9_best_5 (by decide) rfl rfl q_1731 okV_X9_layGains rfl ⟨(Nat.le_of_ble_eq_true rfl), (Nat.le_of_ble_eq_true rfl)⟩ rfl (Nat.le_of_ble_eq_true rfl) rfl rfl ⟨(Nat.le_of_ble_eq_true rfl), (Nat.le_of_ble_eq_true rfl)⟩ (fun o2 => ?_)
  refine z_iconst (v := 0) hX (by decide) dX9_best_8 ?_
  refine z_istore_n hX [(1, .int 0), (0, .ref v0)] rfl (by decide) rfl dX9_best_9 ?_
  refine z_iconst (v := 1) hX (by decide) dX9_best_10 ?_
  refine z_istore_n hX [(2, .int 1), (1, .int 0), (0, .ref v0)] rfl (by decide) rfl dX9_best_11 ?_
  refine z_sub [2, 1, 0] rfl ?_
  refine z_lp (x0 := (0, 1)) (bd_X9_best_12 v0 o2) 12 81 (fun (u3 : Int32 × Int32) => [(0, .ref v0), (1, .int u3.1), (2, .int u3.2)]) (fun (e4 : Int32 × Int32) => [(0, .ref v0), (1, .int e4.1)]) (fun (u3 : Int32 × Int32) => o2) ?_ ?_
  · intro e4
    refine z_iconst (v := 0) hX (by decide) dX9_best_81 ?_
    refine z_istore_n hX [(2, .int 0), (0, .ref v0), (1, .int e4.1)] rfl (by decide) rfl dX9_best_82 ?_
    refine z_sub [1, 2, 0] rfl ?_
    refine z_lp (x0 := (0, o2)) (bd_X9_best_83 v0 e4) 83 110 (fun (u15 : Int32 × Mem) => [(0, .ref v0), (1, .int e4.1), (2, .int u15.1)]) (fun (e16 : Int32 × Mem) => []) (fun (u15 : Int32 × Mem) => u15.2) ?_ ?_
    · intro e16
      exact z_vretM hX dX9_best_110 (Nat.le_of_ble_eq_true rfl) (Nat.le_of_ble_eq_true rfl)
    · intro kk17 rc18 hkk17 hrc18 u15
      unfold bd_X9_best_83
      refine z_iload_n hX 2 rfl rfl dX9_best_83 ?_
      refine z_aload_n hX 0 rfl rfl dX9_best_84 ?_
      refine z_gFI 9 6 hX (by decide) rfl (by decide) rfl q_1317 dX9_best_85 (fun x19 => ?_)
      refine z_icmp_ge hX 110 (by decide) dX9_best_88 (fun _ => ?_) (fun _ => ?_)
      · refine z_sub [] rfl ?_
        exact hkk17 (u15.1, u15.2)
      · refine z_iload_n hX 1 rfl rfl dX9_best_91 ?_
        refine z_iload_n hX 2 rfl rfl dX9_best_92 ?_
        refine z_cSIp [.int e4.1, .int u15.1] hX (fun l hl o ho => c_X9_has l hl u15.2 e4.1 u15.1 o ho) dX9_best_93 q_1537 okS_X9_has rfl ⟨(Nat.le_of_ble_eq_true rfl), (Nat.le_of_ble_eq_true rfl)⟩ rfl (Nat.le_of_ble_eq_true rfl) rfl rfl ⟨(Nat.le_of_ble_eq_true rfl), (Nat.le_of_ble_eq_true rfl)⟩ (fun o20 => ?_)
        refine z_jn (C' := 0) (S' := 0) 104 (fun (j21 : Mem) => [(0, .ref v0), (1, .int e4.1), (2, .int u15.1)]) (fun (j21 : Mem) => []) (fun (j21 : Mem) => j21) (fun j21 => ?_) (fun kj21 => ?_)
        · refine z_iinc hX 2 [(2, .int (u15.1 + 1)), (0, .ref v0), (1, .int e4.1)] rfl rfl (by decide) rfl dX9_best_104 ?_
          refine z_goto hX 83 (by decide) dX9_best_107 ?_
          refine z_sub [1, 2, 0] rfl ?_
          exact hrc18 (u15.1 + 1, j21)
        · refine z_iteB ?_
          refine z_if_eq hX 104 (by decide) dX9_best_96 (fun _ => ?_) (fun _ => ?_)
          · refine z_pure ?_
            refine z_sub [0, 1, 2] rfl ?_
            exact kj21 u15.2
          · refine z_aload_n hX 0 rfl rfl dX9_best_99 ?_
            refine z_iload_n hX 2 rfl rfl dX9_best_100 ?_
            refine z_asc ?_
            refine z_asc2 ?_
            refine z_cVVm 9 [.int u15.1] hX (fun l hl o ho => c_X9_note l hl u15.2 v0 u15.1 o ho) dX9_best_101 (by decide) rfl rfl q_1703 okV_X9_note rfl ⟨(Nat.le_of_ble_eq_true rfl), (Nat.le_of_ble_eq_true rfl)⟩ rfl (Nat.le_of_ble_eq_true rfl) rfl rfl ⟨(Nat.le_of_ble_eq_true rfl), (Nat.le_of_ble_eq_true rfl)⟩ (fun o22 => ?_)
            refine z_pure ?_
            refine z_sub [0, 1, 2] rfl ?_
            exact kj21 o22
  · intro kk5 rc6 hkk5 hrc6 u3
    unfold bd_X9_best_12
    refine z_iload_n hX 2 rfl rfl dX9_best_12 ?_
    refine z_iconst (v := 1) hX (by decide) dX9_best_13 ?_
    refine z_aload_n hX 0 rfl rfl dX9_best_14 ?_
    refine z_gFI 9 6 hX (by decide) rfl (by decide) rfl q_1317 dX9_best_15 (fun x7 => ?_)
    refine z_ishl hX dX9_best_18 ?_
    refine z_icmp_ge hX 81 (by decide) dX9_best_19 (fun _ => ?_) (fun _ => ?_)
    · refine z_sub [0, 1] rfl ?_
      exact hkk5 (u3.1, u3.2)
    · refine z_aload_n hX 0 rfl rfl dX9_best_22 ?_
      refine z_iload_n hX 2 rfl rfl dX9_best_23 ?_
      refine z_cVJp 9 [.int u3.2] hX (fun l hl o ho => c_X9_gainOf l hl o2 v0 u3.2 o ho) dX9_best_24 (by decide) rfl rfl q_1739 okV_X9_gainOf rfl ⟨(Nat.le_of_ble_eq_true rfl), (Nat.le_of_ble_eq_true rfl)⟩ rfl (Nat.le_of_ble_eq_true rfl) rfl rfl ⟨(Nat.le_of_ble_eq_true rfl), (Nat.le_of_ble_eq_true rfl)⟩ (fun o8 => ?_)
      refine z_lstore_n hX [(3, .long o8), (0, .ref v0), (1, .int u3.1), (2, .int u3.2)] rfl (by decide) rfl dX9_best_27 ?_
      refine z_aload_n hX 1 rfl rfl dX9_best_28 ?_
      refine z_iload_n hX 2 rfl rfl dX9_best_29 ?_
      refine z_cVJp 9 [.int u3.1] hX (fun l hl o ho => c_X9_gainOf l hl o2 v0 u3.1 o ho) dX9_best_30 (by decide) rfl rfl q_1739 okV_X9_gainOf rfl ⟨(Nat.le_of_ble_eq_true rfl), (Nat.le_of_ble_eq_true rfl)⟩ rfl (Nat.le_of_ble_eq_true rfl) rfl rfl ⟨(Nat.le_of_ble_eq_true rfl), (Nat.le_of_ble_eq_true rfl)⟩ (fun o9 => ?_)
      refine z_lstore hX [(5, .long o9), (3, .long o8), (0, .ref v0), (1, .int u3.1), (2, .int u3.2)] (by decide) rfl dX9_best_33 ?_
      refine z_lload_n hX 1 rfl rfl dX9_best_35 ?_
      refine z_lload hX 0 rfl dX9_best_36 ?_
      refine z_lcmp hX dX9_best_38 ?_
      refine z_jn (C' := 0) (S' := 0) 75 (fun (j10 : Int32) => [(0, .ref v0), (1, .int j10), (2, .int u3.2)]) (fun (j10 : Int32) => []) (fun (j10 : Int32) => o2) (fun j10 => ?_) (fun kj10 => ?_)
      · refine z_iinc hX 2 [(2, .int (u3.2 + 1)), (0, .ref v0), (1, .int j10)] rfl rfl (by decide) rfl dX9_best_75 ?_
        refine z_goto hX 12 (by decide) dX9_best_78 ?_
        refine z_sub [1, 2, 0] rfl ?_
        exact hrc6 (j10, u3.2 + 1)
      · refine z_iteB ?_
        refine z_if_lt hX 75 (by decide) dX9_best_39 (fun _ => ?_) (fun _ => ?_)
        · refine z_pure ?_
          refine z_sub [2, 3, 4] rfl ?_
          exact kj10 u3.1
        · refine z_lload_n hX 1 rfl rfl dX9_best_42 ?_
          refine z_lload hX 0 rfl dX9_best_43 ?_
          refine z_lcmp hX dX9_best_45 ?_
          refine z_jlB (C' := 0) (S' := 0) 62 (fun (j11 : Unit) => [(0, .ref v0), (1, .int u3.1), (2, .int u3.2)]) (fun (j11 : Unit) => []) (fun (j11 : Unit) => o2) (fun j11 => ?_) (fun j11f kj11 => ?_)
          · refine z_aload_n hX 0 rfl rfl dX9_best_62 ?_
            refine z_iload_n hX 2 rfl rfl dX9_best_63 ?_
            refine z_asc ?_
            refine z_asc2 ?_
            refine z_cVIp 9 [.int u3.2] hX (fun l hl o ho => c_X9_isPayable l hl o2 v0 u3.2 o ho) dX9_best_64 (by decide) rfl rfl q_1747 okV_X9_isPayable rfl ⟨(Nat.le_of_ble_eq_true rfl), (Nat.le_of_ble_eq_true rfl)⟩ rfl (Nat.le_of_ble_eq_true rfl) rfl rfl ⟨(Nat.le_of_ble_eq_true rfl), (Nat.le_of_ble_eq_true rfl)⟩ (fun o12 => ?_)
            refine z_iteB ?_
            refine z_if_ne hX 73 (by decide) dX9_best_67 (fun _ => ?_) (fun _ => ?_)
            · refine z_iload_n hX 2 rfl rfl dX9_best_73 ?_
              refine z_istore_n hX [(1, .int u3.2), (0, .ref v0), (2, .int u3.2)] rfl (by decide) rfl dX9_best_74 ?_
              refine z_pure ?_
              refine z_sub [1, 0, 2] rfl ?_
              exact kj10 u3.2
            · refine z_goto hX 75 (by decide) dX9_best_70 ?_
              refine z_pure ?_
              refine z_sub [0, 1, 2] rfl ?_
              exact kj10 u3.1
          · refine z_iteB ?_
            refine z_if_ne hX 62 (by decide) dX9_best_46 (fun _ => ?_) (fun _ => ?_)
            · refine z_sub [2, 3, 4] rfl ?_
              exact kj11 ()
            · refine z_aload_n hX 2 rfl rfl dX9_best_49 ?_
              refine z_iload_n hX 4 rfl rfl dX9_best_50 ?_
              refine z_asc ?_
              refine z_asc2 ?_
              refine z_cVIp 9 [.int u3.2] hX (fun l hl o ho => c_X9_costsOf l hl o2 v0 u3.2 o ho) dX9_best_51 (by decide) rfl rfl q_1743 okV_X9_costsOf rfl ⟨(Nat.le_of_ble_eq_true rfl), (Nat.le_of_ble_eq_true rfl)⟩ rfl (Nat.le_of_ble_eq_true rfl) rfl rfl ⟨(Nat.le_of_ble_eq_true rfl), (Nat.le_of_ble_eq_true rfl)⟩ (fun o13 => ?_)
              refine z_aload_n hX 2 rfl rfl dX9_best_54 ?_
              refine z_iload_n hX 3 rfl rfl dX9_best_55 ?_
              refine z_asc ?_
              refine z_asc2 ?_
              refine z_cVIp 9 [.int u3.1] hX (fun l hl o ho => c_X9_costsOf l hl o2 v0 u3.1 o ho) dX9_best_56 (by decide) rfl rfl q_1743 okV_X9_costsOf rfl ⟨(Nat.le_of_ble_eq_true rfl), (Nat.le_of_ble_eq_true rfl)⟩ rfl (Nat.le_of_ble_eq_true rfl) rfl rfl ⟨(Nat.le_of_ble_eq_true rfl), (Nat.le_of_ble_eq_true rfl)⟩ (fun o14 => ?_)
              refine z_iteB ?_
              refine z_icmp_ge hX 75 (by decide) dX9_best_59 (fun _ => ?_) (fun _ => ?_)
              · refine z_pure ?_
                refine z_sub [2, 3, 4] rfl ?_
                exact kj10 u3.1
              · refine z_sub [2, 3, 4] rfl ?_
                exact kj11 ()
theorem c_X9_best (l : Launch) (hl : l.stackTraces = false) (M : Mem) (v0 : Nat) (o : Mem) (ho : f_X9_best M v0 = some o) : Ct l yX9_best cX9_best 7 (none) rm_X9_best [.ref v0] M (none) o :=
  Ct.of hl (by decide +kernel) (Nat.le_of_ble_eq_true rfl) rfl (fun X hX hin => z_X9_best hX M v0 o ho)
theorem okV_X9_best : okV yX9_best cX9_best 7 (none) 0 := ⟨q_1729, q_68, q_96, q_1730, by unfold okY; decide +kernel⟩
/-! ParticipatoryBudgetModel.runs(I)Z -/
abbrev rm_X9_runs : Room := { frames := 7, cells := 0, slots := 0, locals := 165 }
set_option maxRecDepth 20000 in
set_option maxHeartbeats 4000000 in
theorem z_X9_runs {X : Cxt} (hX : okX X cX9_runs RX9 rm_X9_runs (some .boolean) 2) (M : Mem) (v0 : Nat) (v1 : Int32) : Zj X (fun o : Int32 × Mem => Qr X rm_X9_runs.cells rm_X9_runs.slots (some (.int o.1)) o.2) 0 0 0 [(0, .ref v0), (1, .int v1)] [] M (f_X9_runs M v0 v1) := by
  unfold f_X9_runs
  refine z_iload_n hX 1 rfl rfl dX9_runs_0 ?_
  refine z_tsw0 (fun hz1 => ?_)
  refine z_tswC hX 0 28 hz1 dX9_runs_1 (by decide) (by decide) rfl (by decide) ?_ (fun hz6 => ?_)
  · refine z_aload_n hX 0 rfl rfl dX9_runs_28 ?_
    refine z_cVVm 9 [] hX (fun l hl o ho => c_X9_equal l hl M v0 o ho) dX9_runs_29 (by decide) rfl rfl q_1683 okV_X9_equal rfl ⟨(Nat.le_of_ble_eq_true rfl), (Nat.le_of_ble_eq_true rfl)⟩ rfl (Nat.le_of_ble_eq_true rfl) rfl rfl ⟨(Nat.le_of_ble_eq_true rfl), (Nat.le_of_ble_eq_true rfl)⟩ (fun o2 => ?_)
    refine z_iconst (v := 1) hX (by decide) dX9_runs_32 ?_
    exact z_zretM hX dX9_runs_33 (Nat.le_of_ble_eq_true rfl) (Nat.le_of_ble_eq_true rfl)
  refine z_tswC hX 1 34 hz6 dX9_runs_1 (by decide) (by decide) rfl (by decide) ?_ (fun hz7 => ?_)
  · refine z_aload_n hX 0 rfl rfl dX9_runs_34 ?_
    refine z_cVVm 9 [] hX (fun l hl o ho => c_X9_clearResult l hl M v0 o ho) dX9_runs_35 (by decide) rfl rfl q_1691 okV_X9_clearResult rfl ⟨(Nat.le_of_ble_eq_true rfl), (Nat.le_of_ble_eq_true rfl)⟩ rfl (Nat.le_of_ble_eq_true rfl) rfl rfl ⟨(Nat.le_of_ble_eq_true rfl), (Nat.le_of_ble_eq_true rfl)⟩ (fun o3 => ?_)
    refine z_aload_n hX 0 rfl rfl dX9_runs_38 ?_
    refine z_cVVm 9 [] hX (fun l hl o ho => c_X9_greedily l hl o3 v0 o ho) dX9_runs_39 (by decide) rfl rfl q_1711 okV_X9_greedily rfl ⟨(Nat.le_of_ble_eq_true rfl), (Nat.le_of_ble_eq_true rfl)⟩ rfl (Nat.le_of_ble_eq_true rfl) rfl rfl ⟨(Nat.le_of_ble_eq_true rfl), (Nat.le_of_ble_eq_true rfl)⟩ (fun o4 => ?_)
    refine z_iconst (v := 1) hX (by decide) dX9_runs_42 ?_
    exact z_zretM hX dX9_runs_43 (Nat.le_of_ble_eq_true rfl) (Nat.le_of_ble_eq_true rfl)
  refine z_tswC hX 2 44 hz7 dX9_runs_1 (by decide) (by decide) rfl (by decide) ?_ (fun hz8 => ?_)
  · refine z_aload_n hX 0 rfl rfl dX9_runs_44 ?_
    refine z_cVVm 9 [] hX (fun l hl o ho => c_X9_best l hl M v0 o ho) dX9_runs_45 (by decide) rfl rfl q_1727 okV_X9_best rfl ⟨(Nat.le_of_ble_eq_true rfl), (Nat.le_of_ble_eq_true rfl)⟩ rfl (Nat.le_of_ble_eq_true rfl) rfl rfl ⟨(Nat.le_of_ble_eq_true rfl), (Nat.le_of_ble_eq_true rfl)⟩ (fun o5 => ?_)
    refine z_iconst (v := 1) hX (by decide) dX9_runs_48 ?_
    exact z_zretM hX dX9_runs_49 (Nat.le_of_ble_eq_true rfl) (Nat.le_of_ble_eq_true rfl)
  refine z_tswD hX 3 50 hz8 dX9_runs_1 (by decide) (by decide) (by decide) ?_
  refine z_iconst (v := 0) hX (by decide) dX9_runs_50 ?_
  exact z_zretM hX dX9_runs_51 (Nat.le_of_ble_eq_true rfl) (Nat.le_of_ble_eq_true rfl)
theorem c_X9_runs (l : Launch) (hl : l.stackTraces = false) (M : Mem) (v0 : Nat) (v1 : Int32) (o : Int32 × Mem) (ho : f_X9_runs M v0 v1 = some o) : Ct l yX9_runs cX9_runs 2 (some .boolean) rm_X9_runs [.ref v0, .int v1] M (some (.int o.1)) o.2 :=
  Ct.of hl (by decide +kernel) (Nat.le_of_ble_eq_true rfl) rfl (fun X hX hin => z_X9_runs hX M v0 v1 o ho)
theorem okV_X9_runs : okV yX9_runs cX9_runs 2 (some .boolean) 1 := ⟨q_1681, q_56, q_96, q_1682, by unfold okY; decide +kernel⟩
/-! ParticipatoryBudgetModel.funded(I)I -/
abbrev rm_X9_funded : Room := { frames := 8, cells := 0, slots := 0, locals := 186 }
set_option maxRecDepth 20000 in
set_option maxHeartbeats 4000000 in
theorem z_X9_funded {X : Cxt} (hX : okX X cX9_funded RX9 rm_X9_funded (some .int) 2) (M : Mem) (v0 : Nat) (v1 : Int32) : Zj X (fun o : Int32 × Mem => Qr X rm_X9_funded.cells rm_X9_funded.slots (some (.int o.1)) o.2) 0 0 0 [(0, .ref v0), (1, .int v1)] [] M (f_X9_funded M v0 v1) := by
  unfold f_X9_funded
  refine z_aload_n hX 0 rfl rfl dX9_funded_0 ?_
  refine z_iconst (v := 0) hX (by decide) dX9_funded_1 ?_
  refine z_pFI 9 4 hX (by decide) rfl (by decide) rfl q_1315 rfl pd_1 rfl rfl dX9_funded_2 (fun M1 => ?_)
  refine z_aload_n hX 0 rfl rfl dX9_funded_5 ?_
  refine z_iload_n hX 1 rfl rfl dX9_funded_6 ?_
  refine z_cVIm 9 [.int v1] hX (fun l hl o ho => c_X9_runs l hl M1 v0 v1 o ho) dX9_funded_7 (by decide) rfl rfl q_1679 okV_X9_runs rfl ⟨(Nat.le_of_ble_eq_true rfl), (Nat.le_of_ble_eq_true rfl)⟩ rfl (Nat.le_of_ble_eq_true rfl) rfl rfl ⟨(Nat.le_of_ble_eq_true rfl), (Nat.le_of_ble_eq_true rfl)⟩ (fun o2 => ?_)
  refine z_jn (C' := 0) (S' := 0) 22 (fun (j3 : Int32) => []) (fun (j3 : Int32) => [.int j3]) (fun (j3 : Int32) => o2.2) (fun j3 => ?_) (fun kj3 => ?_)
  · exact z_iretM hX dX9_funded_22 (Nat.le_of_ble_eq_true rfl) (Nat.le_of_ble_eq_true rfl)
  · refine z_iteB ?_
    refine z_if_eq hX 20 (by decide) dX9_funded_10 (fun _ => ?_) (fun _ => ?_)
    · refine z_bipush (v := (-2)) hX (by decide) dX9_funded_20 ?_
      refine z_pure ?_
      refine z_sub [] rfl ?_
      exact kj3 (-2)
    · refine z_aload_n hX 0 rfl rfl dX9_funded_13 ?_
      refine z_asc ?_
      refine z_gFI 9 30 hX (by decide) rfl (by decide) rfl q_1341 dX9_funded_14 (fun x4 => ?_)
      refine z_goto hX 22 (by decide) dX9_funded_17 ?_
      refine z_pure ?_
      refine z_sub [] rfl ?_
      exact kj3 x4
theorem c_X9_funded (l : Launch) (hl : l.stackTraces = false) (M : Mem) (v0 : Nat) (v1 : Int32) (o : Int32 × Mem) (ho : f_X9_funded M v0 v1 = some o) : Ct l yX9_funded cX9_funded 2 (some .int) rm_X9_funded [.ref v0, .int v1] M (some (.int o.1)) o.2 :=
  Ct.of hl (by decide +kernel) (Nat.le_of_ble_eq_true rfl) rfl (fun X hX hin => z_X9_funded hX M v0 v1 o ho)
theorem okV_X9_funded : okV yX9_funded cX9_funded 2 (some .int) 1 := ⟨q_1676, q_1677, q_96, q_1678, by unfold okY; decide +kernel⟩
/-! ParticipatoryBudgetModel.fundedAt(II)I -/
abbrev rm_X9_fundedAt : Room := { frames := 8, cells := 0, slots := 0, locals := 186 }
set_option maxRecDepth 20000 in
set_option maxHeartbeats 4000000 in
theorem z_X9_fundedAt {X : Cxt} (hX : okX X cX9_fundedAt RX9 rm_X9_fundedAt (some .int) 3) (M : Mem) (v0 : Nat) (v1 : Int32) (v2 : Int32) : Zj X (fun o : Int32 × Mem => Qr X rm_X9_fundedAt.cells rm_X9_fundedAt.slots (some (.int o.1)) o.2) 0 0 0 [(0, .ref v0), (1, .int v1), (2, .int v2)] [] M (f_X9_fundedAt M v0 v1 v2) := by
  unfold f_X9_fundedAt
  refine z_aload_n hX 0 rfl rfl dX9_fundedAt_0 ?_
  refine z_iconst (v := 0) hX (by decide) dX9_fundedAt_1 ?_
  refine z_pFI 9 4 hX (by decide) rfl (by decide) rfl q_1315 rfl pd_1 rfl rfl dX9_fundedAt_2 (fun M1 => ?_)
  refine z_aload_n hX 0 rfl rfl dX9_fundedAt_5 ?_
  refine z_iload_n hX 1 rfl rfl dX9_fundedAt_6 ?_
  refine z_cVIm 9 [.int v1] hX (fun l hl o ho => c_X9_runs l hl M1 v0 v1 o ho) dX9_fundedAt_7 (by decide) rfl rfl q_1679 okV_X9_runs rfl ⟨(Nat.le_of_ble_eq_true rfl), (Nat.le_of_ble_eq_true rfl)⟩ rfl (Nat.le_of_ble_eq_true rfl) rfl rfl ⟨(Nat.le_of_ble_eq_true rfl), (Nat.le_of_ble_eq_true rfl)⟩ (fun o2 => ?_)
  refine z_if_ne hX 16 (by decide) dX9_fundedAt_10 (fun _ => ?_) (fun _ => ?_)
  · refine z_iload_n hX 2 rfl rfl dX9_fundedAt_16 ?_
    refine z_iconst (v := 0) hX (by decide) dX9_fundedAt_17 ?_
    refine z_aload_n hX 0 rfl rfl dX9_fundedAt_18 ?_
    refine z_gFI 9 31 hX (by decide) rfl (by decide) rfl q_1342 dX9_fundedAt_19 (fun x3 => ?_)
    refine z_iconst (v := 1) hX (by decide) dX9_fundedAt_22 ?_
    refine z_isub hX dX9_fundedAt_23 ?_
    refine z_cSIp [.int v2, .int 0, .int (x3 - 1)] hX (fun l hl o ho => c_X9_inRange l hl o2.2 v2 0 (x3 - 1) o ho) dX9_fundedAt_24 q_1467 okS_X9_inRange rfl ⟨(Nat.le_of_ble_eq_true rfl), (Nat.le_of_ble_eq_true rfl)⟩ rfl (Nat.le_of_ble_eq_true rfl) rfl rfl ⟨(Nat.le_of_ble_eq_true rfl), (Nat.le_of_ble_eq_true rfl)⟩ (fun o4 => ?_)
    refine z_jn (C' := 0) (S' := 0) 40 (fun (j5 : Int32) => []) (fun (j5 : Int32) => [.int j5]) (fun (j5 : Int32) => o2.2) (fun j5 => ?_) (fun kj5 => ?_)
    · exact z_iretM hX dX9_fundedAt_40 (Nat.le_of_ble_eq_true rfl) (Nat.le_of_ble_eq_true rfl)
    · refine z_iteB ?_
      refine z_if_eq hX 39 (by decide) dX9_fundedAt_27 (fun _ => ?_) (fun _ => ?_)
      · refine z_iconst (v := (-1)) hX (by decide) dX9_fundedAt_39 ?_
        refine z_pure ?_
        refine z_sub [] rfl ?_
        exact kj5 (-1)
      · refine z_aload_n hX 0 rfl rfl dX9_fundedAt_30 ?_
        refine z_asc ?_
        refine z_gFR 9 32 hX (by decide) rfl (by decide) rfl q_1343 dX9_fundedAt_31 (fun r6 => ?_)
        refine z_iload_n hX 2 rfl rfl dX9_fundedAt_34 ?_
        refine z_asc ?_
        refine z_aI hX dX9_fundedAt_35 (fun x7 => ?_)
        refine z_goto hX 40 (by decide) dX9_fundedAt_36 ?_
        refine z_pure ?_
        refine z_sub [] rfl ?_
        exact kj5 x7
  · refine z_bipush (v := (-2)) hX (by decide) dX9_fundedAt_13 ?_
    exact z_iretM hX dX9_fundedAt_15 (Nat.le_of_ble_eq_true rfl) (Nat.le_of_ble_eq_true rfl)
theorem c_X9_fundedAt (l : Launch) (hl : l.stackTraces = false) (M : Mem) (v0 : Nat) (v1 : Int32) (v2 : Int32) (o : Int32 × Mem) (ho : f_X9_fundedAt M v0 v1 v2 = some o) : Ct l yX9_fundedAt cX9_fundedAt 3 (some .int) rm_X9_fundedAt [.ref v0, .int v1, .int v2] M (some (.int o.1)) o.2 :=
  Ct.of hl (by decide +kernel) (Nat.le_of_ble_eq_true rfl) rfl (fun X hX hin => z_X9_fundedAt hX M v0 v1 v2 o ho)
theorem okV_X9_fundedAt : okV yX9_fundedAt cX9_fundedAt 3 (some .int) 2 := ⟨q_1752, q_1753, q_96, q_1754, by unfold okY; decide +kernel⟩
/-! ParticipatoryBudgetModel.priceOf(I)I -/
abbrev rm_X9_priceOf : Room := { frames := 7, cells := 0, slots := 0, locals := 165 }
set_option maxRecDepth 20000 in
set_option maxHeartbeats 4000000 in
theorem z_X9_priceOf {X : Cxt} (hX : okX X cX9_priceOf RX9 rm_X9_priceOf (some .int) 2) (M : Mem) (v0 : Nat) (v1 : Int32) : Zj X (fun o : Int32 × Mem => Qr X rm_X9_priceOf.cells rm_X9_priceOf.slots (some (.int o.1)) o.2) 0 0 0 [(0, .ref v0), (1, .int v1)] [] M (f_X9_priceOf M v0 v1) := by
  unfold f_X9_priceOf
  refine z_aload_n hX 0 rfl rfl dX9_priceOf_0 ?_
  refine z_aload_n hX 0 rfl rfl dX9_priceOf_1 ?_
  refine z_iload_n hX 1 rfl rfl dX9_priceOf_2 ?_
  refine z_cVIp 9 [.int v1] hX (fun l hl o ho => c_X9_isProject l hl M v0 v1 o ho) dX9_priceOf_3 (by decide) rfl rfl q_1595 okV_X9_isProject rfl ⟨(Nat.le_of_ble_eq_true rfl), (Nat.le_of_ble_eq_true rfl)⟩ rfl (Nat.le_of_ble_eq_true rfl) rfl rfl ⟨(Nat.le_of_ble_eq_true rfl), (Nat.le_of_ble_eq_true rfl)⟩ (fun o1 => ?_)
  refine z_cVIm 9 [.int o1] hX (fun l hl o ho => c_X9_fails l hl M v0 o1 o ho) dX9_priceOf_6 (by decide) rfl rfl q_1587 okV_X9_fails rfl ⟨(Nat.le_of_ble_eq_true rfl), (Nat.le_of_ble_eq_true rfl)⟩ rfl (Nat.le_of_ble_eq_true rfl) rfl rfl ⟨(Nat.le_of_ble_eq_true rfl), (Nat.le_of_ble_eq_true rfl)⟩ (fun o2 => ?_)
  refine z_if_eq hX 14 (by decide) dX9_priceOf_9 (fun _ => ?_) (fun _ => ?_)
  · refine z_aload_n hX 0 rfl rfl dX9_priceOf_14 ?_
    refine z_cVVm 9 [] hX (fun l hl o ho => c_X9_equal l hl o2.2 v0 o ho) dX9_priceOf_15 (by decide) rfl rfl q_1683 okV_X9_equal rfl ⟨(Nat.le_of_ble_eq_true rfl), (Nat.le_of_ble_eq_true rfl)⟩ rfl (Nat.le_of_ble_eq_true rfl) rfl rfl ⟨(Nat.le_of_ble_eq_true rfl), (Nat.le_of_ble_eq_true rfl)⟩ (fun o3 => ?_)
    refine z_aload_n hX 0 rfl rfl dX9_priceOf_18 ?_
    refine z_gFR 9 33 hX (by decide) rfl (by decide) rfl q_1344 dX9_priceOf_19 (fun r4 => ?_)
    refine z_iload_n hX 1 rfl rfl dX9_priceOf_22 ?_
    refine z_aI hX dX9_priceOf_23 (fun x5 => ?_)
    exact z_iretM hX dX9_priceOf_24 (Nat.le_of_ble_eq_true rfl) (Nat.le_of_ble_eq_true rfl)
  · refine z_iconst (v := 0) hX (by decide) dX9_priceOf_12 ?_
    exact z_iretM hX dX9_priceOf_13 (Nat.le_of_ble_eq_true rfl) (Nat.le_of_ble_eq_true rfl)
theorem c_X9_priceOf (l : Launch) (hl : l.stackTraces = false) (M : Mem) (v0 : Nat) (v1 : Int32) (o : Int32 × Mem) (ho : f_X9_priceOf M v0 v1 = some o) : Ct l yX9_priceOf cX9_priceOf 2 (some .int) rm_X9_priceOf [.ref v0, .int v1] M (some (.int o.1)) o.2 :=
  Ct.of hl (by decide +kernel) (Nat.le_of_ble_eq_true rfl) rfl (fun X hX hin => z_X9_priceOf hX M v0 v1 o ho)
theorem okV_X9_priceOf : okV yX9_priceOf cX9_priceOf 2 (some .int) 1 := ⟨q_1756, q_1757, q_96, q_1758, by unfold okY; decide +kernel⟩
/-! ParticipatoryBudgetModel.paidBy(II)I -/
abbrev rm_X9_paidBy : Room := { frames := 7, cells := 0, slots := 0, locals := 165 }
set_option maxRecDepth 20000 in
set_option maxHeartbeats 4000000 in
theorem z_X9_paidBy {X : Cxt} (hX : okX X cX9_paidBy RX9 rm_X9_paidBy (some .int) 3) (M : Mem) (v0 : Nat) (v1 : Int32) (v2 : Int32) : Zj X (fun o : Int32 × Mem => Qr X rm_X9_paidBy.cells rm_X9_paidBy.slots (some (.int o.1)) o.2) 0 0 0 [(0, .ref v0), (1, .int v1), (2, .int v2)] [] M (f_X9_paidBy M v0 v1 v2) := by
  unfold f_X9_paidBy
  refine z_aload_n hX 0 rfl rfl dX9_paidBy_0 ?_
  refine z_aload_n hX 0 rfl rfl dX9_paidBy_1 ?_
  refine z_iload_n hX 1 rfl rfl dX9_paidBy_2 ?_
  refine z_cVIp 9 [.int v1] hX (fun l hl o ho => c_X9_isProject l hl M v0 v1 o ho) dX9_paidBy_3 (by decide) rfl rfl q_1595 okV_X9_isProject rfl ⟨(Nat.le_of_ble_eq_true rfl), (Nat.le_of_ble_eq_true rfl)⟩ rfl (Nat.le_of_ble_eq_true rfl) rfl rfl ⟨(Nat.le_of_ble_eq_true rfl), (Nat.le_of_ble_eq_true rfl)⟩ (fun o1 => ?_)
  refine z_jn (C' := 0) (S' := 0) 22 (fun (j2 : Int32) => [(0, .ref v0), (1, .int v1), (2, .int v2)]) (fun (j2 : Int32) => [.int j2, .ref v0]) (fun (j2 : Int32) => M) (fun j2 => ?_) (fun kj2 => ?_)
  · refine z_cVIm 9 [.int j2] hX (fun l hl o ho => c_X9_fails l hl M v0 j2 o ho) dX9_paidBy_22 (by decide) rfl rfl q_1587 okV_X9_fails rfl ⟨(Nat.le_of_ble_eq_true rfl), (Nat.le_of_ble_eq_true rfl)⟩ rfl (Nat.le_of_ble_eq_true rfl) rfl rfl ⟨(Nat.le_of_ble_eq_true rfl), (Nat.le_of_ble_eq_true rfl)⟩ (fun o3 => ?_)
    refine z_if_eq hX 30 (by decide) dX9_paidBy_25 (fun _ => ?_) (fun _ => ?_)
    · refine z_aload_n hX 0 rfl rfl dX9_paidBy_30 ?_
      refine z_cVVm 9 [] hX (fun l hl o ho => c_X9_equal l hl o3.2 v0 o ho) dX9_paidBy_31 (by decide) rfl rfl q_1683 okV_X9_equal rfl ⟨(Nat.le_of_ble_eq_true rfl), (Nat.le_of_ble_eq_true rfl)⟩ rfl (Nat.le_of_ble_eq_true rfl) rfl rfl ⟨(Nat.le_of_ble_eq_true rfl), (Nat.le_of_ble_eq_true rfl)⟩ (fun o4 => ?_)
      refine z_aload_n hX 0 rfl rfl dX9_paidBy_34 ?_
      refine z_gFR 9 34 hX (by decide) rfl (by decide) rfl q_1345 dX9_paidBy_35 (fun r5 => ?_)
      refine z_bipush (v := 24) hX (by decide) dX9_paidBy_38 ?_
      refine z_iload_n hX 1 rfl rfl dX9_paidBy_40 ?_
      refine z_imul hX dX9_paidBy_41 ?_
      refine z_iload_n hX 2 rfl rfl dX9_paidBy_42 ?_
      refine z_iadd hX dX9_paidBy_43 ?_
      refine z_aI hX dX9_paidBy_44 (fun x6 => ?_)
      exact z_iretM hX dX9_paidBy_45 (Nat.le_of_ble_eq_true rfl) (Nat.le_of_ble_eq_true rfl)
    · refine z_iconst (v := 0) hX (by decide) dX9_paidBy_28 ?_
      exact z_iretM hX dX9_paidBy_29 (Nat.le_of_ble_eq_true rfl) (Nat.le_of_ble_eq_true rfl)
  · refine z_iteB ?_
    refine z_if_eq hX 21 (by decide) dX9_paidBy_6 (fun _ => ?_) (fun _ => ?_)
    · refine z_iconst (v := 0) hX (by decide) dX9_paidBy_21 ?_
      refine z_pure ?_
      refine z_sub [0, 1, 2] rfl ?_
      exact kj2 0
    · refine z_aload_n hX 0 rfl rfl dX9_paidBy_9 ?_
      refine z_iload_n hX 2 rfl rfl dX9_paidBy_10 ?_
      refine z_asc ?_
      refine z_asc2 ?_
      refine z_cVIp 9 [.int v2] hX (fun l hl o ho => c_X9_isVoter l hl M v0 v2 o ho) dX9_paidBy_11 (by decide) rfl rfl q_1607 okV_X9_isVoter rfl ⟨(Nat.le_of_ble_eq_true rfl), (Nat.le_of_ble_eq_true rfl)⟩ rfl (Nat.le_of_ble_eq_true rfl) rfl rfl ⟨(Nat.le_of_ble_eq_true rfl), (Nat.le_of_ble_eq_true rfl)⟩ (fun o7 => ?_)
      refine z_iteB ?_
      refine z_if_eq hX 21 (by decide) dX9_paidBy_14 (fun _ => ?_) (fun _ => ?_)
      · refine z_iconst (v := 0) hX (by decide) dX9_paidBy_21 ?_
        refine z_pure ?_
        refine z_sub [0, 1, 2] rfl ?_
        exact kj2 0
      · refine z_iconst (v := 1) hX (by decide) dX9_paidBy_17 ?_
        refine z_goto hX 22 (by decide) dX9_paidBy_18 ?_
        refine z_pure ?_
        refine z_sub [0, 1, 2] rfl ?_
        exact kj2 1
theorem c_X9_paidBy (l : Launch) (hl : l.stackTraces = false) (M : Mem) (v0 : Nat) (v1 : Int32) (v2 : Int32) (o : Int32 × Mem) (ho : f_X9_paidBy M v0 v1 v2 = some o) : Ct l yX9_paidBy cX9_paidBy 3 (some .int) rm_X9_paidBy [.ref v0, .int v1, .int v2] M (some (.int o.1)) o.2 :=
  Ct.of hl (by decide +kernel) (Nat.le_of_ble_eq_true rfl) rfl (fun X hX hin => z_X9_paidBy hX M v0 v1 v2 o ho)
theorem okV_X9_paidBy : okV yX9_paidBy cX9_paidBy 3 (some .int) 2 := ⟨q_1760, q_1761, q_96, q_1762, by unfold okY; decide +kernel⟩
