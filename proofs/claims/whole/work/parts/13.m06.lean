/-! ParticipatoryBudgetModel.indexOf([III)I -/
abbrev rm_X9_indexOf : Room := { frames := 0, cells := 0, slots := 0, locals := 0 }
set_option maxRecDepth 20000 in
set_option maxHeartbeats 4000000 in
theorem z_X9_indexOf {X : Cxt} (hX : okX X cX9_indexOf RX9 rm_X9_indexOf (some .int) 4) (M : Mem) (v0 : Nat) (v1 : Int32) (v2 : Int32) : Zj X (fun o : Int32 => Qr X rm_X9_indexOf.cells rm_X9_indexOf.slots (some (.int o)) M) 0 0 0 [(0, .ref v0), (1, .int v1), (2, .int v2)] [] M (f_X9_indexOf M v0 v1 v2) := by
  unfold f_X9_indexOf
  refine z_iconst (v := 0) hX (by decide) dX9_indexOf_0 ?_
  refine z_istore_n hX [(3, .int 0), (0, .ref v0), (1, .int v1), (2, .int v2)] rfl (by decide) rfl dX9_indexOf_1 ?_
  refine z_sub [1, 2, 3, 0] rfl ?_
  refine z_lp (x0 := 0) (bd_X9_indexOf_2 M v0 v1 v2) 2 22 (fun (u1 : Int32) => [(0, .ref v0), (1, .int v1), (2, .int v2), (3, .int u1)]) (fun (e2 : Int32) => []) (fun (u1 : Int32) => M) ?_ ?_
  · intro e2
    refine z_iconst (v := (-1)) hX (by decide) dX9_indexOf_22 ?_
    exact z_iretP hX dX9_indexOf_23 (Nat.le_of_ble_eq_true rfl) (Nat.le_of_ble_eq_true rfl)
  · intro kk3 rc4 hkk3 hrc4 u1
    unfold bd_X9_indexOf_2
    refine z_iload_n hX 3 rfl rfl dX9_indexOf_2 ?_
    refine z_iload_n hX 1 rfl rfl dX9_indexOf_3 ?_
    refine z_icmp_ge hX 22 (by decide) dX9_indexOf_4 (fun _ => ?_) (fun _ => ?_)
    · refine z_sub [] rfl ?_
      exact hkk3 u1
    · refine z_aload_n hX 0 rfl rfl dX9_indexOf_7 ?_
      refine z_iload_n hX 3 rfl rfl dX9_indexOf_8 ?_
      refine z_aI hX dX9_indexOf_9 (fun x5 => ?_)
      refine z_iload_n hX 2 rfl rfl dX9_indexOf_10 ?_
      refine z_icmp_ne hX 16 (by decide) dX9_indexOf_11 (fun _ => ?_) (fun _ => ?_)
      · refine z_iinc hX 3 [(3, .int (u1 + 1)), (0, .ref v0), (1, .int v1), (2, .int v2)] rfl rfl (by decide) rfl dX9_indexOf_16 ?_
        refine z_goto hX 2 (by decide) dX9_indexOf_19 ?_
        refine z_sub [1, 2, 3, 0] rfl ?_
        exact hrc4 (u1 + 1)
      · refine z_iload_n hX 3 rfl rfl dX9_indexOf_14 ?_
        exact z_iretP hX dX9_indexOf_15 (Nat.le_of_ble_eq_true rfl) (Nat.le_of_ble_eq_true rfl)
theorem c_X9_indexOf (l : Launch) (hl : l.stackTraces = false) (M : Mem) (v0 : Nat) (v1 : Int32) (v2 : Int32) (o : Int32) (ho : f_X9_indexOf M v0 v1 v2 = some o) : Ct l yX9_indexOf cX9_indexOf 4 (some .int) rm_X9_indexOf [.ref v0, .int v1, .int v2] M (some (.int o)) M :=
  Ct.of hl (by decide +kernel) (Nat.le_of_ble_eq_true rfl) rfl (fun X hX hin => z_X9_indexOf hX M v0 v1 v2 o ho)
theorem okS_X9_indexOf : okS yX9_indexOf cX9_indexOf 4 (some .int) 3 := ⟨q_1521, q_96, q_1522, by unfold okY; decide +kernel⟩
/-! ParticipatoryBudgetModel.readNewName()I -/
abbrev rm_X9_readNewName : Room := { frames := 3, cells := 0, slots := 0, locals := 63 }
set_option maxRecDepth 20000 in
set_option maxHeartbeats 4000000 in
theorem z_X9_readNewName {X : Cxt} (hX : okX X cX9_readNewName RX9 rm_X9_readNewName (some .int) 2) (M : Mem) (v0 : Nat) : Zj X (fun o : Int32 × Mem => Qr X rm_X9_readNewName.cells rm_X9_readNewName.slots (some (.int o.1)) o.2) 0 0 0 [(0, .ref v0)] [] M (f_X9_readNewName M v0) := by
  unfold f_X9_readNewName
  refine z_aload_n hX 0 rfl rfl dX9_readNewName_0 ?_
  refine z_gFI 9 25 hX (by decide) rfl (by decide) rfl q_1336 dX9_readNewName_1 (fun x1 => ?_)
  refine z_jn (C' := 0) (S' := 0) 15 (fun (j2 : Int32 × Mem) => [(0, .ref v0)]) (fun (j2 : Int32 × Mem) => [.int j2.1]) (fun (j2 : Int32 × Mem) => j2.2) (fun j2 => ?_) (fun kj2 => ?_)
  · refine z_istore_n hX [(1, .int j2.1), (0, .ref v0)] rfl (by decide) rfl dX9_readNewName_15 ?_
    refine z_aload_n hX 1 rfl rfl dX9_readNewName_16 ?_
    refine z_aload_n hX 1 rfl rfl dX9_readNewName_17 ?_
    refine z_gFR 9 14 hX (by decide) rfl (by decide) rfl q_1325 dX9_readNewName_18 (fun r3 => ?_)
    refine z_aload_n hX 1 rfl rfl dX9_readNewName_21 ?_
    refine z_gFI 9 11 hX (by decide) rfl (by decide) rfl q_1322 dX9_readNewName_22 (fun x4 => ?_)
    refine z_iload_n hX 0 rfl rfl dX9_readNewName_25 ?_
    refine z_cSIp [.ref r3, .int x4, .int j2.1] hX (fun l hl o ho => c_X9_indexOf l hl j2.2 r3 x4 j2.1 o ho) dX9_readNewName_26 q_1520 okS_X9_indexOf rfl ⟨(Nat.le_of_ble_eq_true rfl), (Nat.le_of_ble_eq_true rfl)⟩ rfl (Nat.le_of_ble_eq_true rfl) rfl rfl ⟨(Nat.le_of_ble_eq_true rfl), (Nat.le_of_ble_eq_true rfl)⟩ (fun o5 => ?_)
    refine z_jn (C' := 0) (S' := 0) 52 (fun (j6 : Int32) => [(0, .ref v0), (1, .int j2.1)]) (fun (j6 : Int32) => [.int j6, .ref v0]) (fun (j6 : Int32) => j2.2) (fun j6 => ?_) (fun kj6 => ?_)
    · refine z_bipush (v := (-14)) hX (by decide) dX9_readNewName_52 ?_
      refine z_cVVm 9 [.int j6, .int (-14)] hX (fun l hl o ho => c_X9_check l hl j2.2 v0 j6 (-14) o ho) dX9_readNewName_54 (by decide) rfl rfl q_1493 okV_X9_check rfl ⟨(Nat.le_of_ble_eq_true rfl), (Nat.le_of_ble_eq_true rfl)⟩ rfl (Nat.le_of_ble_eq_true rfl) rfl rfl ⟨(Nat.le_of_ble_eq_true rfl), (Nat.le_of_ble_eq_true rfl)⟩ (fun o7 => ?_)
      refine z_aload_n hX 0 rfl rfl dX9_readNewName_57 ?_
      refine z_cVVm 9 [] hX (fun l hl o ho => c_X9_advanceIfGood l hl o7 v0 o ho) dX9_readNewName_58 (by decide) rfl rfl q_1497 okV_X9_advanceIfGood rfl ⟨(Nat.le_of_ble_eq_true rfl), (Nat.le_of_ble_eq_true rfl)⟩ rfl (Nat.le_of_ble_eq_true rfl) rfl rfl ⟨(Nat.le_of_ble_eq_true rfl), (Nat.le_of_ble_eq_true rfl)⟩ (fun o8 => ?_)
      refine z_iload_n hX 1 rfl rfl dX9_readNewName_61 ?_
      exact z_iretM hX dX9_readNewName_62 (Nat.le_of_ble_eq_true rfl) (Nat.le_of_ble_eq_true rfl)
    · refine z_iteB ?_
      refine z_if_ge hX 51 (by decide) dX9_readNewName_29 (fun _ => ?_) (fun _ => ?_)
      · refine z_iconst (v := 0) hX (by decide) dX9_readNewName_51 ?_
        refine z_pure ?_
        refine z_sub [1, 0] rfl ?_
        exact kj6 0
      · refine z_aload_n hX 1 rfl rfl dX9_readNewName_32 ?_
        refine z_asc ?_
        refine z_gFR 9 15 hX (by decide) rfl (by decide) rfl q_1326 dX9_readNewName_33 (fun r9 => ?_)
        refine z_aload_n hX 1 rfl rfl dX9_readNewName_36 ?_
        refine z_asc ?_
        refine z_gFI 9 12 hX (by decide) rfl (by decide) rfl q_1323 dX9_readNewName_37 (fun x10 => ?_)
        refine z_iload_n hX 0 rfl rfl dX9_readNewName_40 ?_
        refine z_asc ?_
        refine z_cSIp [.ref r9, .int x10, .int j2.1] hX (fun l hl o ho => c_X9_indexOf l hl j2.2 r9 x10 j2.1 o ho) dX9_readNewName_41 q_1520 okS_X9_indexOf rfl ⟨(Nat.le_of_ble_eq_true rfl), (Nat.le_of_ble_eq_true rfl)⟩ rfl (Nat.le_of_ble_eq_true rfl) rfl rfl ⟨(Nat.le_of_ble_eq_true rfl), (Nat.le_of_ble_eq_true rfl)⟩ (fun o11 => ?_)
        refine z_iteB ?_
        refine z_if_ge hX 51 (by decide) dX9_readNewName_44 (fun _ => ?_) (fun _ => ?_)
        · refine z_iconst (v := 0) hX (by decide) dX9_readNewName_51 ?_
          refine z_pure ?_
          refine z_sub [1, 0] rfl ?_
          exact kj6 0
        · refine z_iconst (v := 1) hX (by decide) dX9_readNewName_47 ?_
          refine z_goto hX 52 (by decide) dX9_readNewName_48 ?_
          refine z_pure ?_
          refine z_sub [1, 0] rfl ?_
          exact kj6 1
  · refine z_iteB ?_
    refine z_if_ne hX 14 (by decide) dX9_readNewName_4 (fun _ => ?_) (fun _ => ?_)
    · refine z_iconst (v := 0) hX (by decide) dX9_readNewName_14 ?_
      refine z_pure ?_
      refine z_sub [0] rfl ?_
      exact kj2 (0, M)
    · refine z_aload_n hX 0 rfl rfl dX9_readNewName_7 ?_
      refine z_asc ?_
      refine z_asc2 ?_
      refine z_cVIm 9 [] hX (fun l hl o ho => c_X9_lettersHere l hl M v0 o ho) dX9_readNewName_8 (by decide) rfl rfl q_1505 okV_X9_lettersHere rfl ⟨(Nat.le_of_ble_eq_true rfl), (Nat.le_of_ble_eq_true rfl)⟩ rfl (Nat.le_of_ble_eq_true rfl) rfl rfl ⟨(Nat.le_of_ble_eq_true rfl), (Nat.le_of_ble_eq_true rfl)⟩ (fun o12 => ?_)
      refine z_goto hX 15 (by decide) dX9_readNewName_11 ?_
      refine z_pure ?_
      refine z_sub [0] rfl ?_
      exact kj2 (o12.1, o12.2)
theorem c_X9_readNewName (l : Launch) (hl : l.stackTraces = false) (M : Mem) (v0 : Nat) (o : Int32 × Mem) (ho : f_X9_readNewName M v0 = some o) : Ct l yX9_readNewName cX9_readNewName 2 (some .int) rm_X9_readNewName [.ref v0] M (some (.int o.1)) o.2 :=
  Ct.of hl (by decide +kernel) (Nat.le_of_ble_eq_true rfl) rfl (fun X hX hin => z_X9_readNewName hX M v0 o ho)
theorem okV_X9_readNewName : okV yX9_readNewName cX9_readNewName 2 (some .int) 0 := ⟨q_1503, q_34, q_96, q_1504, by unfold okY; decide +kernel⟩
/-! ParticipatoryBudgetModel.readList([II)I -/
abbrev rm_X9_readList : Room := { frames := 3, cells := 0, slots := 0, locals := 63 }
set_option maxRecDepth 20000 in
set_option maxHeartbeats 4000000 in
theorem z_X9_readList {X : Cxt} (hX : okX X cX9_readList RX9 rm_X9_readList (some .int) 6) (M : Mem) (v0 : Nat) (v1 : Nat) (v2 : Int32) : Zj X (fun o : Int32 × Mem => Qr X rm_X9_readList.cells rm_X9_readList.slots (some (.int o.1)) o.2) 0 0 0 [(0, .ref v0), (1, .ref v1), (2, .int v2)] [] M (f_X9_readList M v0 v1 v2) := by
  unfold f_X9_readList
  refine z_iconst (v := 0) hX (by decide) dX9_readList_0 ?_
  refine z_istore_n hX [(3, .int 0), (0, .ref v0), (1, .ref v1), (2, .int v2)] rfl (by decide) rfl dX9_readList_1 ?_
  refine z_iconst (v := 1) hX (by decide) dX9_readList_2 ?_
  refine z_istore hX [(4, .int 1), (3, .int 0), (0, .ref v0), (1, .ref v1), (2, .int v2)] (by decide) rfl dX9_readList_3 ?_
  refine z_sub [2, 3, 4, 1, 0] rfl ?_
  refine z_lp (x0 := (0, 1, M)) (bd_X9_readList_5 v0 v1 v2) 5 114 (fun (u1 : Int32 × Int32 × Mem) => [(0, .ref v0), (1, .ref v1), (2, .int v2), (3, .int u1.1), (4, .int u1.2.1)]) (fun (e2 : Int32 × Int32 × Mem) => [(3, .int e2.1)]) (fun (u1 : Int32 × Int32 × Mem) => u1.2.2) ?_ ?_
  · intro e2
    refine z_iload_n hX 0 rfl rfl dX9_readList_114 ?_
    exact z_iretM hX dX9_readList_115 (Nat.le_of_ble_eq_true rfl) (Nat.le_of_ble_eq_true rfl)
  · intro kk3 rc4 hkk3 hrc4 u1
    unfold bd_X9_readList_5
    refine z_aload_n hX 0 rfl rfl dX9_readList_5 ?_
    refine z_gFI 9 25 hX (by decide) rfl (by decide) rfl q_1336 dX9_readList_6 (fun x5 => ?_)
    refine z_if_ne hX 114 (by decide) dX9_readList_9 (fun _ => ?_) (fun _ => ?_)
    · refine z_sub [3] rfl ?_
      exact hkk3 (u1.1, u1.2.1, u1.2.2)
    · refine z_iload hX 4 rfl dX9_readList_12 ?_
      refine z_jl (C' := 0) (S' := 0) 36 (fun (j6 : Unit) => [(0, .ref v0), (1, .ref v1), (2, .int v2), (3, .int u1.1)]) (fun (j6 : Unit) => []) (fun (j6 : Unit) => u1.2.2) (fun j6 => ?_) (fun j6f kj6 => ?_)
      · refine z_aload_n hX 1 rfl rfl dX9_readList_36 ?_
        refine z_iload_n hX 2 rfl rfl dX9_readList_37 ?_
        refine z_aload_n hX 0 rfl rfl dX9_readList_38 ?_
        refine z_cVIm 9 [] hX (fun l hl o ho => c_X9_lettersHere l hl u1.2.2 v0 o ho) dX9_readList_39 (by decide) rfl rfl q_1505 okV_X9_lettersHere rfl ⟨(Nat.le_of_ble_eq_true rfl), (Nat.le_of_ble_eq_true rfl)⟩ rfl (Nat.le_of_ble_eq_true rfl) rfl rfl ⟨(Nat.le_of_ble_eq_true rfl), (Nat.le_of_ble_eq_true rfl)⟩ (fun o7 => ?_)
        refine z_cSIp [.ref v1, .int v2, .int o7.1] hX (fun l hl o ho => c_X9_indexOf l hl o7.2 v1 v2 o7.1 o ho) dX9_readList_42 q_1520 okS_X9_indexOf rfl ⟨(Nat.le_of_ble_eq_true rfl), (Nat.le_of_ble_eq_true rfl)⟩ rfl (Nat.le_of_ble_eq_true rfl) rfl rfl ⟨(Nat.le_of_ble_eq_true rfl), (Nat.le_of_ble_eq_true rfl)⟩ (fun o8 => ?_)
        refine z_istore hX [(5, .int o8), (0, .ref v0), (1, .ref v1), (2, .int v2), (3, .int u1.1)] (by decide) rfl dX9_readList_45 ?_
        refine z_aload_n hX 1 rfl rfl dX9_readList_47 ?_
        refine z_iload hX 0 rfl dX9_readList_48 ?_
        refine z_jn (C' := 0) (S' := 0) 58 (fun (j9 : Int32) => [(0, .ref v0), (1, .ref v1), (2, .int v2), (3, .int u1.1), (5, .int o8)]) (fun (j9 : Int32) => [.int j9, .ref v0]) (fun (j9 : Int32) => o7.2) (fun j9 => ?_) (fun kj9 => ?_)
        · refine z_bipush (v := (-13)) hX (by decide) dX9_readList_58 ?_
          refine z_cVVm 9 [.int j9, .int (-13)] hX (fun l hl o ho => c_X9_check l hl o7.2 v0 j9 (-13) o ho) dX9_readList_60 (by decide) rfl rfl q_1493 okV_X9_check rfl ⟨(Nat.le_of_ble_eq_true rfl), (Nat.le_of_ble_eq_true rfl)⟩ rfl (Nat.le_of_ble_eq_true rfl) rfl rfl ⟨(Nat.le_of_ble_eq_true rfl), (Nat.le_of_ble_eq_true rfl)⟩ (fun o10 => ?_)
          refine z_aload_n hX 0 rfl rfl dX9_readList_63 ?_
          refine z_iload hX 4 rfl dX9_readList_64 ?_
          refine z_jn (C' := 0) (S' := 0) 83 (fun (j11 : Int32) => [(0, .ref v0), (1, .ref v1), (2, .int v2), (3, .int u1.1), (5, .int o8)]) (fun (j11 : Int32) => [.int j11, .ref v0]) (fun (j11 : Int32) => o10) (fun j11 => ?_) (fun kj11 => ?_)
          · refine z_bipush (v := (-14)) hX (by decide) dX9_readList_83 ?_
            refine z_cVVm 9 [.int j11, .int (-14)] hX (fun l hl o ho => c_X9_check l hl o10 v0 j11 (-14) o ho) dX9_readList_85 (by decide) rfl rfl q_1493 okV_X9_check rfl ⟨(Nat.le_of_ble_eq_true rfl), (Nat.le_of_ble_eq_true rfl)⟩ rfl (Nat.le_of_ble_eq_true rfl) rfl rfl ⟨(Nat.le_of_ble_eq_true rfl), (Nat.le_of_ble_eq_true rfl)⟩ (fun o12 => ?_)
            refine z_iload_n hX 3 rfl rfl dX9_readList_88 ?_
            refine z_iload hX 4 rfl dX9_readList_89 ?_
            refine z_jn (C' := 0) (S' := 0) 102 (fun (j13 : Int32) => [(0, .ref v0), (1, .ref v1), (2, .int v2)]) (fun (j13 : Int32) => [.int j13, .int u1.1]) (fun (j13 : Int32) => o12) (fun j13 => ?_) (fun kj13 => ?_)
            · refine z_ior hX dX9_readList_102 ?_
              refine z_ltI (fun x14 => ?_)
              refine z_istore_n hX [(3, .int x14), (0, .ref v0), (1, .ref v1), (2, .int v2)] rfl (by decide) rfl dX9_readList_103 ?_
              refine z_aload_n hX 1 rfl rfl dX9_readList_104 ?_
              refine z_cVVm 9 [] hX (fun l hl o ho => c_X9_advanceIfGood l hl o12 v0 o ho) dX9_readList_105 (by decide) rfl rfl q_1497 okV_X9_advanceIfGood rfl ⟨(Nat.le_of_ble_eq_true rfl), (Nat.le_of_ble_eq_true rfl)⟩ rfl (Nat.le_of_ble_eq_true rfl) rfl rfl ⟨(Nat.le_of_ble_eq_true rfl), (Nat.le_of_ble_eq_true rfl)⟩ (fun o15 => ?_)
              refine z_iconst (v := 0) hX (by decide) dX9_readList_108 ?_
              refine z_istore hX [(4, .int 0), (3, .int x14), (0, .ref v0), (1, .ref v1), (2, .int v2)] (by decide) rfl dX9_readList_109 ?_
              refine z_goto hX 5 (by decide) dX9_readList_111 ?_
              refine z_sub [2, 3, 4, 1, 0] rfl ?_
              exact hrc4 (x14, 0, o15)
            · refine z_iteB ?_
              refine z_if_ge hX 98 (by decide) dX9_readList_91 (fun _ => ?_) (fun _ => ?_)
              · refine z_iconst (v := 1) hX (by decide) dX9_readList_98 ?_
                refine z_iload hX 4 rfl dX9_readList_99 ?_
                refine z_ishl hX dX9_readList_101 ?_
                refine z_pure ?_
                refine z_sub [0, 1, 2] rfl ?_
                exact kj13 ((1 : Int32) <<< (o8 &&& 31))
              · refine z_iconst (v := 0) hX (by decide) dX9_readList_94 ?_
                refine z_goto hX 102 (by decide) dX9_readList_95 ?_
                refine z_pure ?_
                refine z_sub [0, 1, 2] rfl ?_
                exact kj13 0
          · refine z_iteB ?_
            refine z_if_lt hX 78 (by decide) dX9_readList_66 (fun _ => ?_) (fun _ => ?_)
            · refine z_iconst (v := 1) hX (by decide) dX9_readList_78 ?_
              refine z_goto hX 83 (by decide) dX9_readList_79 ?_
              refine z_pure ?_
              refine z_sub [0, 1, 2, 3, 4] rfl ?_
              exact kj11 1
            · refine z_iload_n hX 3 rfl rfl dX9_readList_69 ?_
              refine z_iload hX 4 rfl dX9_readList_70 ?_
              refine z_asc ?_
              refine z_cSIp [.int u1.1, .int o8] hX (fun l hl o ho => c_X9_has l hl o10 u1.1 o8 o ho) dX9_readList_72 q_1537 okS_X9_has rfl ⟨(Nat.le_of_ble_eq_true rfl), (Nat.le_of_ble_eq_true rfl)⟩ rfl (Nat.le_of_ble_eq_true rfl) rfl rfl ⟨(Nat.le_of_ble_eq_true rfl), (Nat.le_of_ble_eq_true rfl)⟩ (fun o16 => ?_)
              refine z_iteB ?_
              refine z_if_ne hX 82 (by decide) dX9_readList_75 (fun _ => ?_) (fun _ => ?_)
              · refine z_iconst (v := 0) hX (by decide) dX9_readList_82 ?_
                refine z_pure ?_
                refine z_sub [0, 1, 2, 3, 4] rfl ?_
                exact kj11 0
              · refine z_iconst (v := 1) hX (by decide) dX9_readList_78 ?_
                refine z_goto hX 83 (by decide) dX9_readList_79 ?_
                refine z_pure ?_
                refine z_sub [0, 1, 2, 3, 4] rfl ?_
                exact kj11 1
        · refine z_iteB ?_
          refine z_if_lt hX 57 (by decide) dX9_readList_50 (fun _ => ?_) (fun _ => ?_)
          · refine z_iconst (v := 0) hX (by decide) dX9_readList_57 ?_
            refine z_pure ?_
            refine z_sub [1, 2, 3, 4, 0] rfl ?_
            exact kj9 0
          · refine z_iconst (v := 1) hX (by decide) dX9_readList_53 ?_
            refine z_goto hX 58 (by decide) dX9_readList_54 ?_
            refine z_pure ?_
            refine z_sub [1, 2, 3, 4, 0] rfl ?_
            exact kj9 1
      · refine z_if_ne hX 36 (by decide) dX9_readList_14 (fun _ => ?_) (fun _ => ?_)
        · refine z_sub [0, 1, 2, 3] rfl ?_
          exact kj6 ()
        · refine z_aload_n hX 0 rfl rfl dX9_readList_17 ?_
          refine z_gFI 9 22 hX (by decide) rfl (by decide) rfl q_1333 dX9_readList_18 (fun x17 => ?_)
          refine z_iconst (v := 1) hX (by decide) dX9_readList_21 ?_
          refine z_icmp_ne hX 114 (by decide) dX9_readList_22 (fun _ => ?_) (fun _ => ?_)
          · refine z_sub [3] rfl ?_
            exact hkk3 (u1.1, u1.2.1, u1.2.2)
          · refine z_aload_n hX 0 rfl rfl dX9_readList_25 ?_
            refine z_gFL 9 23 hX (by decide) rfl (by decide) rfl q_1334 dX9_readList_26 (fun x18 => ?_)
            refine z_ldc2 (v := 6642) hX q_1515 dX9_readList_29 ?_
            refine z_lcmp hX dX9_readList_32 ?_
            refine z_if_eq hX 114 (by decide) dX9_readList_33 (fun _ => ?_) (fun _ => ?_)
            · refine z_sub [3] rfl ?_
              exact hkk3 (u1.1, u1.2.1, u1.2.2)
            · refine z_sub [0, 1, 2, 3] rfl ?_
              exact kj6 ()
theorem c_X9_readList (l : Launch) (hl : l.stackTraces = false) (M : Mem) (v0 : Nat) (v1 : Nat) (v2 : Int32) (o : Int32 × Mem) (ho : f_X9_readList M v0 v1 v2 = some o) : Ct l yX9_readList cX9_readList 6 (some .int) rm_X9_readList [.ref v0, .ref v1, .int v2] M (some (.int o.1)) o.2 :=
  Ct.of hl (by decide +kernel) (Nat.le_of_ble_eq_true rfl) rfl (fun X hX hin => z_X9_readList hX M v0 v1 v2 o ho)
theorem okV_X9_readList : okV yX9_readList cX9_readList 6 (some .int) 2 := ⟨q_1535, q_39, q_96, q_1536, by unfold okY; decide +kernel⟩
/-! ParticipatoryBudgetModel.parseDistrict()V -/
abbrev rm_X9_parseDistrict : Room := { frames := 4, cells := 0, slots := 0, locals := 86 }
set_option maxRecDepth 20000 in
set_option maxHeartbeats 4000000 in
theorem z_X9_parseDistrict {X : Cxt} (hX : okX X cX9_parseDistrict RX9 rm_X9_parseDistrict (none) 4) (M : Mem) (v0 : Nat) : Zj X (fun o : Mem => Qr X rm_X9_parseDistrict.cells rm_X9_parseDistrict.slots (none) o) 0 0 0 [(0, .ref v0)] [] M (f_X9_parseDistrict M v0) := by
  unfold f_X9_parseDistrict
  refine z_aload_n hX 0 rfl rfl dX9_parseDistrict_0 ?_
  refine z_gFI 9 11 hX (by decide) rfl (by decide) rfl q_1322 dX9_parseDistrict_1 (fun x1 => ?_)
  refine z_istore_n hX [(1, .int x1), (0, .ref v0)] rfl (by decide) rfl dX9_parseDistrict_4 ?_
  refine z_aload_n hX 1 rfl rfl dX9_parseDistrict_5 ?_
  refine z_iload_n hX 0 rfl rfl dX9_parseDistrict_6 ?_
  refine z_iconst (v := 4) hX (by decide) dX9_parseDistrict_7 ?_
  refine z_jn (C' := 0) (S' := 0) 16 (fun (j2 : Int32) => [(0, .ref v0), (1, .int x1)]) (fun (j2 : Int32) => [.int j2, .ref v0]) (fun (j2 : Int32) => M) (fun j2 => ?_) (fun kj2 => ?_)
  · refine z_bipush (v := (-15)) hX (by decide) dX9_parseDistrict_16 ?_
    refine z_cVVm 9 [.int j2, .int (-15)] hX (fun l hl o ho => c_X9_check l hl M v0 j2 (-15) o ho) dX9_parseDistrict_18 (by decide) rfl rfl q_1493 okV_X9_check rfl ⟨(Nat.le_of_ble_eq_true rfl), (Nat.le_of_ble_eq_true rfl)⟩ rfl (Nat.le_of_ble_eq_true rfl) rfl rfl ⟨(Nat.le_of_ble_eq_true rfl), (Nat.le_of_ble_eq_true rfl)⟩ (fun o3 => ?_)
    refine z_aload_n hX 0 rfl rfl dX9_parseDistrict_21 ?_
    refine z_cVVm 9 [] hX (fun l hl o ho => c_X9_advanceIfGood l hl o3 v0 o ho) dX9_parseDistrict_22 (by decide) rfl rfl q_1497 okV_X9_advanceIfGood rfl ⟨(Nat.le_of_ble_eq_true rfl), (Nat.le_of_ble_eq_true rfl)⟩ rfl (Nat.le_of_ble_eq_true rfl) rfl rfl ⟨(Nat.le_of_ble_eq_true rfl), (Nat.le_of_ble_eq_true rfl)⟩ (fun o4 => ?_)
    refine z_aload_n hX 0 rfl rfl dX9_parseDistrict_25 ?_
    refine z_cVIm 9 [] hX (fun l hl o ho => c_X9_readNewName l hl o4 v0 o ho) dX9_parseDistrict_26 (by decide) rfl rfl q_1501 okV_X9_readNewName rfl ⟨(Nat.le_of_ble_eq_true rfl), (Nat.le_of_ble_eq_true rfl)⟩ rfl (Nat.le_of_ble_eq_true rfl) rfl rfl ⟨(Nat.le_of_ble_eq_true rfl), (Nat.le_of_ble_eq_true rfl)⟩ (fun o5 => ?_)
    refine z_istore_n hX [(2, .int o5.1), (0, .ref v0), (1, .int x1)] rfl (by decide) rfl dX9_parseDistrict_29 ?_
    refine z_aload_n hX 1 rfl rfl dX9_parseDistrict_30 ?_
    refine z_iconst (v := 0) hX (by decide) dX9_parseDistrict_31 ?_
    refine z_ldc (v := 100000) hX q_1523 dX9_parseDistrict_32 ?_
    refine z_cVIm 9 [.int 0, .int 100000] hX (fun l hl o ho => c_X9_readInteger l hl o5.2 v0 0 100000 o ho) dX9_parseDistrict_34 (by decide) rfl rfl q_1524 okV_X9_readInteger rfl ⟨(Nat.le_of_ble_eq_true rfl), (Nat.le_of_ble_eq_true rfl)⟩ rfl (Nat.le_of_ble_eq_true rfl) rfl rfl ⟨(Nat.le_of_ble_eq_true rfl), (Nat.le_of_ble_eq_true rfl)⟩ (fun o6 => ?_)
    refine z_istore_n hX [(3, .int o6.1), (2, .int o5.1), (0, .ref v0), (1, .int x1)] rfl (by decide) rfl dX9_parseDistrict_37 ?_
    refine z_aload_n hX 2 rfl rfl dX9_parseDistrict_38 ?_
    refine z_gFI 9 25 hX (by decide) rfl (by decide) rfl q_1336 dX9_parseDistrict_39 (fun x7 => ?_)
    refine z_if_eq hX 46 (by decide) dX9_parseDistrict_42 (fun _ => ?_) (fun _ => ?_)
    · refine z_aload_n hX 2 rfl rfl dX9_parseDistrict_46 ?_
      refine z_gFR 9 14 hX (by decide) rfl (by decide) rfl q_1325 dX9_parseDistrict_47 (fun r8 => ?_)
      refine z_iload_n hX 3 rfl rfl dX9_parseDistrict_50 ?_
      refine z_iload_n hX 1 rfl rfl dX9_parseDistrict_51 ?_
      refine z_wI hX dX9_parseDistrict_52 (fun M9 => ?_)
      refine z_aload_n hX 2 rfl rfl dX9_parseDistrict_53 ?_
      refine z_gFR 9 1 hX (by decide) rfl (by decide) rfl q_1312 dX9_parseDistrict_54 (fun r10 => ?_)
      refine z_iconst (v := 4) hX (by decide) dX9_parseDistrict_57 ?_
      refine z_iload_n hX 3 rfl rfl dX9_parseDistrict_58 ?_
      refine z_iadd hX dX9_parseDistrict_59 ?_
      refine z_iload_n hX 0 rfl rfl dX9_parseDistrict_60 ?_
      refine z_wI hX dX9_parseDistrict_61 (fun M11 => ?_)
      refine z_aload_n hX 2 rfl rfl dX9_parseDistrict_62 ?_
      refine z_dup hX rfl dX9_parseDistrict_63 ?_
      refine z_gFI 9 11 hX (by decide) rfl (by decide) rfl q_1322 dX9_parseDistrict_64 (fun x12 => ?_)
      refine z_iconst (v := 1) hX (by decide) dX9_parseDistrict_67 ?_
      refine z_iadd hX dX9_parseDistrict_68 ?_
      refine z_pFI 9 11 hX (by decide) rfl (by decide) rfl q_1322 rfl pd_1 rfl rfl dX9_parseDistrict_69 (fun M13 => ?_)
      exact z_vretM hX dX9_parseDistrict_72 (Nat.le_of_ble_eq_true rfl) (Nat.le_of_ble_eq_true rfl)
    · exact z_vretM hX dX9_parseDistrict_45 (Nat.le_of_ble_eq_true rfl) (Nat.le_of_ble_eq_true rfl)
  · refine z_iteB ?_
    refine z_icmp_ge hX 15 (by decide) dX9_parseDistrict_8 (fun _ => ?_) (fun _ => ?_)
    · refine z_iconst (v := 0) hX (by decide) dX9_parseDistrict_15 ?_
      refine z_pure ?_
      refine z_sub [1, 0] rfl ?_
      exact kj2 0
    · refine z_iconst (v := 1) hX (by decide) dX9_parseDistrict_11 ?_
      refine z_goto hX 16 (by decide) dX9_parseDistrict_12 ?_
      refine z_pure ?_
      refine z_sub [1, 0] rfl ?_
      exact kj2 1
theorem c_X9_parseDistrict (l : Launch) (hl : l.stackTraces = false) (M : Mem) (v0 : Nat) (o : Mem) (ho : f_X9_parseDistrict M v0 = some o) : Ct l yX9_parseDistrict cX9_parseDistrict 4 (none) rm_X9_parseDistrict [.ref v0] M (none) o :=
  Ct.of hl (by decide +kernel) (Nat.le_of_ble_eq_true rfl) rfl (fun X hX hin => z_X9_parseDistrict hX M v0 o ho)
theorem okV_X9_parseDistrict : okV yX9_parseDistrict cX9_parseDistrict 4 (none) 0 := ⟨q_1491, q_31, q_96, q_1492, by unfold okY; decide +kernel⟩
/-! ParticipatoryBudgetModel.parseProject()V -/
abbrev rm_X9_parseProject : Room := { frames := 4, cells := 0, slots := 0, locals := 88 }
set_option maxRecDepth 20000 in
set_option maxHeartbeats 4000000 in
theorem z_X9_parseProject {X : Cxt} (hX : okX X cX9_parseProject RX9 rm_X9_parseProject (none) 5) (M : Mem) (v0 : Nat) : Zj X (fun o : Mem => Qr X rm_X9_parseProject.cells rm_X9_parseProject.slots (none) o) 0 0 0 [(0, .ref v0)] [] M (f_X9_parseProject M v0) := by
  unfold f_X9_parseProject
  refine z_aload_n hX 0 rfl rfl dX9_parseProject_0 ?_
  refine z_gFI 9 12 hX (by decide) rfl (by decide) rfl q_1323 dX9_parseProject_1 (fun x1 => ?_)
  refine z_istore_n hX [(1, .int x1), (0, .ref v0)] rfl (by decide) rfl dX9_parseProject_4 ?_
  refine z_aload_n hX 1 rfl rfl dX9_parseProject_5 ?_
  refine z_iload_n hX 0 rfl rfl dX9_parseProject_6 ?_
  refine z_bipush (v := 12) hX (by decide) dX9_parseProject_7 ?_
  refine z_jn (C' := 0) (S' := 0) 17 (fun (j2 : Int32) => [(0, .ref v0), (1, .int x1)]) (fun (j2 : Int32) => [.int j2, .ref v0]) (fun (j2 : Int32) => M) (fun j2 => ?_) (fun kj2 => ?_)
  · refine z_bipush (v := (-15)) hX (by decide) dX9_parseProject_17 ?_
    refine z_cVVm 9 [.int j2, .int (-15)] hX (fun l hl o ho => c_X9_check l hl M v0 j2 (-15) o ho) dX9_parseProject_19 (by decide) rfl rfl q_1493 okV_X9_check rfl ⟨(Nat.le_of_ble_eq_true rfl), (Nat.le_of_ble_eq_true rfl)⟩ rfl (Nat.le_of_ble_eq_true rfl) rfl rfl ⟨(Nat.le_of_ble_eq_true rfl), (Nat.le_of_ble_eq_true rfl)⟩ (fun o3 => ?_)
    refine z_aload_n hX 0 rfl rfl dX9_parseProject_22 ?_
    refine z_cVVm 9 [] hX (fun l hl o ho => c_X9_advanceIfGood l hl o3 v0 o ho) dX9_parseProject_23 (by decide) rfl rfl q_1497 okV_X9_advanceIfGood rfl ⟨(Nat.le_of_ble_eq_true rfl), (Nat.le_of_ble_eq_true rfl)⟩ rfl (Nat.le_of_ble_eq_true rfl) rfl rfl ⟨(Nat.le_of_ble_eq_true rfl), (Nat.le_of_ble_eq_true rfl)⟩ (fun o4 => ?_)
    refine z_aload_n hX 0 rfl rfl dX9_parseProject_26 ?_
    refine z_cVIm 9 [] hX (fun l hl o ho => c_X9_readNewName l hl o4 v0 o ho) dX9_parseProject_27 (by decide) rfl rfl q_1501 okV_X9_readNewName rfl ⟨(Nat.le_of_ble_eq_true rfl), (Nat.le_of_ble_eq_true rfl)⟩ rfl (Nat.le_of_ble_eq_true rfl) rfl rfl ⟨(Nat.le_of_ble_eq_true rfl), (Nat.le_of_ble_eq_true rfl)⟩ (fun o5 => ?_)
    refine z_istore_n hX [(2, .int o5.1), (0, .ref v0), (1, .int x1)] rfl (by decide) rfl dX9_parseProject_30 ?_
    refine z_aload_n hX 1 rfl rfl dX9_parseProject_31 ?_
    refine z_iconst (v := 1) hX (by decide) dX9_parseProject_32 ?_
    refine z_ldc (v := 100000) hX q_1523 dX9_parseProject_33 ?_
    refine z_cVIm 9 [.int 1, .int 100000] hX (fun l hl o ho => c_X9_readInteger l hl o5.2 v0 1 100000 o ho) dX9_parseProject_35 (by decide) rfl rfl q_1524 okV_X9_readInteger rfl ⟨(Nat.le_of_ble_eq_true rfl), (Nat.le_of_ble_eq_true rfl)⟩ rfl (Nat.le_of_ble_eq_true rfl) rfl rfl ⟨(Nat.le_of_ble_eq_true rfl), (Nat.le_of_ble_eq_true rfl)⟩ (fun o6 => ?_)
    refine z_istore_n hX [(3, .int o6.1), (2, .int o5.1), (0, .ref v0), (1, .int x1)] rfl (by decide) rfl dX9_parseProject_38 ?_
    refine z_aload_n hX 2 rfl rfl dX9_parseProject_39 ?_
    refine z_aload_n hX 2 rfl rfl dX9_parseProject_40 ?_
    refine z_gFR 9 14 hX (by decide) rfl (by decide) rfl q_1325 dX9_parseProject_41 (fun r7 => ?_)
    refine z_aload_n hX 2 rfl rfl dX9_parseProject_44 ?_
    refine z_gFI 9 11 hX (by decide) rfl (by decide) rfl q_1322 dX9_parseProject_45 (fun x8 => ?_)
    refine z_cVIm 9 [.ref r7, .int x8] hX (fun l hl o ho => c_X9_readList l hl o6.2 v0 r7 x8 o ho) dX9_parseProject_48 (by decide) rfl rfl q_1533 okV_X9_readList rfl ⟨(Nat.le_of_ble_eq_true rfl), (Nat.le_of_ble_eq_true rfl)⟩ rfl (Nat.le_of_ble_eq_true rfl) rfl rfl ⟨(Nat.le_of_ble_eq_true rfl), (Nat.le_of_ble_eq_true rfl)⟩ (fun o9 => ?_)
    refine z_istore hX [(4, .int o9.1), (3, .int o6.1), (2, .int o5.1), (0, .ref v0), (1, .int x1)] (by decide) rfl dX9_parseProject_51 ?_
    refine z_aload_n hX 3 rfl rfl dX9_parseProject_53 ?_
    refine z_gFI 9 25 hX (by decide) rfl (by decide) rfl q_1336 dX9_parseProject_54 (fun x10 => ?_)
    refine z_if_eq hX 61 (by decide) dX9_parseProject_57 (fun _ => ?_) (fun _ => ?_)
    · refine z_aload_n hX 3 rfl rfl dX9_parseProject_61 ?_
      refine z_gFR 9 15 hX (by decide) rfl (by decide) rfl q_1326 dX9_parseProject_62 (fun r11 => ?_)
      refine z_iload_n hX 4 rfl rfl dX9_parseProject_65 ?_
      refine z_iload_n hX 2 rfl rfl dX9_parseProject_66 ?_
      refine z_wI hX dX9_parseProject_67 (fun M12 => ?_)
      refine z_aload_n hX 3 rfl rfl dX9_parseProject_68 ?_
      refine z_gFR 9 16 hX (by decide) rfl (by decide) rfl q_1327 dX9_parseProject_69 (fun r13 => ?_)
      refine z_iload_n hX 4 rfl rfl dX9_parseProject_72 ?_
      refine z_iload hX 0 rfl dX9_parseProject_73 ?_
      refine z_wI hX dX9_parseProject_75 (fun M14 => ?_)
      refine z_aload_n hX 3 rfl rfl dX9_parseProject_76 ?_
      refine z_gFR 9 1 hX (by decide) rfl (by decide) rfl q_1312 dX9_parseProject_77 (fun r15 => ?_)
      refine z_bipush (v := 8) hX (by decide) dX9_parseProject_80 ?_
      refine z_iload_n hX 4 rfl rfl dX9_parseProject_82 ?_
      refine z_iadd hX dX9_parseProject_83 ?_
      refine z_iload_n hX 1 rfl rfl dX9_parseProject_84 ?_
      refine z_wI hX dX9_parseProject_85 (fun M16 => ?_)
      refine z_aload_n hX 3 rfl rfl dX9_parseProject_86 ?_
      refine z_dup hX rfl dX9_parseProject_87 ?_
      refine z_gFI 9 12 hX (by decide) rfl (by decide) rfl q_1323 dX9_parseProject_88 (fun x17 => ?_)
      refine z_iconst (v := 1) hX (by decide) dX9_parseProject_91 ?_
      refine z_iadd hX dX9_parseProject_92 ?_
      refine z_pFI 9 12 hX (by decide) rfl (by decide) rfl q_1323 rfl pd_1 rfl rfl dX9_parseProject_93 (fun M18 => ?_)
      exact z_vretM hX dX9_parseProject_96 (Nat.le_of_ble_eq_true rfl) (Nat.le_of_ble_eq_true rfl)
    · exact z_vretM hX dX9_parseProject_60 (Nat.le_of_ble_eq_true rfl) (Nat.le_of_ble_eq_true rfl)
  · refine z_iteB ?_
    refine z_icmp_ge hX 16 (by decide) dX9_parseProject_9 (fun _ => ?_) (fun _ => ?_)
    · refine z_iconst (v := 0) hX (by decide) dX9_parseProject_16 ?_
      refine z_pure ?_
      refine z_sub [1, 0] rfl ?_
      exact kj2 0
    · refine z_iconst (v := 1) hX (by decide) dX9_parseProject_12 ?_
      refine z_goto hX 17 (by decide) dX9_parseProject_13 ?_
      refine z_pure ?_
      refine z_sub [1, 0] rfl ?_
      exact kj2 1
theorem c_X9_parseProject (l : Launch) (hl : l.stackTraces = false) (M : Mem) (v0 : Nat) (o : Mem) (ho : f_X9_parseProject M v0 = some o) : Ct l yX9_parseProject cX9_parseProject 5 (none) rm_X9_parseProject [.ref v0] M (none) o :=
  Ct.of hl (by decide +kernel) (Nat.le_of_ble_eq_true rfl) rfl (fun X hX hin => z_X9_parseProject hX M v0 o ho)
theorem okV_X9_parseProject : okV yX9_parseProject cX9_parseProject 5 (none) 0 := ⟨q_1531, q_38, q_96, q_1532, by unfold okY; decide +kernel⟩
/-! ParticipatoryBudgetModel.parseVoter()V -/
abbrev rm_X9_parseVoter : Room := { frames := 4, cells := 0, slots := 0, locals := 88 }
set_option maxRecDepth 20000 in
set_option maxHeartbeats 4000000 in
theorem z_X9_parseVoter {X : Cxt} (hX : okX X cX9_parseVoter RX9 rm_X9_parseVoter (none) 5) (M : Mem) (v0 : Nat) : Zj X (fun o : Mem => Qr X rm_X9_parseVoter.cells rm_X9_parseVoter.slots (none) o) 0 0 0 [(0, .ref v0)] [] M (f_X9_parseVoter M v0) := by
  unfold f_X9_parseVoter
  refine z_aload_n hX 0 rfl rfl dX9_parseVoter_0 ?_
  refine z_gFI 9 13 hX (by decide) rfl (by decide) rfl q_1324 dX9_parseVoter_1 (fun x1 => ?_)
  refine z_istore_n hX [(1, .int x1), (0, .ref v0)] rfl (by decide) rfl dX9_parseVoter_4 ?_
  refine z_aload_n hX 1 rfl rfl dX9_parseVoter_5 ?_
  refine z_iload_n hX 0 rfl rfl dX9_parseVoter_6 ?_
  refine z_bipush (v := 24) hX (by decide) dX9_parseVoter_7 ?_
  refine z_jn (C' := 0) (S' := 0) 17 (fun (j2 : Int32) => [(0, .ref v0), (1, .int x1)]) (fun (j2 : Int32) => [.int j2, .ref v0]) (fun (j2 : Int32) => M) (fun j2 => ?_) (fun kj2 => ?_)
  · refine z_bipush (v := (-15)) hX (by decide) dX9_parseVoter_17 ?_
    refine z_cVVm 9 [.int j2, .int (-15)] hX (fun l hl o ho => c_X9_check l hl M v0 j2 (-15) o ho) dX9_parseVoter_19 (by decide) rfl rfl q_1493 okV_X9_check rfl ⟨(Nat.le_of_ble_eq_true rfl), (Nat.le_of_ble_eq_true rfl)⟩ rfl (Nat.le_of_ble_eq_true rfl) rfl rfl ⟨(Nat.le_of_ble_eq_true rfl), (Nat.le_of_ble_eq_true rfl)⟩ (fun o3 => ?_)
    refine z_aload_n hX 0 rfl rfl dX9_parseVoter_22 ?_
    refine z_cVVm 9 [] hX (fun l hl o ho => c_X9_advanceIfGood l hl o3 v0 o ho) dX9_parseVoter_23 (by decide) rfl rfl q_1497 okV_X9_advanceIfGood rfl ⟨(Nat.le_of_ble_eq_true rfl), (Nat.le_of_ble_eq_true rfl)⟩ rfl (Nat.le_of_ble_eq_true rfl) rfl rfl ⟨(Nat.le_of_ble_eq_true rfl), (Nat.le_of_ble_eq_true rfl)⟩ (fun o4 => ?_)
    refine z_aload_n hX 0 rfl rfl dX9_parseVoter_26 ?_
    refine z_iconst (v := 1) hX (by decide) dX9_parseVoter_27 ?_
    refine z_bipush (v := 9) hX (by decide) dX9_parseVoter_28 ?_
    refine z_cVIm 9 [.int 1, .int 9] hX (fun l hl o ho => c_X9_readInteger l hl o4 v0 1 9 o ho) dX9_parseVoter_30 (by decide) rfl rfl q_1524 okV_X9_readInteger rfl ⟨(Nat.le_of_ble_eq_true rfl), (Nat.le_of_ble_eq_true rfl)⟩ rfl (Nat.le_of_ble_eq_true rfl) rfl rfl ⟨(Nat.le_of_ble_eq_true rfl), (Nat.le_of_ble_eq_true rfl)⟩ (fun o5 => ?_)
    refine z_istore_n hX [(2, .int o5.1), (0, .ref v0), (1, .int x1)] rfl (by decide) rfl dX9_parseVoter_33 ?_
    refine z_aload_n hX 1 rfl rfl dX9_parseVoter_34 ?_
    refine z_aload_n hX 1 rfl rfl dX9_parseVoter_35 ?_
    refine z_ldc2 (v := 302) hX q_1514 dX9_parseVoter_36 ?_
    refine z_cVIp 9 [.long 302] hX (fun l hl o ho => c_X9_isWord l hl o5.2 v0 302 o ho) dX9_parseVoter_39 (by decide) rfl rfl q_1485 okV_X9_isWord rfl ⟨(Nat.le_of_ble_eq_true rfl), (Nat.le_of_ble_eq_true rfl)⟩ rfl (Nat.le_of_ble_eq_true rfl) rfl rfl ⟨(Nat.le_of_ble_eq_true rfl), (Nat.le_of_ble_eq_true rfl)⟩ (fun o6 => ?_)
    refine z_bipush (v := (-11)) hX (by decide) dX9_parseVoter_42 ?_
    refine z_cVVm 9 [.int o6, .int (-11)] hX (fun l hl o ho => c_X9_check l hl o5.2 v0 o6 (-11) o ho) dX9_parseVoter_44 (by decide) rfl rfl q_1493 okV_X9_check rfl ⟨(Nat.le_of_ble_eq_true rfl), (Nat.le_of_ble_eq_true rfl)⟩ rfl (Nat.le_of_ble_eq_true rfl) rfl rfl ⟨(Nat.le_of_ble_eq_true rfl), (Nat.le_of_ble_eq_true rfl)⟩ (fun o7 => ?_)
    refine z_aload_n hX 1 rfl rfl dX9_parseVoter_47 ?_
    refine z_cVVm 9 [] hX (fun l hl o ho => c_X9_advanceIfGood l hl o7 v0 o ho) dX9_parseVoter_48 (by decide) rfl rfl q_1497 okV_X9_advanceIfGood rfl ⟨(Nat.le_of_ble_eq_true rfl), (Nat.le_of_ble_eq_true rfl)⟩ rfl (Nat.le_of_ble_eq_true rfl) rfl rfl ⟨(Nat.le_of_ble_eq_true rfl), (Nat.le_of_ble_eq_true rfl)⟩ (fun o8 => ?_)
    refine z_aload_n hX 1 rfl rfl dX9_parseVoter_51 ?_
    refine z_aload_n hX 1 rfl rfl dX9_parseVoter_52 ?_
    refine z_gFR 9 14 hX (by decide) rfl (by decide) rfl q_1325 dX9_parseVoter_53 (fun r9 => ?_)
    refine z_aload_n hX 1 rfl rfl dX9_parseVoter_56 ?_
    refine z_gFI 9 11 hX (by decide) rfl (by decide) rfl q_1322 dX9_parseVoter_57 (fun x10 => ?_)
    refine z_cVIm 9 [.ref r9, .int x10] hX (fun l hl o ho => c_X9_readList l hl o8 v0 r9 x10 o ho) dX9_parseVoter_60 (by decide) rfl rfl q_1533 okV_X9_readList rfl ⟨(Nat.le_of_ble_eq_true rfl), (Nat.le_of_ble_eq_true rfl)⟩ rfl (Nat.le_of_ble_eq_true rfl) rfl rfl ⟨(Nat.le_of_ble_eq_true rfl), (Nat.le_of_ble_eq_true rfl)⟩ (fun o11 => ?_)
    refine z_istore_n hX [(3, .int o11.1), (2, .int o5.1), (0, .ref v0), (1, .int x1)] rfl (by decide) rfl dX9_parseVoter_63 ?_
    refine z_iconst (v := 0) hX (by decide) dX9_parseVoter_64 ?_
    refine z_istore hX [(4, .int 0), (3, .int o11.1), (2, .int o5.1), (0, .ref v0), (1, .int x1)] (by decide) rfl dX9_parseVoter_65 ?_
    refine z_aload_n hX 3 rfl rfl dX9_parseVoter_67 ?_
    refine z_ldc2 (v := 6642) hX q_1515 dX9_parseVoter_68 ?_
    refine z_cVIp 9 [.long 6642] hX (fun l hl o ho => c_X9_isWord l hl o11.2 v0 6642 o ho) dX9_parseVoter_71 (by decide) rfl rfl q_1485 okV_X9_isWord rfl ⟨(Nat.le_of_ble_eq_true rfl), (Nat.le_of_ble_eq_true rfl)⟩ rfl (Nat.le_of_ble_eq_true rfl) rfl rfl ⟨(Nat.le_of_ble_eq_true rfl), (Nat.le_of_ble_eq_true rfl)⟩ (fun o12 => ?_)
    refine z_jn (C' := 0) (S' := 0) 95 (fun (j13 : Int32 × Mem) => [(0, .ref v0), (1, .int x1), (2, .int o5.1), (3, .int o11.1), (4, .int j13.1)]) (fun (j13 : Int32 × Mem) => []) (fun (j13 : Int32 × Mem) => j13.2) (fun j13 => ?_) (fun kj13 => ?_)
    · refine z_aload_n hX 0 rfl rfl dX9_parseVoter_95 ?_
      refine z_gFI 9 25 hX (by decide) rfl (by decide) rfl q_1336 dX9_parseVoter_96 (fun x14 => ?_)
      refine z_if_eq hX 103 (by decide) dX9_parseVoter_99 (fun _ => ?_) (fun _ => ?_)
      · refine z_aload_n hX 0 rfl rfl dX9_parseVoter_103 ?_
        refine z_gFR 9 1 hX (by decide) rfl (by decide) rfl q_1312 dX9_parseVoter_104 (fun r15 => ?_)
        refine z_bipush (v := 20) hX (by decide) dX9_parseVoter_107 ?_
        refine z_iload_n hX 1 rfl rfl dX9_parseVoter_109 ?_
        refine z_iadd hX dX9_parseVoter_110 ?_
        refine z_iload_n hX 2 rfl rfl dX9_parseVoter_111 ?_
        refine z_wI hX dX9_parseVoter_112 (fun M16 => ?_)
        refine z_aload_n hX 0 rfl rfl dX9_parseVoter_113 ?_
        refine z_gFR 9 1 hX (by decide) rfl (by decide) rfl q_1312 dX9_parseVoter_114 (fun r17 => ?_)
        refine z_bipush (v := 44) hX (by decide) dX9_parseVoter_117 ?_
        refine z_iload_n hX 1 rfl rfl dX9_parseVoter_119 ?_
        refine z_iadd hX dX9_parseVoter_120 ?_
        refine z_iload_n hX 3 rfl rfl dX9_parseVoter_121 ?_
        refine z_wI hX dX9_parseVoter_122 (fun M18 => ?_)
        refine z_aload_n hX 0 rfl rfl dX9_parseVoter_123 ?_
        refine z_gFR 9 1 hX (by decide) rfl (by decide) rfl q_1312 dX9_parseVoter_124 (fun r19 => ?_)
        refine z_bipush (v := 68) hX (by decide) dX9_parseVoter_127 ?_
        refine z_iload_n hX 1 rfl rfl dX9_parseVoter_129 ?_
        refine z_iadd hX dX9_parseVoter_130 ?_
        refine z_iload hX 4 rfl dX9_parseVoter_131 ?_
        refine z_wI hX dX9_parseVoter_133 (fun M20 => ?_)
        refine z_aload_n hX 0 rfl rfl dX9_parseVoter_134 ?_
        refine z_dup hX rfl dX9_parseVoter_135 ?_
        refine z_gFI 9 13 hX (by decide) rfl (by decide) rfl q_1324 dX9_parseVoter_136 (fun x21 => ?_)
        refine z_iconst (v := 1) hX (by decide) dX9_parseVoter_139 ?_
        refine z_iadd hX dX9_parseVoter_140 ?_
        refine z_pFI 9 13 hX (by decide) rfl (by decide) rfl q_1324 rfl pd_1 rfl rfl dX9_parseVoter_141 (fun M22 => ?_)
        exact z_vretM hX dX9_parseVoter_144 (Nat.le_of_ble_eq_true rfl) (Nat.le_of_ble_eq_true rfl)
      · exact z_vretM hX dX9_parseVoter_102 (Nat.le_of_ble_eq_true rfl) (Nat.le_of_ble_eq_true rfl)
    · refine z_iteB ?_
      refine z_if_eq hX 95 (by decide) dX9_parseVoter_74 (fun _ => ?_) (fun _ => ?_)
      · refine z_pure ?_
        refine z_sub [3, 4, 2, 1, 0] rfl ?_
        exact kj13 (0, o11.2)
      · refine z_aload_n hX 3 rfl rfl dX9_parseVoter_77 ?_
        refine z_asc ?_
        refine z_asc2 ?_
        refine z_cVVm 9 [] hX (fun l hl o ho => c_X9_advance l hl o11.2 v0 o ho) dX9_parseVoter_78 (by decide) rfl rfl q_1470 okV_X9_advance rfl ⟨(Nat.le_of_ble_eq_true rfl), (Nat.le_of_ble_eq_true rfl)⟩ rfl (Nat.le_of_ble_eq_true rfl) rfl rfl ⟨(Nat.le_of_ble_eq_true rfl), (Nat.le_of_ble_eq_true rfl)⟩ (fun o23 => ?_)
        refine z_aload_n hX 3 rfl rfl dX9_parseVoter_81 ?_
        refine z_aload_n hX 3 rfl rfl dX9_parseVoter_82 ?_
        refine z_asc ?_
        refine z_gFR 9 15 hX (by decide) rfl (by decide) rfl q_1326 dX9_parseVoter_83 (fun r24 => ?_)
        refine z_aload_n hX 3 rfl rfl dX9_parseVoter_86 ?_
        refine z_asc ?_
        refine z_gFI 9 12 hX (by decide) rfl (by decide) rfl q_1323 dX9_parseVoter_87 (fun x25 => ?_)
        refine z_asc ?_
        refine z_asc2 ?_
        refine z_cVIm 9 [.ref r24, .int x25] hX (fun l hl o ho => c_X9_readList l hl o23 v0 r24 x25 o ho) dX9_parseVoter_90 (by decide) rfl rfl q_1533 okV_X9_readList rfl ⟨(Nat.le_of_ble_eq_true rfl), (Nat.le_of_ble_eq_true rfl)⟩ rfl (Nat.le_of_ble_eq_true rfl) rfl rfl ⟨(Nat.le_of_ble_eq_true rfl), (Nat.le_of_ble_eq_true rfl)⟩ (fun o26 => ?_)
        refine z_istore hX [(4, .int o26.1), (3, .int o11.1), (2, .int o5.1), (0, .ref v0), (1, .int x1)] (by decide) rfl dX9_parseVoter_93 ?_
        refine z_pure ?_
        refine z_sub [3, 4, 2, 1, 0] rfl ?_
        exact kj13 (o26.1, o26.2)
  · refine z_iteB ?_
    refine z_icmp_ge hX 16 (by decide) dX9_parseVoter_9 (fun _ => ?_) (fun _ => ?_)
    · refine z_iconst (v := 0) hX (by decide) dX9_parseVoter_16 ?_
      refine z_pure ?_
      refine z_sub [1, 0] rfl ?_
      exact kj2 0
    · refine z_iconst (v := 1) hX (by decide) dX9_parseVoter_12 ?_
      refine z_goto hX 17 (by decide) dX9_parseVoter_13 ?_
      refine z_pure ?_
      refine z_sub [1, 0] rfl ?_
      exact kj2 1
theorem c_X9_parseVoter (l : Launch) (hl : l.stackTraces = false) (M : Mem) (v0 : Nat) (o : Mem) (ho : f_X9_parseVoter M v0 = some o) : Ct l yX9_parseVoter cX9_parseVoter 5 (none) rm_X9_parseVoter [.ref v0] M (none) o :=
  Ct.of hl (by decide +kernel) (Nat.le_of_ble_eq_true rfl) rfl (fun X hX hin => z_X9_parseVoter hX M v0 o ho)
theorem okV_X9_parseVoter : okV yX9_parseVoter cX9_parseVoter 5 (none) 0 := ⟨q_1542, q_40, q_96, q_1543, by unfold okY; decide +kernel⟩
/-! ParticipatoryBudgetModel.settingHere()I -/
abbrev rm_X9_settingHere : Room := { frames := 1, cells := 0, slots := 0, locals := 22 }
set_option maxRecDepth 20000 in
set_option maxHeartbeats 4000000 in
theorem z_X9_settingHere {X : Cxt} (hX : okX X cX9_settingHere RX9 rm_X9_settingHere (some .int) 1) (M : Mem) (v0 : Nat) : Zj X (fun o : Int32 => Qr X rm_X9_settingHere.cells rm_X9_settingHere.slots (some (.int o)) M) 0 0 0 [(0, .ref v0)] [] M (f_X9_settingHere M v0) := by
  unfold f_X9_settingHere
  refine z_aload_n hX 0 rfl rfl dX9_settingHere_0 ?_
  refine z_ldc2 (v := 24627848) hX q_1517 dX9_settingHere_1 ?_
  refine z_cVIp 9 [.long 24627848] hX (fun l hl o ho => c_X9_isWord l hl M v0 24627848 o ho) dX9_settingHere_4 (by decide) rfl rfl q_1485 okV_X9_isWord rfl ⟨(Nat.le_of_ble_eq_true rfl), (Nat.le_of_ble_eq_true rfl)⟩ rfl (Nat.le_of_ble_eq_true rfl) rfl rfl ⟨(Nat.le_of_ble_eq_true rfl), (Nat.le_of_ble_eq_true rfl)⟩ (fun o1 => ?_)
  refine z_if_eq hX 12 (by decide) dX9_settingHere_7 (fun _ => ?_) (fun _ => ?_)
  · refine z_aload_n hX 0 rfl rfl dX9_settingHere_12 ?_
    refine z_ldc2 (v := 122510055712238) hX q_1552 dX9_settingHere_13 ?_
    refine z_cVIp 9 [.long 122510055712238] hX (fun l hl o ho => c_X9_isWord l hl M v0 122510055712238 o ho) dX9_settingHere_16 (by decide) rfl rfl q_1485 okV_X9_isWord rfl ⟨(Nat.le_of_ble_eq_true rfl), (Nat.le_of_ble_eq_true rfl)⟩ rfl (Nat.le_of_ble_eq_true rfl) rfl rfl ⟨(Nat.le_of_ble_eq_true rfl), (Nat.le_of_ble_eq_true rfl)⟩ (fun o2 => ?_)
    refine z_if_eq hX 24 (by decide) dX9_settingHere_19 (fun _ => ?_) (fun _ => ?_)
    · refine z_aload_n hX 0 rfl rfl dX9_settingHere_24 ?_
      refine z_ldc2 (v := 643248) hX q_1518 dX9_settingHere_25 ?_
      refine z_cVIp 9 [.long 643248] hX (fun l hl o ho => c_X9_isWord l hl M v0 643248 o ho) dX9_settingHere_28 (by decide) rfl rfl q_1485 okV_X9_isWord rfl ⟨(Nat.le_of_ble_eq_true rfl), (Nat.le_of_ble_eq_true rfl)⟩ rfl (Nat.le_of_ble_eq_true rfl) rfl rfl ⟨(Nat.le_of_ble_eq_true rfl), (Nat.le_of_ble_eq_true rfl)⟩ (fun o3 => ?_)
      refine z_if_eq hX 36 (by decide) dX9_settingHere_31 (fun _ => ?_) (fun _ => ?_)
      · refine z_aload_n hX 0 rfl rfl dX9_settingHere_36 ?_
        refine z_ldc2 (v := 16322738) hX q_1519 dX9_settingHere_37 ?_
        refine z_cVIp 9 [.long 16322738] hX (fun l hl o ho => c_X9_isWord l hl M v0 16322738 o ho) dX9_settingHere_40 (by decide) rfl rfl q_1485 okV_X9_isWord rfl ⟨(Nat.le_of_ble_eq_true rfl), (Nat.le_of_ble_eq_true rfl)⟩ rfl (Nat.le_of_ble_eq_true rfl) rfl rfl ⟨(Nat.le_of_ble_eq_true rfl), (Nat.le_of_ble_eq_true rfl)⟩ (fun o4 => ?_)
        refine z_jn (C' := 0) (S' := 0) 51 (fun (j5 : Int32) => []) (fun (j5 : Int32) => [.int j5]) (fun (j5 : Int32) => M) (fun j5 => ?_) (fun kj5 => ?_)
        · exact z_iretP hX dX9_settingHere_51 (Nat.le_of_ble_eq_true rfl) (Nat.le_of_ble_eq_true rfl)
        · refine z_iteB ?_
          refine z_if_eq hX 50 (by decide) dX9_settingHere_43 (fun _ => ?_) (fun _ => ?_)
          · refine z_iconst (v := (-1)) hX (by decide) dX9_settingHere_50 ?_
            refine z_pure ?_
            refine z_sub [] rfl ?_
            exact kj5 (-1)
          · refine z_iconst (v := 3) hX (by decide) dX9_settingHere_46 ?_
            refine z_goto hX 51 (by decide) dX9_settingHere_47 ?_
            refine z_pure ?_
            refine z_sub [] rfl ?_
            exact kj5 3
      · refine z_iconst (v := 2) hX (by decide) dX9_settingHere_34 ?_
        exact z_iretP hX dX9_settingHere_35 (Nat.le_of_ble_eq_true rfl) (Nat.le_of_ble_eq_true rfl)
    · refine z_iconst (v := 1) hX (by decide) dX9_settingHere_22 ?_
      exact z_iretP hX dX9_settingHere_23 (Nat.le_of_ble_eq_true rfl) (Nat.le_of_ble_eq_true rfl)
  · refine z_iconst (v := 0) hX (by decide) dX9_settingHere_10 ?_
    exact z_iretP hX dX9_settingHere_11 (Nat.le_of_ble_eq_true rfl) (Nat.le_of_ble_eq_true rfl)
theorem c_X9_settingHere (l : Launch) (hl : l.stackTraces = false) (M : Mem) (v0 : Nat) (o : Int32) (ho : f_X9_settingHere M v0 = some o) : Ct l yX9_settingHere cX9_settingHere 1 (some .int) rm_X9_settingHere [.ref v0] M (some (.int o)) M :=
  Ct.of hl (by decide +kernel) (Nat.le_of_ble_eq_true rfl) rfl (fun X hX hin => z_X9_settingHere hX M v0 o ho)
theorem okV_X9_settingHere : okV yX9_settingHere cX9_settingHere 1 (some .int) 0 := ⟨q_1550, q_42, q_96, q_1551, by unfold okY; decide +kernel⟩
/-! ParticipatoryBudgetModel.parseSetting()V -/
abbrev rm_X9_parseSetting : Room := { frames := 4, cells := 0, slots := 0, locals := 86 }
set_option maxRecDepth 20000 in
set_option maxHeartbeats 4000000 in
theorem z_X9_parseSetting {X : Cxt} (hX : okX X cX9_parseSetting RX9 rm_X9_parseSetting (none) 2) (M : Mem) (v0 : Nat) : Zj X (fun o : Mem => Qr X rm_X9_parseSetting.cells rm_X9_parseSetting.slots (none) o) 0 0 0 [(0, .ref v0)] [] M (f_X9_parseSetting M v0) := by
  unfold f_X9_parseSetting
  refine z_aload_n hX 0 rfl rfl dX9_parseSetting_0 ?_
  refine z_cVVm 9 [] hX (fun l hl o ho => c_X9_advance l hl M v0 o ho) dX9_parseSetting_1 (by decide) rfl rfl q_1470 okV_X9_advance rfl ⟨(Nat.le_of_ble_eq_true rfl), (Nat.le_of_ble_eq_true rfl)⟩ rfl (Nat.le_of_ble_eq_true rfl) rfl rfl ⟨(Nat.le_of_ble_eq_true rfl), (Nat.le_of_ble_eq_true rfl)⟩ (fun o1 => ?_)
  refine z_aload_n hX 0 rfl rfl dX9_parseSetting_4 ?_
  refine z_cVIp 9 [] hX (fun l hl o ho => c_X9_settingHere l hl o1 v0 o ho) dX9_parseSetting_5 (by decide) rfl rfl q_1548 okV_X9_settingHere rfl ⟨(Nat.le_of_ble_eq_true rfl), (Nat.le_of_ble_eq_true rfl)⟩ rfl (Nat.le_of_ble_eq_true rfl) rfl rfl ⟨(Nat.le_of_ble_eq_true rfl), (Nat.le_of_ble_eq_true rfl)⟩ (fun o2 => ?_)
  refine z_istore_n hX [(1, .int o2), (0, .ref v0)] rfl (by decide) rfl dX9_parseSetting_8 ?_
  refine z_aload_n hX 1 rfl rfl dX9_parseSetting_9 ?_
  refine z_iload_n hX 0 rfl rfl dX9_parseSetting_10 ?_
  refine z_jn (C' := 0) (S' := 0) 19 (fun (j3 : Int32) => [(0, .ref v0), (1, .int o2)]) (fun (j3 : Int32) => [.int j3, .ref v0]) (fun (j3 : Int32) => o1) (fun j3 => ?_) (fun kj3 => ?_)
  · refine z_bipush (v := (-11)) hX (by decide) dX9_parseSetting_19 ?_
    refine z_cVVm 9 [.int j3, .int (-11)] hX (fun l hl o ho => c_X9_check l hl o1 v0 j3 (-11) o ho) dX9_parseSetting_21 (by decide) rfl rfl q_1493 okV_X9_check rfl ⟨(Nat.le_of_ble_eq_true rfl), (Nat.le_of_ble_eq_true rfl)⟩ rfl (Nat.le_of_ble_eq_true rfl) rfl rfl ⟨(Nat.le_of_ble_eq_true rfl), (Nat.le_of_ble_eq_true rfl)⟩ (fun o4 => ?_)
    refine z_aload_n hX 0 rfl rfl dX9_parseSetting_24 ?_
    refine z_gFI 9 25 hX (by decide) rfl (by decide) rfl q_1336 dX9_parseSetting_25 (fun x5 => ?_)
    refine z_if_eq hX 32 (by decide) dX9_parseSetting_28 (fun _ => ?_) (fun _ => ?_)
    · refine z_aload_n hX 0 rfl rfl dX9_parseSetting_32 ?_
      refine z_aload_n hX 0 rfl rfl dX9_parseSetting_33 ?_
      refine z_gFI 9 27 hX (by decide) rfl (by decide) rfl q_1338 dX9_parseSetting_34 (fun x6 => ?_)
      refine z_iload_n hX 1 rfl rfl dX9_parseSetting_37 ?_
      refine z_cSIp [.int x6, .int o2] hX (fun l hl o ho => c_X9_has l hl o4 x6 o2 o ho) dX9_parseSetting_38 q_1537 okS_X9_has rfl ⟨(Nat.le_of_ble_eq_true rfl), (Nat.le_of_ble_eq_true rfl)⟩ rfl (Nat.le_of_ble_eq_true rfl) rfl rfl ⟨(Nat.le_of_ble_eq_true rfl), (Nat.le_of_ble_eq_true rfl)⟩ (fun o7 => ?_)
      refine z_jn (C' := 0) (S' := 0) 49 (fun (j8 : Int32) => [(0, .ref v0), (1, .int o2)]) (fun (j8 : Int32) => [.int j8, .ref v0]) (fun (j8 : Int32) => o4) (fun j8 => ?_) (fun kj8 => ?_)
      · refine z_bipush (v := (-14)) hX (by decide) dX9_parseSetting_49 ?_
        refine z_cVVm 9 [.int j8, .int (-14)] hX (fun l hl o ho => c_X9_check l hl o4 v0 j8 (-14) o ho) dX9_parseSetting_51 (by decide) rfl rfl q_1493 okV_X9_check rfl ⟨(Nat.le_of_ble_eq_true rfl), (Nat.le_of_ble_eq_true rfl)⟩ rfl (Nat.le_of_ble_eq_true rfl) rfl rfl ⟨(Nat.le_of_ble_eq_true rfl), (Nat.le_of_ble_eq_true rfl)⟩ (fun o9 => ?_)
        refine z_aload_n hX 0 rfl rfl dX9_parseSetting_54 ?_
        refine z_dup hX rfl dX9_parseSetting_55 ?_
        refine z_gFI 9 27 hX (by decide) rfl (by decide) rfl q_1338 dX9_parseSetting_56 (fun x10 => ?_)
        refine z_iconst (v := 1) hX (by decide) dX9_parseSetting_59 ?_
        refine z_iload_n hX 1 rfl rfl dX9_parseSetting_60 ?_
        refine z_ishl hX dX9_parseSetting_61 ?_
        refine z_ior hX dX9_parseSetting_62 ?_
        refine z_pFI 9 27 hX (by decide) rfl (by decide) rfl q_1338 rfl pd_1 rfl rfl dX9_parseSetting_63 (fun M11 => ?_)
        refine z_aload_n hX 0 rfl rfl dX9_parseSetting_66 ?_
        refine z_cVVm 9 [] hX (fun l hl o ho => c_X9_advanceIfGood l hl M11 v0 o ho) dX9_parseSetting_67 (by decide) rfl rfl q_1497 okV_X9_advanceIfGood rfl ⟨(Nat.le_of_ble_eq_true rfl), (Nat.le_of_ble_eq_true rfl)⟩ rfl (Nat.le_of_ble_eq_true rfl) rfl rfl ⟨(Nat.le_of_ble_eq_true rfl), (Nat.le_of_ble_eq_true rfl)⟩ (fun o12 => ?_)
        refine z_aload_n hX 0 rfl rfl dX9_parseSetting_70 ?_
        refine z_gFI 9 25 hX (by decide) rfl (by decide) rfl q_1336 dX9_parseSetting_71 (fun x13 => ?_)
        refine z_jn (C' := 0) (S' := 0) 95 (fun (j14 : Mem) => []) (fun (j14 : Mem) => []) (fun (j14 : Mem) => j14) (fun j14 => ?_) (fun kj14 => ?_)
        · exact z_vretM hX dX9_parseSetting_95 (Nat.le_of_ble_eq_true rfl) (Nat.le_of_ble_eq_true rfl)
        · refine z_iteB ?_
          refine z_if_ne hX 95 (by decide) dX9_parseSetting_74 (fun _ => ?_) (fun _ => ?_)
          · refine z_pure ?_
            refine z_sub [] rfl ?_
            exact kj14 o12
          · refine z_aload_n hX 0 rfl rfl dX9_parseSetting_77 ?_
            refine z_asc ?_
            refine z_gFR 9 1 hX (by decide) rfl (by decide) rfl q_1312 dX9_parseSetting_78 (fun r15 => ?_)
            refine z_iload_n hX 1 rfl rfl dX9_parseSetting_81 ?_
            refine z_aload_n hX 0 rfl rfl dX9_parseSetting_82 ?_
            refine z_iload_n hX 1 rfl rfl dX9_parseSetting_83 ?_
            refine z_asc ?_
            refine z_cSIp [.int o2] hX (fun l hl o ho => c_X9_leastOf l hl o12 o2 o ho) dX9_parseSetting_84 q_1553 okS_X9_leastOf rfl ⟨(Nat.le_of_ble_eq_true rfl), (Nat.le_of_ble_eq_true rfl)⟩ rfl (Nat.le_of_ble_eq_true rfl) rfl rfl ⟨(Nat.le_of_ble_eq_true rfl), (Nat.le_of_ble_eq_true rfl)⟩ (fun o16 => ?_)
            refine z_iload_n hX 1 rfl rfl dX9_parseSetting_87 ?_
            refine z_asc ?_
            refine z_cSIp [.int o2] hX (fun l hl o ho => c_X9_mostOf l hl o12 o2 o ho) dX9_parseSetting_88 q_1556 okS_X9_mostOf rfl ⟨(Nat.le_of_ble_eq_true rfl), (Nat.le_of_ble_eq_true rfl)⟩ rfl (Nat.le_of_ble_eq_true rfl) rfl rfl ⟨(Nat.le_of_ble_eq_true rfl), (Nat.le_of_ble_eq_true rfl)⟩ (fun o17 => ?_)
            refine z_asc ?_
            refine z_asc2 ?_
            refine z_cVIm 9 [.int o16, .int o17] hX (fun l hl o ho => c_X9_readInteger l hl o12 v0 o16 o17 o ho) dX9_parseSetting_91 (by decide) rfl rfl q_1524 okV_X9_readInteger rfl ⟨(Nat.le_of_ble_eq_true rfl), (Nat.le_of_ble_eq_true rfl)⟩ rfl (Nat.le_of_ble_eq_true rfl) rfl rfl ⟨(Nat.le_of_ble_eq_true rfl), (Nat.le_of_ble_eq_true rfl)⟩ (fun o18 => ?_)
            refine z_asc ?_
            refine z_wI hX dX9_parseSetting_94 (fun M19 => ?_)
            refine z_pure ?_
            refine z_sub [] rfl ?_
            exact kj14 M19
      · refine z_iteB ?_
        refine z_if_ne hX 48 (by decide) dX9_parseSetting_41 (fun _ => ?_) (fun _ => ?_)
        · refine z_iconst (v := 0) hX (by decide) dX9_parseSetting_48 ?_
          refine z_pure ?_
          refine z_sub [0, 1] rfl ?_
          exact kj8 0
        · refine z_iconst (v := 1) hX (by decide) dX9_parseSetting_44 ?_
          refine z_goto hX 49 (by decide) dX9_parseSetting_45 ?_
          refine z_pure ?_
          refine z_sub [0, 1] rfl ?_
          exact kj8 1
    · exact z_vretM hX dX9_parseSetting_31 (Nat.le_of_ble_eq_true rfl) (Nat.le_of_ble_eq_true rfl)
  · refine z_iteB ?_
    refine z_if_lt hX 18 (by decide) dX9_parseSetting_11 (fun _ => ?_) (fun _ => ?_)
    · refine z_iconst (v := 0) hX (by decide) dX9_parseSetting_18 ?_
      refine z_pure ?_
      refine z_sub [1, 0] rfl ?_
      exact kj3 0
    · refine z_iconst (v := 1) hX (by decide) dX9_parseSetting_14 ?_
      refine z_goto hX 19 (by decide) dX9_parseSetting_15 ?_
      refine z_pure ?_
      refine z_sub [1, 0] rfl ?_
      exact kj3 1
theorem c_X9_parseSetting (l : Launch) (hl : l.stackTraces = false) (M : Mem) (v0 : Nat) (o : Mem) (ho : f_X9_parseSetting M v0 = some o) : Ct l yX9_parseSetting cX9_parseSetting 2 (none) rm_X9_parseSetting [.ref v0] M (none) o :=
  Ct.of hl (by decide +kernel) (Nat.le_of_ble_eq_true rfl) rfl (fun X hX hin => z_X9_parseSetting hX M v0 o ho)
theorem okV_X9_parseSetting : okV yX9_parseSetting cX9_parseSetting 2 (none) 0 := ⟨q_1546, q_41, q_96, q_1547, by unfold okY; decide +kernel⟩
/-! ParticipatoryBudgetModel.parseStatement()V -/
abbrev rm_X9_parseStatement : Room := { frames := 5, cells := 0, slots := 0, locals := 112 }
set_option maxRecDepth 20000 in
set_option maxHeartbeats 4000000 in
theorem z_X9_parseStatement {X : Cxt} (hX : okX X cX9_parseStatement RX9 rm_X9_parseStatement (none) 1) (M : Mem) (v0 : Nat) : Zj X (fun o : Mem => Qr X rm_X9_parseStatement.cells rm_X9_parseStatement.slots (none) o) 0 0 0 [(0, .ref v0)] [] M (f_X9_parseStatement M v0) := by
  unfold f_X9_parseStatement
  refine z_aload_n hX 0 rfl rfl dX9_parseStatement_0 ?_
  refine z_ldc2 (v := 147761734772) hX q_1484 dX9_parseStatement_1 ?_
  refine z_cVIp 9 [.long 147761734772] hX (fun l hl o ho => c_X9_isWord l hl M v0 147761734772 o ho) dX9_parseStatement_4 (by decide) rfl rfl q_1485 okV_X9_isWord rfl ⟨(Nat.le_of_ble_eq_true rfl), (Nat.le_of_ble_eq_true rfl)⟩ rfl (Nat.le_of_ble_eq_true rfl) rfl rfl ⟨(Nat.le_of_ble_eq_true rfl), (Nat.le_of_ble_eq_true rfl)⟩ (fun o1 => ?_)
  refine z_jn (C' := 0) (S' := 0) 75 (fun (j2 : Mem) => []) (fun (j2 : Mem) => []) (fun (j2 : Mem) => j2) (fun j2 => ?_) (fun kj2 => ?_)
  · exact z_vretM hX dX9_parseStatement_75 (Nat.le_of_ble_eq_true rfl) (Nat.le_of_ble_eq_true rfl)
  · refine z_iteB ?_
    refine z_if_eq hX 17 (by decide) dX9_parseStatement_7 (fun _ => ?_) (fun _ => ?_)
    · refine z_aload_n hX 0 rfl rfl dX9_parseStatement_17 ?_
      refine z_ldc2 (v := 17799910516) hX q_1528 dX9_parseStatement_18 ?_
      refine z_asc ?_
      refine z_asc2 ?_
      refine z_cVIp 9 [.long 17799910516] hX (fun l hl o ho => c_X9_isWord l hl M v0 17799910516 o ho) dX9_parseStatement_21 (by decide) rfl rfl q_1485 okV_X9_isWord rfl ⟨(Nat.le_of_ble_eq_true rfl), (Nat.le_of_ble_eq_true rfl)⟩ rfl (Nat.le_of_ble_eq_true rfl) rfl rfl ⟨(Nat.le_of_ble_eq_true rfl), (Nat.le_of_ble_eq_true rfl)⟩ (fun o3 => ?_)
      refine z_iteB ?_
      refine z_if_eq hX 34 (by decide) dX9_parseStatement_24 (fun _ => ?_) (fun _ => ?_)
      · refine z_aload_n hX 0 rfl rfl dX9_parseStatement_34 ?_
        refine z_ldc2 (v := 23580850) hX q_1513 dX9_parseStatement_35 ?_
        refine z_asc ?_
        refine z_asc2 ?_
        refine z_cVIp 9 [.long 23580850] hX (fun l hl o ho => c_X9_isWord l hl M v0 23580850 o ho) dX9_parseStatement_38 (by decide) rfl rfl q_1485 okV_X9_isWord rfl ⟨(Nat.le_of_ble_eq_true rfl), (Nat.le_of_ble_eq_true rfl)⟩ rfl (Nat.le_of_ble_eq_true rfl) rfl rfl ⟨(Nat.le_of_ble_eq_true rfl), (Nat.le_of_ble_eq_true rfl)⟩ (fun o4 => ?_)
        refine z_iteB ?_
        refine z_if_eq hX 51 (by decide) dX9_parseStatement_41 (fun _ => ?_) (fun _ => ?_)
        · refine z_aload_n hX 0 rfl rfl dX9_parseStatement_51 ?_
          refine z_ldc2 (v := 19636) hX q_1516 dX9_parseStatement_52 ?_
          refine z_asc ?_
          refine z_asc2 ?_
          refine z_cVIp 9 [.long 19636] hX (fun l hl o ho => c_X9_isWord l hl M v0 19636 o ho) dX9_parseStatement_55 (by decide) rfl rfl q_1485 okV_X9_isWord rfl ⟨(Nat.le_of_ble_eq_true rfl), (Nat.le_of_ble_eq_true rfl)⟩ rfl (Nat.le_of_ble_eq_true rfl) rfl rfl ⟨(Nat.le_of_ble_eq_true rfl), (Nat.le_of_ble_eq_true rfl)⟩ (fun o5 => ?_)
          refine z_iteB ?_
          refine z_if_eq hX 68 (by decide) dX9_parseStatement_58 (fun _ => ?_) (fun _ => ?_)
          · refine z_aload_n hX 0 rfl rfl dX9_parseStatement_68 ?_
            refine z_iconst (v := 0) hX (by decide) dX9_parseStatement_69 ?_
            refine z_bipush (v := (-11)) hX (by decide) dX9_parseStatement_70 ?_
            refine z_asc ?_
            refine z_asc2 ?_
            refine z_cVVm 9 [.int 0, .int (-11)] hX (fun l hl o ho => c_X9_check l hl M v0 0 (-11) o ho) dX9_parseStatement_72 (by decide) rfl rfl q_1493 okV_X9_check rfl ⟨(Nat.le_of_ble_eq_true rfl), (Nat.le_of_ble_eq_true rfl)⟩ rfl (Nat.le_of_ble_eq_true rfl) rfl rfl ⟨(Nat.le_of_ble_eq_true rfl), (Nat.le_of_ble_eq_true rfl)⟩ (fun o6 => ?_)
            refine z_pure ?_
            refine z_sub [] rfl ?_
            exact kj2 o6
          · refine z_aload_n hX 0 rfl rfl dX9_parseStatement_61 ?_
            refine z_asc ?_
            refine z_asc2 ?_
            refine z_cVVm 9 [] hX (fun l hl o ho => c_X9_parseSetting l hl M v0 o ho) dX9_parseStatement_62 (by decide) rfl rfl q_1544 okV_X9_parseSetting rfl ⟨(Nat.le_of_ble_eq_true rfl), (Nat.le_of_ble_eq_true rfl)⟩ rfl (Nat.le_of_ble_eq_true rfl) rfl rfl ⟨(Nat.le_of_ble_eq_true rfl), (Nat.le_of_ble_eq_true rfl)⟩ (fun o7 => ?_)
            refine z_goto hX 75 (by decide) dX9_parseStatement_65 ?_
            refine z_pure ?_
            refine z_sub [] rfl ?_
            exact kj2 o7
        · refine z_aload_n hX 0 rfl rfl dX9_parseStatement_44 ?_
          refine z_asc ?_
          refine z_asc2 ?_
          refine z_cVVm 9 [] hX (fun l hl o ho => c_X9_parseVoter l hl M v0 o ho) dX9_parseStatement_45 (by decide) rfl rfl q_1540 okV_X9_parseVoter rfl ⟨(Nat.le_of_ble_eq_true rfl), (Nat.le_of_ble_eq_true rfl)⟩ rfl (Nat.le_of_ble_eq_true rfl) rfl rfl ⟨(Nat.le_of_ble_eq_true rfl), (Nat.le_of_ble_eq_true rfl)⟩ (fun o8 => ?_)
          refine z_goto hX 75 (by decide) dX9_parseStatement_48 ?_
          refine z_pure ?_
          refine z_sub [] rfl ?_
          exact kj2 o8
      · refine z_aload_n hX 0 rfl rfl dX9_parseStatement_27 ?_
        refine z_asc ?_
        refine z_asc2 ?_
        refine z_cVVm 9 [] hX (fun l hl o ho => c_X9_parseProject l hl M v0 o ho) dX9_parseStatement_28 (by decide) rfl rfl q_1529 okV_X9_parseProject rfl ⟨(Nat.le_of_ble_eq_true rfl), (Nat.le_of_ble_eq_true rfl)⟩ rfl (Nat.le_of_ble_eq_true rfl) rfl rfl ⟨(Nat.le_of_ble_eq_true rfl), (Nat.le_of_ble_eq_true rfl)⟩ (fun o9 => ?_)
        refine z_goto hX 75 (by decide) dX9_parseStatement_31 ?_
        refine z_pure ?_
        refine z_sub [] rfl ?_
        exact kj2 o9
    · refine z_aload_n hX 0 rfl rfl dX9_parseStatement_10 ?_
      refine z_asc ?_
      refine z_asc2 ?_
      refine z_cVVm 9 [] hX (fun l hl o ho => c_X9_parseDistrict l hl M v0 o ho) dX9_parseStatement_11 (by decide) rfl rfl q_1489 okV_X9_parseDistrict rfl ⟨(Nat.le_of_ble_eq_true rfl), (Nat.le_of_ble_eq_true rfl)⟩ rfl (Nat.le_of_ble_eq_true rfl) rfl rfl ⟨(Nat.le_of_ble_eq_true rfl), (Nat.le_of_ble_eq_true rfl)⟩ (fun o10 => ?_)
      refine z_goto hX 75 (by decide) dX9_parseStatement_14 ?_
      refine z_pure ?_
      refine z_sub [] rfl ?_
      exact kj2 o10
theorem c_X9_parseStatement (l : Launch) (hl : l.stackTraces = false) (M : Mem) (v0 : Nat) (o : Mem) (ho : f_X9_parseStatement M v0 = some o) : Ct l yX9_parseStatement cX9_parseStatement 1 (none) rm_X9_parseStatement [.ref v0] M (none) o :=
  Ct.of hl (by decide +kernel) (Nat.le_of_ble_eq_true rfl) rfl (fun X hX hin => z_X9_parseStatement hX M v0 o ho)
theorem okV_X9_parseStatement : okV yX9_parseStatement cX9_parseStatement 1 (none) 0 := ⟨q_1482, q_29, q_96, q_1483, by unfold okY; decide +kernel⟩
/-! ParticipatoryBudgetModel.load(I)I -/
abbrev rm_X9_load : Room := { frames := 6, cells := 0, slots := 0, locals := 132 }
set_option maxRecDepth 20000 in
set_option maxHeartbeats 4000000 in
theorem z_X9_load {X : Cxt} (hX : okX X cX9_load RX9 rm_X9_load (some .int) 3) (M : Mem) (v0 : Nat) (v1 : Int32) : Zj X (fun o : Int32 × Mem => Qr X rm_X9_load.cells rm_X9_load.slots (some (.int o.1)) o.2) 0 0 0 [(0, .ref v0), (1, .int v1)] [] M (f_X9_load M v0 v1) := by
  unfold f_X9_load
  refine z_aload_n hX 0 rfl rfl dX9_load_0 ?_
  refine z_iconst (v := 0) hX (by decide) dX9_load_1 ?_
  refine z_pFI 9 4 hX (by decide) rfl (by decide) rfl q_1315 rfl pd_1 rfl rfl dX9_load_2 (fun M1 => ?_)
  refine z_iload_n hX 1 rfl rfl dX9_load_5 ?_
  refine z_iconst (v := 0) hX (by decide) dX9_load_6 ?_
  refine z_aload_n hX 0 rfl rfl dX9_load_7 ?_
  refine z_gFI 9 18 hX (by decide) rfl (by decide) rfl q_1329 dX9_load_8 (fun x2 => ?_)
  refine z_cSIp [.int v1, .int 0, .int x2] hX (fun l hl o ho => c_X9_inRange l hl M1 v1 0 x2 o ho) dX9_load_11 q_1467 okS_X9_inRange rfl ⟨(Nat.le_of_ble_eq_true rfl), (Nat.le_of_ble_eq_true rfl)⟩ rfl (Nat.le_of_ble_eq_true rfl) rfl rfl ⟨(Nat.le_of_ble_eq_true rfl), (Nat.le_of_ble_eq_true rfl)⟩ (fun o3 => ?_)
  refine z_if_ne hX 20 (by decide) dX9_load_14 (fun _ => ?_) (fun _ => ?_)
  · refine z_aload_n hX 0 rfl rfl dX9_load_20 ?_
    refine z_iload_n hX 1 rfl rfl dX9_load_21 ?_
    refine z_pFI 9 19 hX (by decide) rfl (by decide) rfl q_1330 rfl pd_1 rfl rfl dX9_load_22 (fun M4 => ?_)
    refine z_aload_n hX 0 rfl rfl dX9_load_25 ?_
    refine z_iconst (v := 0) hX (by decide) dX9_load_26 ?_
    refine z_pFI 9 20 hX (by decide) rfl (by decide) rfl q_1331 rfl pd_1 rfl rfl dX9_load_27 (fun M5 => ?_)
    refine z_aload_n hX 0 rfl rfl dX9_load_30 ?_
    refine z_iconst (v := 0) hX (by decide) dX9_load_31 ?_
    refine z_pFI 9 25 hX (by decide) rfl (by decide) rfl q_1336 rfl pd_1 rfl rfl dX9_load_32 (fun M6 => ?_)
    refine z_aload_n hX 0 rfl rfl dX9_load_35 ?_
    refine z_iconst (v := (-1)) hX (by decide) dX9_load_36 ?_
    refine z_pFI 9 26 hX (by decide) rfl (by decide) rfl q_1337 rfl pd_1 rfl rfl dX9_load_37 (fun M7 => ?_)
    refine z_aload_n hX 0 rfl rfl dX9_load_40 ?_
    refine z_iconst (v := 0) hX (by decide) dX9_load_41 ?_
    refine z_pFI 9 27 hX (by decide) rfl (by decide) rfl q_1338 rfl pd_1 rfl rfl dX9_load_42 (fun M8 => ?_)
    refine z_aload_n hX 0 rfl rfl dX9_load_45 ?_
    refine z_iconst (v := 0) hX (by decide) dX9_load_46 ?_
    refine z_pFI 9 28 hX (by decide) rfl (by decide) rfl q_1339 rfl pd_1 rfl rfl dX9_load_47 (fun M9 => ?_)
    refine z_aload_n hX 0 rfl rfl dX9_load_50 ?_
    refine z_iconst (v := 0) hX (by decide) dX9_load_51 ?_
    refine z_pFI 9 11 hX (by decide) rfl (by decide) rfl q_1322 rfl pd_1 rfl rfl dX9_load_52 (fun M10 => ?_)
    refine z_aload_n hX 0 rfl rfl dX9_load_55 ?_
    refine z_iconst (v := 0) hX (by decide) dX9_load_56 ?_
    refine z_pFI 9 12 hX (by decide) rfl (by decide) rfl q_1323 rfl pd_1 rfl rfl dX9_load_57 (fun M11 => ?_)
    refine z_aload_n hX 0 rfl rfl dX9_load_60 ?_
    refine z_iconst (v := 0) hX (by decide) dX9_load_61 ?_
    refine z_pFI 9 13 hX (by decide) rfl (by decide) rfl q_1324 rfl pd_1 rfl rfl dX9_load_62 (fun M12 => ?_)
    refine z_aload_n hX 0 rfl rfl dX9_load_65 ?_
    refine z_gFR 9 1 hX (by decide) rfl (by decide) rfl q_1312 dX9_load_66 (fun r13 => ?_)
    refine z_cSVm [.ref r13] hX (fun l hl o ho => c_X9_reset l hl M12 r13 o ho) dX9_load_69 q_1308 okS_X9_reset rfl ⟨(Nat.le_of_ble_eq_true rfl), (Nat.le_of_ble_eq_true rfl)⟩ rfl (Nat.le_of_ble_eq_true rfl) rfl rfl ⟨(Nat.le_of_ble_eq_true rfl), (Nat.le_of_ble_eq_true rfl)⟩ (fun o14 => ?_)
    refine z_aload_n hX 0 rfl rfl dX9_load_72 ?_
    refine z_cVVm 9 [] hX (fun l hl o ho => c_X9_advance l hl o14 v0 o ho) dX9_load_73 (by decide) rfl rfl q_1470 okV_X9_advance rfl ⟨(Nat.le_of_ble_eq_true rfl), (Nat.le_of_ble_eq_true rfl)⟩ rfl (Nat.le_of_ble_eq_true rfl) rfl rfl ⟨(Nat.le_of_ble_eq_true rfl), (Nat.le_of_ble_eq_true rfl)⟩ (fun o15 => ?_)
    refine z_sub [0] rfl ?_
    refine z_lp (x0 := o15) (bd_X9_load_76 v0) 76 130 (fun (u16 : Mem) => [(0, .ref v0)]) (fun (e17 : Mem) => [(0, .ref v0)]) (fun (u16 : Mem) => u16) ?_ ?_
    · intro e17
      refine z_aload_n hX 0 rfl rfl dX9_load_130 ?_
      refine z_iconst (v := 0) hX (by decide) dX9_load_131 ?_
      refine z_pFI 9 18 hX (by decide) rfl (by decide) rfl q_1329 rfl pd_1 rfl rfl dX9_load_132 (fun M29 => ?_)
      refine z_aload_n hX 0 rfl rfl dX9_load_135 ?_
      refine z_gFI 9 25 hX (by decide) rfl (by decide) rfl q_1336 dX9_load_136 (fun x30 => ?_)
      refine z_if_eq hX 147 (by decide) dX9_load_139 (fun _ => ?_) (fun _ => ?_)
      · refine z_iconst (v := 0) hX (by decide) dX9_load_147 ?_
        refine z_istore_n hX [(2, .int 0), (0, .ref v0)] rfl (by decide) rfl dX9_load_148 ?_
        refine z_sub [1, 0] rfl ?_
        refine z_lp (x0 := (0, M29)) (bd_X9_load_149 v0) 149 173 (fun (u31 : Int32 × Mem) => [(0, .ref v0), (2, .int u31.1)]) (fun (e32 : Int32 × Mem) => [(0, .ref v0)]) (fun (u31 : Int32 × Mem) => u31.2) ?_ ?_
        · intro e32
          refine z_iconst (v := 0) hX (by decide) dX9_load_173 ?_
          refine z_istore_n hX [(2, .int 0), (0, .ref v0)] rfl (by decide) rfl dX9_load_174 ?_
          refine z_sub [1, 0] rfl ?_
          refine z_lp (x0 := (0, e32.2)) (bd_X9_load_175 v0) 175 198 (fun (u39 : Int32 × Mem) => [(0, .ref v0), (2, .int u39.1)]) (fun (e40 : Int32 × Mem) => [(0, .ref v0)]) (fun (u39 : Int32 × Mem) => u39.2) ?_ ?_
          · intro e40
            refine z_iconst (v := 0) hX (by decide) dX9_load_198 ?_
            refine z_istore_n hX [(2, .int 0), (0, .ref v0)] rfl (by decide) rfl dX9_load_199 ?_
            refine z_sub [1, 0] rfl ?_
            refine z_lp (x0 := (0, e40.2)) (bd_X9_load_200 v0) 200 236 (fun (u47 : Int32 × Mem) => [(0, .ref v0), (2, .int u47.1)]) (fun (e48 : Int32 × Mem) => [(0, .ref v0)]) (fun (u47 : Int32 × Mem) => u47.2) ?_ ?_
            · intro e48
              refine z_aload_n hX 0 rfl rfl dX9_load_236 ?_
              refine z_aload_n hX 0 rfl rfl dX9_load_237 ?_
              refine z_gFI 9 11 hX (by decide) rfl (by decide) rfl q_1322 dX9_load_238 (fun x59 => ?_)
              refine z_pFI 9 5 hX (by decide) rfl (by decide) rfl q_1316 rfl pd_1 rfl rfl dX9_load_241 (fun M60 => ?_)
              refine z_aload_n hX 0 rfl rfl dX9_load_244 ?_
              refine z_aload_n hX 0 rfl rfl dX9_load_245 ?_
              refine z_gFI 9 12 hX (by decide) rfl (by decide) rfl q_1323 dX9_load_246 (fun x61 => ?_)
              refine z_pFI 9 6 hX (by decide) rfl (by decide) rfl q_1317 rfl pd_1 rfl rfl dX9_load_249 (fun M62 => ?_)
              refine z_aload_n hX 0 rfl rfl dX9_load_252 ?_
              refine z_aload_n hX 0 rfl rfl dX9_load_253 ?_
              refine z_gFI 9 13 hX (by decide) rfl (by decide) rfl q_1324 dX9_load_254 (fun x63 => ?_)
              refine z_pFI 9 7 hX (by decide) rfl (by decide) rfl q_1318 rfl pd_1 rfl rfl dX9_load_257 (fun M64 => ?_)
              refine z_aload_n hX 0 rfl rfl dX9_load_260 ?_
              refine z_iconst (v := 0) hX (by decide) dX9_load_261 ?_
              refine z_pFI 9 3 hX (by decide) rfl (by decide) rfl q_1314 rfl pd_1 rfl rfl dX9_load_262 (fun M65 => ?_)
              refine z_aload_n hX 0 rfl rfl dX9_load_265 ?_
              refine z_gFI 9 28 hX (by decide) rfl (by decide) rfl q_1339 dX9_load_266 (fun x66 => ?_)
              exact z_iretM hX dX9_load_269 (Nat.le_of_ble_eq_true rfl) (Nat.le_of_ble_eq_true rfl)
            · intro kk49 rc50 hkk49 hrc50 u47
              unfold bd_X9_load_200
              refine z_iload_n hX 1 rfl rfl dX9_load_200 ?_
              refine z_bipush (v := 12) hX (by decide) dX9_load_201 ?_
              refine z_icmp_ge hX 236 (by decide) dX9_load_203 (fun _ => ?_) (fun _ => ?_)
              · refine z_sub [0] rfl ?_
                exact hkk49 (u47.1, u47.2)
              · refine z_aload_n hX 0 rfl rfl dX9_load_206 ?_
                refine z_gFR 9 9 hX (by decide) rfl (by decide) rfl q_1320 dX9_load_207 (fun r51 => ?_)
                refine z_iload_n hX 1 rfl rfl dX9_load_210 ?_
                refine z_aload_n hX 0 rfl rfl dX9_load_211 ?_
                refine z_gFR 9 15 hX (by decide) rfl (by decide) rfl q_1326 dX9_load_212 (fun r52 => ?_)
                refine z_iload_n hX 1 rfl rfl dX9_load_215 ?_
                refine z_aI hX dX9_load_216 (fun x53 => ?_)
                refine z_wI hX dX9_load_217 (fun M54 => ?_)
                refine z_aload_n hX 0 rfl rfl dX9_load_218 ?_
                refine z_gFR 9 10 hX (by decide) rfl (by decide) rfl q_1321 dX9_load_219 (fun r55 => ?_)
                refine z_iload_n hX 1 rfl rfl dX9_load_222 ?_
                refine z_aload_n hX 0 rfl rfl dX9_load_223 ?_
                refine z_gFR 9 16 hX (by decide) rfl (by decide) rfl q_1327 dX9_load_224 (fun r56 => ?_)
                refine z_iload_n hX 1 rfl rfl dX9_load_227 ?_
                refine z_aI hX dX9_load_228 (fun x57 => ?_)
                refine z_wI hX dX9_load_229 (fun M58 => ?_)
                refine z_iinc hX 1 [(2, .int (u47.1 + 1)), (0, .ref v0)] rfl rfl (by decide) rfl dX9_load_230 ?_
                refine z_goto hX 200 (by decide) dX9_load_233 ?_
                refine z_sub [1, 0] rfl ?_
                exact hrc50 (u47.1 + 1, M58)
          · intro kk41 rc42 hkk41 hrc42 u39
            unfold bd_X9_load_175
            refine z_iload_n hX 1 rfl rfl dX9_load_175 ?_
            refine z_iconst (v := 4) hX (by decide) dX9_load_176 ?_
            refine z_icmp_ge hX 198 (by decide) dX9_load_177 (fun _ => ?_) (fun _ => ?_)
            · refine z_sub [0] rfl ?_
              exact hkk41 (u39.1, u39.2)
            · refine z_aload_n hX 0 rfl rfl dX9_load_180 ?_
              refine z_gFR 9 8 hX (by decide) rfl (by decide) rfl q_1319 dX9_load_181 (fun r43 => ?_)
              refine z_iload_n hX 1 rfl rfl dX9_load_184 ?_
              refine z_aload_n hX 0 rfl rfl dX9_load_185 ?_
              refine z_gFR 9 14 hX (by decide) rfl (by decide) rfl q_1325 dX9_load_186 (fun r44 => ?_)
              refine z_iload_n hX 1 rfl rfl dX9_load_189 ?_
              refine z_aI hX dX9_load_190 (fun x45 => ?_)
              refine z_wI hX dX9_load_191 (fun M46 => ?_)
              refine z_iinc hX 1 [(2, .int (u39.1 + 1)), (0, .ref v0)] rfl rfl (by decide) rfl dX9_load_192 ?_
              refine z_goto hX 175 (by decide) dX9_load_195 ?_
              refine z_sub [1, 0] rfl ?_
              exact hrc42 (u39.1 + 1, M46)
        · intro kk33 rc34 hkk33 hrc34 u31
          unfold bd_X9_load_149
          refine z_iload_n hX 1 rfl rfl dX9_load_149 ?_
          refine z_bipush (v := 92) hX (by decide) dX9_load_150 ?_
          refine z_icmp_ge hX 173 (by decide) dX9_load_152 (fun _ => ?_) (fun _ => ?_)
          · refine z_sub [0] rfl ?_
            exact hkk33 (u31.1, u31.2)
          · refine z_aload_n hX 0 rfl rfl dX9_load_155 ?_
            refine z_gFR 9 0 hX (by decide) rfl (by decide) rfl q_1311 dX9_load_156 (fun r35 => ?_)
            refine z_iload_n hX 1 rfl rfl dX9_load_159 ?_
            refine z_aload_n hX 0 rfl rfl dX9_load_160 ?_
            refine z_gFR 9 1 hX (by decide) rfl (by decide) rfl q_1312 dX9_load_161 (fun r36 => ?_)
            refine z_iload_n hX 1 rfl rfl dX9_load_164 ?_
            refine z_aI hX dX9_load_165 (fun x37 => ?_)
            refine z_wI hX dX9_load_166 (fun M38 => ?_)
            refine z_iinc hX 1 [(2, .int (u31.1 + 1)), (0, .ref v0)] rfl rfl (by decide) rfl dX9_load_167 ?_
            refine z_goto hX 149 (by decide) dX9_load_170 ?_
            refine z_sub [1, 0] rfl ?_
            exact hrc34 (u31.1 + 1, M38)
      · refine z_aload_n hX 0 rfl rfl dX9_load_142 ?_
        refine z_gFI 9 25 hX (by decide) rfl (by decide) rfl q_1336 dX9_load_143 (fun x67 => ?_)
        exact z_iretM hX dX9_load_146 (Nat.le_of_ble_eq_true rfl) (Nat.le_of_ble_eq_true rfl)
    · intro kk18 rc19 hkk18 hrc19 u16
      unfold bd_X9_load_76
      refine z_aload_n hX 0 rfl rfl dX9_load_76 ?_
      refine z_gFI 9 25 hX (by decide) rfl (by decide) rfl q_1336 dX9_load_77 (fun x20 => ?_)
      refine z_if_ne hX 130 (by decide) dX9_load_80 (fun _ => ?_) (fun _ => ?_)
      · refine z_sub [0] rfl ?_
        exact hkk18 u16
      · refine z_aload_n hX 0 rfl rfl dX9_load_83 ?_
        refine z_gFI 9 22 hX (by decide) rfl (by decide) rfl q_1333 dX9_load_84 (fun x21 => ?_)
        refine z_if_eq hX 130 (by decide) dX9_load_87 (fun _ => ?_) (fun _ => ?_)
        · refine z_sub [0] rfl ?_
          exact hkk18 u16
        · refine z_aload_n hX 0 rfl rfl dX9_load_90 ?_
          refine z_cVVm 9 [] hX (fun l hl o ho => c_X9_parseStatement l hl u16 v0 o ho) dX9_load_91 (by decide) rfl rfl q_1480 okV_X9_parseStatement rfl ⟨(Nat.le_of_ble_eq_true rfl), (Nat.le_of_ble_eq_true rfl)⟩ rfl (Nat.le_of_ble_eq_true rfl) rfl rfl ⟨(Nat.le_of_ble_eq_true rfl), (Nat.le_of_ble_eq_true rfl)⟩ (fun o22 => ?_)
          refine z_aload_n hX 0 rfl rfl dX9_load_94 ?_
          refine z_aload_n hX 0 rfl rfl dX9_load_95 ?_
          refine z_gFI 9 22 hX (by decide) rfl (by decide) rfl q_1333 dX9_load_96 (fun x23 => ?_)
          refine z_iconst (v := 3) hX (by decide) dX9_load_99 ?_
          refine z_jn (C' := 0) (S' := 0) 108 (fun (j24 : Int32) => [(0, .ref v0)]) (fun (j24 : Int32) => [.int j24, .ref v0]) (fun (j24 : Int32) => o22) (fun j24 => ?_) (fun kj24 => ?_)
          · refine z_bipush (v := (-11)) hX (by decide) dX9_load_108 ?_
            refine z_cVVm 9 [.int j24, .int (-11)] hX (fun l hl o ho => c_X9_check l hl o22 v0 j24 (-11) o ho) dX9_load_110 (by decide) rfl rfl q_1493 okV_X9_check rfl ⟨(Nat.le_of_ble_eq_true rfl), (Nat.le_of_ble_eq_true rfl)⟩ rfl (Nat.le_of_ble_eq_true rfl) rfl rfl ⟨(Nat.le_of_ble_eq_true rfl), (Nat.le_of_ble_eq_true rfl)⟩ (fun o25 => ?_)
            refine z_aload_n hX 0 rfl rfl dX9_load_113 ?_
            refine z_cVVm 9 [] hX (fun l hl o ho => c_X9_advanceIfGood l hl o25 v0 o ho) dX9_load_114 (by decide) rfl rfl q_1497 okV_X9_advanceIfGood rfl ⟨(Nat.le_of_ble_eq_true rfl), (Nat.le_of_ble_eq_true rfl)⟩ rfl (Nat.le_of_ble_eq_true rfl) rfl rfl ⟨(Nat.le_of_ble_eq_true rfl), (Nat.le_of_ble_eq_true rfl)⟩ (fun o26 => ?_)
            refine z_aload_n hX 0 rfl rfl dX9_load_117 ?_
            refine z_dup hX rfl dX9_load_118 ?_
            refine z_gFI 9 28 hX (by decide) rfl (by decide) rfl q_1339 dX9_load_119 (fun x27 => ?_)
            refine z_iconst (v := 1) hX (by decide) dX9_load_122 ?_
            refine z_iadd hX dX9_load_123 ?_
            refine z_pFI 9 28 hX (by decide) rfl (by decide) rfl q_1339 rfl pd_1 rfl rfl dX9_load_124 (fun M28 => ?_)
            refine z_goto hX 76 (by decide) dX9_load_127 ?_
            refine z_sub [0] rfl ?_
            exact hrc19 M28
          · refine z_iteB ?_
            refine z_icmp_ne hX 107 (by decide) dX9_load_100 (fun _ => ?_) (fun _ => ?_)
            · refine z_iconst (v := 0) hX (by decide) dX9_load_107 ?_
              refine z_pure ?_
              refine z_sub [0] rfl ?_
              exact kj24 0
            · refine z_iconst (v := 1) hX (by decide) dX9_load_103 ?_
              refine z_goto hX 108 (by decide) dX9_load_104 ?_
              refine z_pure ?_
              refine z_sub [0] rfl ?_
              exact kj24 1
  · refine z_bipush (v := (-2)) hX (by decide) dX9_load_17 ?_
    exact z_iretM hX dX9_load_19 (Nat.le_of_ble_eq_true rfl) (Nat.le_of_ble_eq_true rfl)
theorem c_X9_load (l : Launch) (hl : l.stackTraces = false) (M : Mem) (v0 : Nat) (v1 : Int32) (o : Int32 × Mem) (ho : f_X9_load M v0 v1 = some o) : Ct l yX9_load cX9_load 3 (some .int) rm_X9_load [.ref v0, .int v1] M (some (.int o.1)) o.2 :=
  Ct.of hl (by decide +kernel) (Nat.le_of_ble_eq_true rfl) rfl (fun X hX hin => z_X9_load hX M v0 v1 o ho)
theorem okV_X9_load : okV yX9_load cX9_load 3 (some .int) 1 := ⟨q_1464, q_1465, q_96, q_1466, by unfold okY; decide +kernel⟩
/-! ParticipatoryBudgetModel.isDistrict(I)Z -/
abbrev rm_X9_isDistrict : Room := { frames := 1, cells := 0, slots := 0, locals := 22 }
set_option maxRecDepth 20000 in
set_option maxHeartbeats 4000000 in
theorem z_X9_isDistrict {X : Cxt} (hX : okX X cX9_isDistrict RX9 rm_X9_isDistrict (some .boolean) 2) (M : Mem) (v0 : Nat) (v1 : Int32) : Zj X (fun o : Int32 => Qr X rm_X9_isDistrict.cells rm_X9_isDistrict.slots (some (.int o)) M) 0 0 0 [(0, .ref v0), (1, .int v1)] [] M (f_X9_isDistrict M v0 v1) := by
  unfold f_X9_isDistrict
  refine z_iload_n hX 1 rfl rfl dX9_isDistrict_0 ?_
  refine z_iconst (v := 0) hX (by decide) dX9_isDistrict_1 ?_
  refine z_aload_n hX 0 rfl rfl dX9_isDistrict_2 ?_
  refine z_gFI 9 5 hX (by decide) rfl (by decide) rfl q_1316 dX9_isDistrict_3 (fun x1 => ?_)
  refine z_iconst (v := 1) hX (by decide) dX9_isDistrict_6 ?_
  refine z_isub hX dX9_isDistrict_7 ?_
  refine z_cSIp [.int v1, .int 0, .int (x1 - 1)] hX (fun l hl o ho => c_X9_inRange l hl M v1 0 (x1 - 1) o ho) dX9_isDistrict_8 q_1467 okS_X9_inRange rfl ⟨(Nat.le_of_ble_eq_true rfl), (Nat.le_of_ble_eq_true rfl)⟩ rfl (Nat.le_of_ble_eq_true rfl) rfl rfl ⟨(Nat.le_of_ble_eq_true rfl), (Nat.le_of_ble_eq_true rfl)⟩ (fun o2 => ?_)
  exact z_zretP hX dX9_isDistrict_11 (Nat.le_of_ble_eq_true rfl) (Nat.le_of_ble_eq_true rfl)
theorem c_X9_isDistrict (l : Launch) (hl : l.stackTraces = false) (M : Mem) (v0 : Nat) (v1 : Int32) (o : Int32) (ho : f_X9_isDistrict M v0 v1 = some o) : Ct l yX9_isDistrict cX9_isDistrict 2 (some .boolean) rm_X9_isDistrict [.ref v0, .int v1] M (some (.int o)) M :=
  Ct.of hl (by decide +kernel) (Nat.le_of_ble_eq_true rfl) rfl (fun X hX hin => z_X9_isDistrict hX M v0 v1 o ho)
theorem okV_X9_isDistrict : okV yX9_isDistrict cX9_isDistrict 2 (some .boolean) 1 := ⟨q_1585, q_43, q_96, q_1586, by unfold okY; decide +kernel⟩
/-! ParticipatoryBudgetModel.isProject(I)Z -/
abbrev rm_X9_isProject : Room := { frames := 1, cells := 0, slots := 0, locals := 22 }
set_option maxRecDepth 20000 in
set_option maxHeartbeats 4000000 in
theorem z_X9_isProject {X : Cxt} (hX : okX X cX9_isProject RX9 rm_X9_isProject (some .boolean) 2) (M : Mem) (v0 : Nat) (v1 : Int32) : Zj X (fun o : Int32 => Qr X rm_X9_isProject.cells rm_X9_isProject.slots (some (.int o)) M) 0 0 0 [(0, .ref v0), (1, .int v1)] [] M (f_X9_isProject M v0 v1) := by
  unfold f_X9_isProject
  refine z_iload_n hX 1 rfl rfl dX9_isProject_0 ?_
  refine z_iconst (v := 0) hX (by decide) dX9_isProject_1 ?_
  refine z_aload_n hX 0 rfl rfl dX9_isProject_2 ?_
  refine z_gFI 9 6 hX (by decide) rfl (by decide) rfl q_1317 dX9_isProject_3 (fun x1 => ?_)
  refine z_iconst (v := 1) hX (by decide) dX9_isProject_6 ?_
  refine z_isub hX dX9_isProject_7 ?_
  refine z_cSIp [.int v1, .int 0, .int (x1 - 1)] hX (fun l hl o ho => c_X9_inRange l hl M v1 0 (x1 - 1) o ho) dX9_isProject_8 q_1467 okS_X9_inRange rfl ⟨(Nat.le_of_ble_eq_true rfl), (Nat.le_of_ble_eq_true rfl)⟩ rfl (Nat.le_of_ble_eq_true rfl) rfl rfl ⟨(Nat.le_of_ble_eq_true rfl), (Nat.le_of_ble_eq_true rfl)⟩ (fun o2 => ?_)
  exact z_zretP hX dX9_isProject_11 (Nat.le_of_ble_eq_true rfl) (Nat.le_of_ble_eq_true rfl)
theorem c_X9_isProject (l : Launch) (hl : l.stackTraces = false) (M : Mem) (v0 : Nat) (v1 : Int32) (o : Int32) (ho : f_X9_isProject M v0 v1 = some o) : Ct l yX9_isProject cX9_isProject 2 (some .boolean) rm_X9_isProject [.ref v0, .int v1] M (some (.int o)) M :=
  Ct.of hl (by decide +kernel) (Nat.le_of_ble_eq_true rfl) rfl (fun X hX hin => z_X9_isProject hX M v0 v1 o ho)
theorem okV_X9_isProject : okV yX9_isProject cX9_isProject 2 (some .boolean) 1 := ⟨q_1597, q_45, q_96, q_1598, by unfold okY; decide +kernel⟩
/-! ParticipatoryBudgetModel.isVoter(I)Z -/
abbrev rm_X9_isVoter : Room := { frames := 1, cells := 0, slots := 0, locals := 22 }
set_option maxRecDepth 20000 in
set_option maxHeartbeats 4000000 in
theorem z_X9_isVoter {X : Cxt} (hX : okX X cX9_isVoter RX9 rm_X9_isVoter (some .boolean) 2) (M : Mem) (v0 : Nat) (v1 : Int32) : Zj X (fun o : Int32 => Qr X rm_X9_isVoter.cells rm_X9_isVoter.slots (some (.int o)) M) 0 0 0 [(0, .ref v0), (1, .int v1)] [] M (f_X9_isVoter M v0 v1) := by
  unfold f_X9_isVoter
  refine z_iload_n hX 1 rfl rfl dX9_isVoter_0 ?_
  refine z_iconst (v := 0) hX (by decide) dX9_isVoter_1 ?_
  refine z_aload_n hX 0 rfl rfl dX9_isVoter_2 ?_
  refine z_gFI 9 7 hX (by decide) rfl (by decide) rfl q_1318 dX9_isVoter_3 (fun x1 => ?_)
  refine z_iconst (v := 1) hX (by decide) dX9_isVoter_6 ?_
  refine z_isub hX dX9_isVoter_7 ?_
  refine z_cSIp [.int v1, .int 0, .int (x1 - 1)] hX (fun l hl o ho => c_X9_inRange l hl M v1 0 (x1 - 1) o ho) dX9_isVoter_8 q_1467 okS_X9_inRange rfl ⟨(Nat.le_of_ble_eq_true rfl), (Nat.le_of_ble_eq_true rfl)⟩ rfl (Nat.le_of_ble_eq_true rfl) rfl rfl ⟨(Nat.le_of_ble_eq_true rfl), (Nat.le_of_ble_eq_true rfl)⟩ (fun o2 => ?_)
  exact z_zretP hX dX9_isVoter_11 (Nat.le_of_ble_eq_true rfl) (Nat.le_of_ble_eq_true rfl)
theorem c_X9_isVoter (l : Launch) (hl : l.stackTraces = false) (M : Mem) (v0 : Nat) (v1 : Int32) (o : Int32) (ho : f_X9_isVoter M v0 v1 = some o) : Ct l yX9_isVoter cX9_isVoter 2 (some .boolean) rm_X9_isVoter [.ref v0, .int v1] M (some (.int o)) M :=
  Ct.of hl (by decide +kernel) (Nat.le_of_ble_eq_true rfl) rfl (fun X hX hin => z_X9_isVoter hX M v0 v1 o ho)
theorem okV_X9_isVoter : okV yX9_isVoter cX9_isVoter 2 (some .boolean) 1 := ⟨q_1609, q_46, q_96, q_1610, by unfold okY; decide +kernel⟩
/-! ParticipatoryBudgetModel.districtCount()I -/
abbrev rm_X9_districtCount : Room := { frames := 0, cells := 0, slots := 0, locals := 0 }
set_option maxRecDepth 20000 in
set_option maxHeartbeats 4000000 in
theorem z_X9_districtCount {X : Cxt} (hX : okX X cX9_districtCount RX9 rm_X9_districtCount (some .int) 1) (M : Mem) (v0 : Nat) : Zj X (fun o : Int32 × Mem => Qr X rm_X9_districtCount.cells rm_X9_districtCount.slots (some (.int o.1)) o.2) 0 0 0 [(0, .ref v0)] [] M (f_X9_districtCount M v0) := by
  unfold f_X9_districtCount
  refine z_aload_n hX 0 rfl rfl dX9_districtCount_0 ?_
  refine z_iconst (v := 0) hX (by decide) dX9_districtCount_1 ?_
  refine z_pFI 9 4 hX (by decide) rfl (by decide) rfl q_1315 rfl pd_1 rfl rfl dX9_districtCount_2 (fun M1 => ?_)
  refine z_aload_n hX 0 rfl rfl dX9_districtCount_5 ?_
  refine z_gFI 9 5 hX (by decide) rfl (by decide) rfl q_1316 dX9_districtCount_6 (fun x2 => ?_)
  exact z_iretM hX dX9_districtCount_9 (Nat.le_of_ble_eq_true rfl) (Nat.le_of_ble_eq_true rfl)
theorem c_X9_districtCount (l : Launch) (hl : l.stackTraces = false) (M : Mem) (v0 : Nat) (o : Int32 × Mem) (ho : f_X9_districtCount M v0 = some o) : Ct l yX9_districtCount cX9_districtCount 1 (some .int) rm_X9_districtCount [.ref v0] M (some (.int o.1)) o.2 :=
  Ct.of hl (by decide +kernel) (Nat.le_of_ble_eq_true rfl) rfl (fun X hX hin => z_X9_districtCount hX M v0 o ho)
theorem okV_X9_districtCount : okV yX9_districtCount cX9_districtCount 1 (some .int) 0 := ⟨q_1560, q_1561, q_96, q_1562, by unfold okY; decide +kernel⟩
/-! ParticipatoryBudgetModel.projectCount()I -/
abbrev rm_X9_projectCount : Room := { frames := 0, cells := 0, slots := 0, locals := 0 }
set_option maxRecDepth 20000 in
set_option maxHeartbeats 4000000 in
theorem z_X9_projectCount {X : Cxt} (hX : okX X cX9_projectCount RX9 rm_X9_projectCount (some .int) 1) (M : Mem) (v0 : Nat) : Zj X (fun o : Int32 × Mem => Qr X rm_X9_projectCount.cells rm_X9_projectCount.slots (some (.int o.1)) o.2) 0 0 0 [(0, .ref v0)] [] M (f_X9_projectCount M v0) := by
  unfold f_X9_projectCount
  refine z_aload_n hX 0 rfl rfl dX9_projectCount_0 ?_
  refine z_iconst (v := 0) hX (by decide) dX9_projectCount_1 ?_
  refine z_pFI 9 4 hX (by decide) rfl (by decide) rfl q_1315 rfl pd_1 rfl rfl dX9_projectCount_2 (fun M1 => ?_)
  refine z_aload_n hX 0 rfl rfl dX9_projectCount_5 ?_
  refine z_gFI 9 6 hX (by decide) rfl (by decide) rfl q_1317 dX9_projectCount_6 (fun x2 => ?_)
  exact z_iretM hX dX9_projectCount_9 (Nat.le_of_ble_eq_true rfl) (Nat.le_of_ble_eq_true rfl)
theorem c_X9_projectCount (l : Launch) (hl : l.stackTraces = false) (M : Mem) (v0 : Nat) (o : Int32 × Mem) (ho : f_X9_projectCount M v0 = some o) : Ct l yX9_projectCount cX9_projectCount 1 (some .int) rm_X9_projectCount [.ref v0] M (some (.int o.1)) o.2 :=
  Ct.of hl (by decide +kernel) (Nat.le_of_ble_eq_true rfl) rfl (fun X hX hin => z_X9_projectCount hX M v0 o ho)
theorem okV_X9_projectCount : okV yX9_projectCount cX9_projectCount 1 (some .int) 0 := ⟨q_1564, q_1565, q_96, q_1566, by unfold okY; decide +kernel⟩
/-! ParticipatoryBudgetModel.voterCount()I -/
abbrev rm_X9_voterCount : Room := { frames := 0, cells := 0, slots := 0, locals := 0 }
set_option maxRecDepth 20000 in
set_option maxHeartbeats 4000000 in
theorem z_X9_voterCount {X : Cxt} (hX : okX X cX9_voterCount RX9 rm_X9_voterCount (some .int) 1) (M : Mem) (v0 : Nat) : Zj X (fun o : Int32 × Mem => Qr X rm_X9_voterCount.cells rm_X9_voterCount.slots (some (.int o.1)) o.2) 0 0 0 [(0, .ref v0)] [] M (f_X9_voterCount M v0) := by
  unfold f_X9_voterCount
  refine z_aload_n hX 0 rfl rfl dX9_voterCount_0 ?_
  refine z_iconst (v := 0) hX (by decide) dX9_voterCount_1 ?_
  refine z_pFI 9 4 hX (by decide) rfl (by decide) rfl q_1315 rfl pd_1 rfl rfl dX9_voterCount_2 (fun M1 => ?_)
  refine z_aload_n hX 0 rfl rfl dX9_voterCount_5 ?_
  refine z_gFI 9 7 hX (by decide) rfl (by decide) rfl q_1318 dX9_voterCount_6 (fun x2 => ?_)
  exact z_iretM hX dX9_voterCount_9 (Nat.le_of_ble_eq_true rfl) (Nat.le_of_ble_eq_true rfl)
theorem c_X9_voterCount (l : Launch) (hl : l.stackTraces = false) (M : Mem) (v0 : Nat) (o : Int32 × Mem) (ho : f_X9_voterCount M v0 = some o) : Ct l yX9_voterCount cX9_voterCount 1 (some .int) rm_X9_voterCount [.ref v0] M (some (.int o.1)) o.2 :=
  Ct.of hl (by decide +kernel) (Nat.le_of_ble_eq_true rfl) rfl (fun X hX hin => z_X9_voterCount hX M v0 o ho)
theorem okV_X9_voterCount : okV yX9_voterCount cX9_voterCount 1 (some .int) 0 := ⟨q_1568, q_1569, q_96, q_1570, by unfold okY; decide +kernel⟩
/-! ParticipatoryBudgetModel.districtNamed(I)I -/
abbrev rm_X9_districtNamed : Room := { frames := 1, cells := 0, slots := 0, locals := 23 }
set_option maxRecDepth 20000 in
set_option maxHeartbeats 4000000 in
theorem z_X9_districtNamed {X : Cxt} (hX : okX X cX9_districtNamed RX9 rm_X9_districtNamed (some .int) 2) (M : Mem) (v0 : Nat) (v1 : Int32) : Zj X (fun o : Int32 × Mem => Qr X rm_X9_districtNamed.cells rm_X9_districtNamed.slots (some (.int o.1)) o.2) 0 0 0 [(0, .ref v0), (1, .int v1)] [] M (f_X9_districtNamed M v0 v1) := by
  unfold f_X9_districtNamed
  refine z_aload_n hX 0 rfl rfl dX9_districtNamed_0 ?_
  refine z_iconst (v := 0) hX (by decide) dX9_districtNamed_1 ?_
  refine z_pFI 9 4 hX (by decide) rfl (by decide) rfl q_1315 rfl pd_1 rfl rfl dX9_districtNamed_2 (fun M1 => ?_)
  refine z_aload_n hX 0 rfl rfl dX9_districtNamed_5 ?_
  refine z_gFR 9 8 hX (by decide) rfl (by decide) rfl q_1319 dX9_districtNamed_6 (fun r2 => ?_)
  refine z_aload_n hX 0 rfl rfl dX9_districtNamed_9 ?_
  refine z_gFI 9 5 hX (by decide) rfl (by decide) rfl q_1316 dX9_districtNamed_10 (fun x3 => ?_)
  refine z_iload_n hX 1 rfl rfl dX9_districtNamed_13 ?_
  refine z_cSIp [.ref r2, .int x3, .int v1] hX (fun l hl o ho => c_X9_indexOf l hl M1 r2 x3 v1 o ho) dX9_districtNamed_14 q_1520 okS_X9_indexOf rfl ⟨(Nat.le_of_ble_eq_true rfl), (Nat.le_of_ble_eq_true rfl)⟩ rfl (Nat.le_of_ble_eq_true rfl) rfl rfl ⟨(Nat.le_of_ble_eq_true rfl), (Nat.le_of_ble_eq_true rfl)⟩ (fun o4 => ?_)
  exact z_iretM hX dX9_districtNamed_17 (Nat.le_of_ble_eq_true rfl) (Nat.le_of_ble_eq_true rfl)
theorem c_X9_districtNamed (l : Launch) (hl : l.stackTraces = false) (M : Mem) (v0 : Nat) (v1 : Int32) (o : Int32 × Mem) (ho : f_X9_districtNamed M v0 v1 = some o) : Ct l yX9_districtNamed cX9_districtNamed 2 (some .int) rm_X9_districtNamed [.ref v0, .int v1] M (some (.int o.1)) o.2 :=
  Ct.of hl (by decide +kernel) (Nat.le_of_ble_eq_true rfl) rfl (fun X hX hin => z_X9_districtNamed hX M v0 v1 o ho)
theorem okV_X9_districtNamed : okV yX9_districtNamed cX9_districtNamed 2 (some .int) 1 := ⟨q_1572, q_1573, q_96, q_1574, by unfold okY; decide +kernel⟩
/-! ParticipatoryBudgetModel.projectNamed(I)I -/
abbrev rm_X9_projectNamed : Room := { frames := 1, cells := 0, slots := 0, locals := 23 }
set_option maxRecDepth 20000 in
set_option maxHeartbeats 4000000 in
theorem z_X9_projectNamed {X : Cxt} (hX : okX X cX9_projectNamed RX9 rm_X9_projectNamed (some .int) 2) (M : Mem) (v0 : Nat) (v1 : Int32) : Zj X (fun o : Int32 × Mem => Qr X rm_X9_projectNamed.cells rm_X9_projectNamed.slots (some (.int o.1)) o.2) 0 0 0 [(0, .ref v0), (1, .int v1)] [] M (f_X9_projectNamed M v0 v1) := by
  unfold f_X9_projectNamed
  refine z_aload_n hX 0 rfl rfl dX9_projectNamed_0 ?_
  refine z_iconst (v := 0) hX (by decide) dX9_projectNamed_1 ?_
  refine z_pFI 9 4 hX (by decide) rfl (by decide) rfl q_1315 rfl pd_1 rfl rfl dX9_projectNamed_2 (fun M1 => ?_)
  refine z_aload_n hX 0 rfl rfl dX9_projectNamed_5 ?_
  refine z_gFR 9 9 hX (by decide) rfl (by decide) rfl q_1320 dX9_projectNamed_6 (fun r2 => ?_)
  refine z_aload_n hX 0 rfl rfl dX9_projectNamed_9 ?_
  refine z_gFI 9 6 hX (by decide) rfl (by decide) rfl q_1317 dX9_projectNamed_10 (fun x3 => ?_)
  refine z_iload_n hX 1 rfl rfl dX9_projectNamed_13 ?_
  refine z_cSIp [.ref r2, .int x3, .int v1] hX (fun l hl o ho => c_X9_indexOf l hl M1 r2 x3 v1 o ho) dX9_projectNamed_14 q_1520 okS_X9_indexOf rfl ⟨(Nat.le_of_ble_eq_true rfl), (Nat.le_of_ble_eq_true rfl)⟩ rfl (Nat.le_of_ble_eq_true rfl) rfl rfl ⟨(Nat.le_of_ble_eq_true rfl), (Nat.le_of_ble_eq_true rfl)⟩ (fun o4 => ?_)
  exact z_iretM hX dX9_projectNamed_17 (Nat.le_of_ble_eq_true rfl) (Nat.le_of_ble_eq_true rfl)
theorem c_X9_projectNamed (l : Launch) (hl : l.stackTraces = false) (M : Mem) (v0 : Nat) (v1 : Int32) (o : Int32 × Mem) (ho : f_X9_projectNamed M v0 v1 = some o) : Ct l yX9_projectNamed cX9_projectNamed 2 (some .int) rm_X9_projectNamed [.ref v0, .int v1] M (some (.int o.1)) o.2 :=
  Ct.of hl (by decide +kernel) (Nat.le_of_ble_eq_true rfl) rfl (fun X hX hin => z_X9_projectNamed hX M v0 v1 o ho)
theorem okV_X9_projectNamed : okV yX9_projectNamed cX9_projectNamed 2 (some .int) 1 := ⟨q_1576, q_1577, q_96, q_1578, by unfold okY; decide +kernel⟩
/-! ParticipatoryBudgetModel.budgetOf(I)I -/
abbrev rm_X9_budgetOf : Room := { frames := 2, cells := 0, slots := 0, locals := 43 }
set_option maxRecDepth 20000 in
set_option maxHeartbeats 4000000 in
theorem z_X9_budgetOf {X : Cxt} (hX : okX X cX9_budgetOf RX9 rm_X9_budgetOf (some .int) 2) (M : Mem) (v0 : Nat) (v1 : Int32) : Zj X (fun o : Int32 × Mem => Qr X rm_X9_budgetOf.cells rm_X9_budgetOf.slots (some (.int o.1)) o.2) 0 0 0 [(0, .ref v0), (1, .int v1)] [] M (f_X9_budgetOf M v0 v1) := by
  unfold f_X9_budgetOf
  refine z_aload_n hX 0 rfl rfl dX9_budgetOf_0 ?_
  refine z_aload_n hX 0 rfl rfl dX9_budgetOf_1 ?_
  refine z_iload_n hX 1 rfl rfl dX9_budgetOf_2 ?_
  refine z_cVIp 9 [.int v1] hX (fun l hl o ho => c_X9_isDistrict l hl M v0 v1 o ho) dX9_budgetOf_3 (by decide) rfl rfl q_1583 okV_X9_isDistrict rfl ⟨(Nat.le_of_ble_eq_true rfl), (Nat.le_of_ble_eq_true rfl)⟩ rfl (Nat.le_of_ble_eq_true rfl) rfl rfl ⟨(Nat.le_of_ble_eq_true rfl), (Nat.le_of_ble_eq_true rfl)⟩ (fun o1 => ?_)
  refine z_cVIm 9 [.int o1] hX (fun l hl o ho => c_X9_fails l hl M v0 o1 o ho) dX9_budgetOf_6 (by decide) rfl rfl q_1587 okV_X9_fails rfl ⟨(Nat.le_of_ble_eq_true rfl), (Nat.le_of_ble_eq_true rfl)⟩ rfl (Nat.le_of_ble_eq_true rfl) rfl rfl ⟨(Nat.le_of_ble_eq_true rfl), (Nat.le_of_ble_eq_true rfl)⟩ (fun o2 => ?_)
  refine z_jn (C' := 0) (S' := 0) 24 (fun (j3 : Int32) => []) (fun (j3 : Int32) => [.int j3]) (fun (j3 : Int32) => o2.2) (fun j3 => ?_) (fun kj3 => ?_)
  · exact z_iretM hX dX9_budgetOf_24 (Nat.le_of_ble_eq_true rfl) (Nat.le_of_ble_eq_true rfl)
  · refine z_iteB ?_
    refine z_if_eq hX 16 (by decide) dX9_budgetOf_9 (fun _ => ?_) (fun _ => ?_)
    · refine z_aload_n hX 0 rfl rfl dX9_budgetOf_16 ?_
      refine z_asc ?_
      refine z_gFR 9 0 hX (by decide) rfl (by decide) rfl q_1311 dX9_budgetOf_17 (fun r4 => ?_)
      refine z_iconst (v := 4) hX (by decide) dX9_budgetOf_20 ?_
      refine z_iload_n hX 1 rfl rfl dX9_budgetOf_21 ?_
      refine z_iadd hX dX9_budgetOf_22 ?_
      refine z_asc ?_
      refine z_aI hX dX9_budgetOf_23 (fun x5 => ?_)
      refine z_pure ?_
      refine z_sub [] rfl ?_
      exact kj3 x5
    · refine z_iconst (v := 0) hX (by decide) dX9_budgetOf_12 ?_
      refine z_goto hX 24 (by decide) dX9_budgetOf_13 ?_
      refine z_pure ?_
      refine z_sub [] rfl ?_
      exact kj3 0
theorem c_X9_budgetOf (l : Launch) (hl : l.stackTraces = false) (M : Mem) (v0 : Nat) (v1 : Int32) (o : Int32 × Mem) (ho : f_X9_budgetOf M v0 v1 = some o) : Ct l yX9_budgetOf cX9_budgetOf 2 (some .int) rm_X9_budgetOf [.ref v0, .int v1] M (some (.int o.1)) o.2 :=
  Ct.of hl (by decide +kernel) (Nat.le_of_ble_eq_true rfl) rfl (fun X hX hin => z_X9_budgetOf hX M v0 v1 o ho)
theorem okV_X9_budgetOf : okV yX9_budgetOf cX9_budgetOf 2 (some .int) 1 := ⟨q_1580, q_1581, q_96, q_1582, by unfold okY; decide +kernel⟩
/-! ParticipatoryBudgetModel.costOf(I)I -/
abbrev rm_X9_costOf : Room := { frames := 2, cells := 0, slots := 0, locals := 43 }
set_option maxRecDepth 20000 in
set_option maxHeartbeats 4000000 in
theorem z_X9_costOf {X : Cxt} (hX : okX X cX9_costOf RX9 rm_X9_costOf (some .int) 2) (M : Mem) (v0 : Nat) (v1 : Int32) : Zj X (fun o : Int32 × Mem => Qr X rm_X9_costOf.cells rm_X9_costOf.slots (some (.int o.1)) o.2) 0 0 0 [(0, .ref v0), (1, .int v1)] [] M (f_X9_costOf M v0 v1) := by
  unfold f_X9_costOf
  refine z_aload_n hX 0 rfl rfl dX9_costOf_0 ?_
  refine z_aload_n hX 0 rfl rfl dX9_costOf_1 ?_
  refine z_iload_n hX 1 rfl rfl dX9_costOf_2 ?_
  refine z_cVIp 9 [.int v1] hX (fun l hl o ho => c_X9_isProject l hl M v0 v1 o ho) dX9_costOf_3 (by decide) rfl rfl q_1595 okV_X9_isProject rfl ⟨(Nat.le_of_ble_eq_true rfl), (Nat.le_of_ble_eq_true rfl)⟩ rfl (Nat.le_of_ble_eq_true rfl) rfl rfl ⟨(Nat.le_of_ble_eq_true rfl), (Nat.le_of_ble_eq_true rfl)⟩ (fun o1 => ?_)
  refine z_cVIm 9 [.int o1] hX (fun l hl o ho => c_X9_fails l hl M v0 o1 o ho) dX9_costOf_6 (by decide) rfl rfl q_1587 okV_X9_fails rfl ⟨(Nat.le_of_ble_eq_true rfl), (Nat.le_of_ble_eq_true rfl)⟩ rfl (Nat.le_of_ble_eq_true rfl) rfl rfl ⟨(Nat.le_of_ble_eq_true rfl), (Nat.le_of_ble_eq_true rfl)⟩ (fun o2 => ?_)
  refine z_jn (C' := 0) (S' := 0) 25 (fun (j3 : Int32) => []) (fun (j3 : Int32) => [.int j3]) (fun (j3 : Int32) => o2.2) (fun j3 => ?_) (fun kj3 => ?_)
  · exact z_iretM hX dX9_costOf_25 (Nat.le_of_ble_eq_true rfl) (Nat.le_of_ble_eq_true rfl)
  · refine z_iteB ?_
    refine z_if_eq hX 16 (by decide) dX9_costOf_9 (fun _ => ?_) (fun _ => ?_)
    · refine z_aload_n hX 0 rfl rfl dX9_costOf_16 ?_
      refine z_asc ?_
      refine z_gFR 9 0 hX (by decide) rfl (by decide) rfl q_1311 dX9_costOf_17 (fun r4 => ?_)
      refine z_bipush (v := 8) hX (by decide) dX9_costOf_20 ?_
      refine z_iload_n hX 1 rfl rfl dX9_costOf_22 ?_
      refine z_iadd hX dX9_costOf_23 ?_
      refine z_asc ?_
      refine z_aI hX dX9_costOf_24 (fun x5 => ?_)
      refine z_pure ?_
      refine z_sub [] rfl ?_
      exact kj3 x5
    · refine z_iconst (v := 0) hX (by decide) dX9_costOf_12 ?_
      refine z_goto hX 25 (by decide) dX9_costOf_13 ?_
      refine z_pure ?_
      refine z_sub [] rfl ?_
      exact kj3 0
theorem c_X9_costOf (l : Launch) (hl : l.stackTraces = false) (M : Mem) (v0 : Nat) (v1 : Int32) (o : Int32 × Mem) (ho : f_X9_costOf M v0 v1 = some o) : Ct l yX9_costOf cX9_costOf 2 (some .int) rm_X9_costOf [.ref v0, .int v1] M (some (.int o.1)) o.2 :=
  Ct.of hl (by decide +kernel) (Nat.le_of_ble_eq_true rfl) rfl (fun X hX hin => z_X9_costOf hX M v0 v1 o ho)
theorem okV_X9_costOf : okV yX9_costOf cX9_costOf 2 (some .int) 1 := ⟨q_1592, q_1593, q_96, q_1594, by unfold okY; decide +kernel⟩
/-! ParticipatoryBudgetModel.districtsOf(I)I -/
abbrev rm_X9_districtsOf : Room := { frames := 2, cells := 0, slots := 0, locals := 43 }
set_option maxRecDepth 20000 in
set_option maxHeartbeats 4000000 in
theorem z_X9_districtsOf {X : Cxt} (hX : okX X cX9_districtsOf RX9 rm_X9_districtsOf (some .int) 2) (M : Mem) (v0 : Nat) (v1 : Int32) : Zj X (fun o : Int32 × Mem => Qr X rm_X9_districtsOf.cells rm_X9_districtsOf.slots (some (.int o.1)) o.2) 0 0 0 [(0, .ref v0), (1, .int v1)] [] M (f_X9_districtsOf M v0 v1) := by
  unfold f_X9_districtsOf
  refine z_aload_n hX 0 rfl rfl dX9_districtsOf_0 ?_
  refine z_aload_n hX 0 rfl rfl dX9_districtsOf_1 ?_
  refine z_iload_n hX 1 rfl rfl dX9_districtsOf_2 ?_
  refine z_cVIp 9 [.int v1] hX (fun l hl o ho => c_X9_isProject l hl M v0 v1 o ho) dX9_districtsOf_3 (by decide) rfl rfl q_1595 okV_X9_isProject rfl ⟨(Nat.le_of_ble_eq_true rfl), (Nat.le_of_ble_eq_true rfl)⟩ rfl (Nat.le_of_ble_eq_true rfl) rfl rfl ⟨(Nat.le_of_ble_eq_true rfl), (Nat.le_of_ble_eq_true rfl)⟩ (fun o1 => ?_)
  refine z_cVIm 9 [.int o1] hX (fun l hl o ho => c_X9_fails l hl M v0 o1 o ho) dX9_districtsOf_6 (by decide) rfl rfl q_1587 okV_X9_fails rfl ⟨(Nat.le_of_ble_eq_true rfl), (Nat.le_of_ble_eq_true rfl)⟩ rfl (Nat.le_of_ble_eq_true rfl) rfl rfl ⟨(Nat.le_of_ble_eq_true rfl), (Nat.le_of_ble_eq_true rfl)⟩ (fun o2 => ?_)
  refine z_jn (C' := 0) (S' := 0) 22 (fun (j3 : Int32) => []) (fun (j3 : Int32) => [.int j3]) (fun (j3 : Int32) => o2.2) (fun j3 => ?_) (fun kj3 => ?_)
  · exact z_iretM hX dX9_districtsOf_22 (Nat.le_of_ble_eq_true rfl) (Nat.le_of_ble_eq_true rfl)
  · refine z_iteB ?_
    refine z_if_eq hX 16 (by decide) dX9_districtsOf_9 (fun _ => ?_) (fun _ => ?_)
    · refine z_aload_n hX 0 rfl rfl dX9_districtsOf_16 ?_
      refine z_asc ?_
      refine z_gFR 9 10 hX (by decide) rfl (by decide) rfl q_1321 dX9_districtsOf_17 (fun r4 => ?_)
      refine z_iload_n hX 1 rfl rfl dX9_districtsOf_20 ?_
      refine z_asc ?_
      refine z_aI hX dX9_districtsOf_21 (fun x5 => ?_)
      refine z_pure ?_
      refine z_sub [] rfl ?_
      exact kj3 x5
    · refine z_iconst (v := 0) hX (by decide) dX9_districtsOf_12 ?_
      refine z_goto hX 22 (by decide) dX9_districtsOf_13 ?_
      refine z_pure ?_
      refine z_sub [] rfl ?_
      exact kj3 0
theorem c_X9_districtsOf (l : Launch) (hl : l.stackTraces = false) (M : Mem) (v0 : Nat) (v1 : Int32) (o : Int32 × Mem) (ho : f_X9_districtsOf M v0 v1 = some o) : Ct l yX9_districtsOf cX9_districtsOf 2 (some .int) rm_X9_districtsOf [.ref v0, .int v1] M (some (.int o.1)) o.2 :=
  Ct.of hl (by decide +kernel) (Nat.le_of_ble_eq_true rfl) rfl (fun X hX hin => z_X9_districtsOf hX M v0 v1 o ho)
theorem okV_X9_districtsOf : okV yX9_districtsOf cX9_districtsOf 2 (some .int) 1 := ⟨q_1600, q_1601, q_96, q_1602, by unfold okY; decide +kernel⟩
/-! ParticipatoryBudgetModel.memberships(I)I -/
abbrev rm_X9_memberships : Room := { frames := 2, cells := 0, slots := 0, locals := 43 }
set_option maxRecDepth 20000 in
set_option maxHeartbeats 4000000 in
theorem z_X9_memberships {X : Cxt} (hX : okX X cX9_memberships RX9 rm_X9_memberships (some .int) 2) (M : Mem) (v0 : Nat) (v1 : Int32) : Zj X (fun o : Int32 × Mem => Qr X rm_X9_memberships.cells rm_X9_memberships.slots (some (.int o.1)) o.2) 0 0 0 [(0, .ref v0), (1, .int v1)] [] M (f_X9_memberships M v0 v1) := by
  unfold f_X9_memberships
  refine z_aload_n hX 0 rfl rfl dX9_memberships_0 ?_
  refine z_aload_n hX 0 rfl rfl dX9_memberships_1 ?_
  refine z_iload_n hX 1 rfl rfl dX9_memberships_2 ?_
  refine z_cVIp 9 [.int v1] hX (fun l hl o ho => c_X9_isVoter l hl M v0 v1 o ho) dX9_memberships_3 (by decide) rfl rfl q_1607 okV_X9_isVoter rfl ⟨(Nat.le_of_ble_eq_true rfl), (Nat.le_of_ble_eq_true rfl)⟩ rfl (Nat.le_of_ble_eq_true rfl) rfl rfl ⟨(Nat.le_of_ble_eq_true rfl), (Nat.le_of_ble_eq_true rfl)⟩ (fun o1 => ?_)
  refine z_cVIm 9 [.int o1] hX (fun l hl o ho => c_X9_fails l hl M v0 o1 o ho) dX9_memberships_6 (by decide) rfl rfl q_1587 okV_X9_fails rfl ⟨(Nat.le_of_ble_eq_true rfl), (Nat.le_of_ble_eq_true rfl)⟩ rfl (Nat.le_of_ble_eq_true rfl) rfl rfl ⟨(Nat.le_of_ble_eq_true rfl), (Nat.le_of_ble_eq_true rfl)⟩ (fun o2 => ?_)
  refine z_jn (C' := 0) (S' := 0) 25 (fun (j3 : Int32) => []) (fun (j3 : Int32) => [.int j3]) (fun (j3 : Int32) => o2.2) (fun j3 => ?_) (fun kj3 => ?_)
  · exact z_iretM hX dX9_memberships_25 (Nat.le_of_ble_eq_true rfl) (Nat.le_of_ble_eq_true rfl)
  · refine z_iteB ?_
    refine z_if_eq hX 16 (by decide) dX9_memberships_9 (fun _ => ?_) (fun _ => ?_)
    · refine z_aload_n hX 0 rfl rfl dX9_memberships_16 ?_
      refine z_asc ?_
      refine z_gFR 9 0 hX (by decide) rfl (by decide) rfl q_1311 dX9_memberships_17 (fun r4 => ?_)
      refine z_bipush (v := 44) hX (by decide) dX9_memberships_20 ?_
      refine z_iload_n hX 1 rfl rfl dX9_memberships_22 ?_
      refine z_iadd hX dX9_memberships_23 ?_
      refine z_asc ?_
      refine z_aI hX dX9_memberships_24 (fun x5 => ?_)
      refine z_pure ?_
      refine z_sub [] rfl ?_
      exact kj3 x5
    · refine z_iconst (v := 0) hX (by decide) dX9_memberships_12 ?_
      refine z_goto hX 25 (by decide) dX9_memberships_13 ?_
      refine z_pure ?_
      refine z_sub [] rfl ?_
      exact kj3 0
theorem c_X9_memberships (l : Launch) (hl : l.stackTraces = false) (M : Mem) (v0 : Nat) (v1 : Int32) (o : Int32 × Mem) (ho : f_X9_memberships M v0 v1 = some o) : Ct l yX9_memberships cX9_memberships 2 (some .int) rm_X9_memberships [.ref v0, .int v1] M (some (.int o.1)) o.2 :=
  Ct.of hl (by decide +kernel) (Nat.le_of_ble_eq_true rfl) rfl (fun X hX hin => z_X9_memberships hX M v0 v1 o ho)
theorem okV_X9_memberships : okV yX9_memberships cX9_memberships 2 (some .int) 1 := ⟨q_1604, q_1605, q_96, q_1606, by unfold okY; decide +kernel⟩
/-! ParticipatoryBudgetModel.approvals(I)I -/
abbrev rm_X9_approvals : Room := { frames := 2, cells := 0, slots := 0, locals := 43 }
set_option maxRecDepth 20000 in
set_option maxHeartbeats 4000000 in
theorem z_X9_approvals {X : Cxt} (hX : okX X cX9_approvals RX9 rm_X9_approvals (some .int) 2) (M : Mem) (v0 : Nat) (v1 : Int32) : Zj X (fun o : Int32 × Mem => Qr X rm_X9_approvals.cells rm_X9_approvals.slots (some (.int o.1)) o.2) 0 0 0 [(0, .ref v0), (1, .int v1)] [] M (f_X9_approvals M v0 v1) := by
  unfold f_X9_approvals
  refine z_aload_n hX 0 rfl rfl dX9_approvals_0 ?_
  refine z_aload_n hX 0 rfl rfl dX9_approvals_1 ?_
  refine z_iload_n hX 1 rfl rfl dX9_approvals_2 ?_
  refine z_cVIp 9 [.int v1] hX (fun l hl o ho => c_X9_isVoter l hl M v0 v1 o ho) dX9_approvals_3 (by decide) rfl rfl q_1607 okV_X9_isVoter rfl ⟨(Nat.le_of_ble_eq_true rfl), (Nat.le_of_ble_eq_true rfl)⟩ rfl (Nat.le_of_ble_eq_true rfl) rfl rfl ⟨(Nat.le_of_ble_eq_true rfl), (Nat.le_of_ble_eq_true rfl)⟩ (fun o1 => ?_)
  refine z_cVIm 9 [.int o1] hX (fun l hl o ho => c_X9_fails l hl M v0 o1 o ho) dX9_approvals_6 (by decide) rfl rfl q_1587 okV_X9_fails rfl ⟨(Nat.le_of_ble_eq_true rfl), (Nat.le_of_ble_eq_true rfl)⟩ rfl (Nat.le_of_ble_eq_true rfl) rfl rfl ⟨(Nat.le_of_ble_eq_true rfl), (Nat.le_of_ble_eq_true rfl)⟩ (fun o2 => ?_)
  refine z_jn (C' := 0) (S' := 0) 25 (fun (j3 : Int32) => []) (fun (j3 : Int32) => [.int j3]) (fun (j3 : Int32) => o2.2) (fun j3 => ?_) (fun kj3 => ?_)
  · exact z_iretM hX dX9_approvals_25 (Nat.le_of_ble_eq_true rfl) (Nat.le_of_ble_eq_true rfl)
  · refine z_iteB ?_
    refine z_if_eq hX 16 (by decide) dX9_approvals_9 (fun _ => ?_) (fun _ => ?_)
    · refine z_aload_n hX 0 rfl rfl dX9_approvals_16 ?_
      refine z_asc ?_
      refine z_gFR 9 0 hX (by decide) rfl (by decide) rfl q_1311 dX9_approvals_17 (fun r4 => ?_)
      refine z_bipush (v := 68) hX (by decide) dX9_approvals_20 ?_
      refine z_iload_n hX 1 rfl rfl dX9_approvals_22 ?_
      refine z_iadd hX dX9_approvals_23 ?_
      refine z_asc ?_
      refine z_aI hX dX9_approvals_24 (fun x5 => ?_)
      refine z_pure ?_
      refine z_sub [] rfl ?_
      exact kj3 x5
    · refine z_iconst (v := 0) hX (by decide) dX9_approvals_12 ?_
      refine z_goto hX 25 (by decide) dX9_approvals_13 ?_
      refine z_pure ?_
      refine z_sub [] rfl ?_
      exact kj3 0
theorem c_X9_approvals (l : Launch) (hl : l.stackTraces = false) (M : Mem) (v0 : Nat) (v1 : Int32) (o : Int32 × Mem) (ho : f_X9_approvals M v0 v1 = some o) : Ct l yX9_approvals cX9_approvals 2 (some .int) rm_X9_approvals [.ref v0, .int v1] M (some (.int o.1)) o.2 :=
  Ct.of hl (by decide +kernel) (Nat.le_of_ble_eq_true rfl) rfl (fun X hX hin => z_X9_approvals hX M v0 v1 o ho)
theorem okV_X9_approvals : okV yX9_approvals cX9_approvals 2 (some .int) 1 := ⟨q_1612, q_1613, q_96, q_1614, by unfold okY; decide +kernel⟩
/-! ParticipatoryBudgetModel.weightOf(I)I -/
abbrev rm_X9_weightOf : Room := { frames := 2, cells := 0, slots := 0, locals := 43 }
set_option maxRecDepth 20000 in
set_option maxHeartbeats 4000000 in
theorem z_X9_weightOf {X : Cxt} (hX : okX X cX9_weightOf RX9 rm_X9_weightOf (some .int) 2) (M : Mem) (v0 : Nat) (v1 : Int32) : Zj X (fun o : Int32 × Mem => Qr X rm_X9_weightOf.cells rm_X9_weightOf.slots (some (.int o.1)) o.2) 0 0 0 [(0, .ref v0), (1, .int v1)] [] M (f_X9_weightOf M v0 v1) := by
  unfold f_X9_weightOf
  refine z_aload_n hX 0 rfl rfl dX9_weightOf_0 ?_
  refine z_aload_n hX 0 rfl rfl dX9_weightOf_1 ?_
  refine z_iload_n hX 1 rfl rfl dX9_weightOf_2 ?_
  refine z_cVIp 9 [.int v1] hX (fun l hl o ho => c_X9_isVoter l hl M v0 v1 o ho) dX9_weightOf_3 (by decide) rfl rfl q_1607 okV_X9_isVoter rfl ⟨(Nat.le_of_ble_eq_true rfl), (Nat.le_of_ble_eq_true rfl)⟩ rfl (Nat.le_of_ble_eq_true rfl) rfl rfl ⟨(Nat.le_of_ble_eq_true rfl), (Nat.le_of_ble_eq_true rfl)⟩ (fun o1 => ?_)
  refine z_cVIm 9 [.int o1] hX (fun l hl o ho => c_X9_fails l hl M v0 o1 o ho) dX9_weightOf_6 (by decide) rfl rfl q_1587 okV_X9_fails rfl ⟨(Nat.le_of_ble_eq_true rfl), (Nat.le_of_ble_eq_true rfl)⟩ rfl (Nat.le_of_ble_eq_true rfl) rfl rfl ⟨(Nat.le_of_ble_eq_true rfl), (Nat.le_of_ble_eq_true rfl)⟩ (fun o2 => ?_)
  refine z_jn (C' := 0) (S' := 0) 25 (fun (j3 : Int32) => []) (fun (j3 : Int32) => [.int j3]) (fun (j3 : Int32) => o2.2) (fun j3 => ?_) (fun kj3 => ?_)
  · exact z_iretM hX dX9_weightOf_25 (Nat.le_of_ble_eq_true rfl) (Nat.le_of_ble_eq_true rfl)
  · refine z_iteB ?_
    refine z_if_eq hX 16 (by decide) dX9_weightOf_9 (fun _ => ?_) (fun _ => ?_)
    · refine z_aload_n hX 0 rfl rfl dX9_weightOf_16 ?_
      refine z_asc ?_
      refine z_gFR 9 0 hX (by decide) rfl (by decide) rfl q_1311 dX9_weightOf_17 (fun r4 => ?_)
      refine z_bipush (v := 20) hX (by decide) dX9_weightOf_20 ?_
      refine z_iload_n hX 1 rfl rfl dX9_weightOf_22 ?_
      refine z_iadd hX dX9_weightOf_23 ?_
      refine z_asc ?_
      refine z_aI hX dX9_weightOf_24 (fun x5 => ?_)
      refine z_pure ?_
      refine z_sub [] rfl ?_
      exact kj3 x5
    · refine z_iconst (v := 0) hX (by decide) dX9_weightOf_12 ?_
      refine z_goto hX 25 (by decide) dX9_weightOf_13 ?_
      refine z_pure ?_
      refine z_sub [] rfl ?_
      exact kj3 0
theorem c_X9_weightOf (l : Launch) (hl : l.stackTraces = false) (M : Mem) (v0 : Nat) (v1 : Int32) (o : Int32 × Mem) (ho : f_X9_weightOf M v0 v1 = some o) : Ct l yX9_weightOf cX9_weightOf 2 (some .int) rm_X9_weightOf [.ref v0, .int v1] M (some (.int o.1)) o.2 :=
  Ct.of hl (by decide +kernel) (Nat.le_of_ble_eq_true rfl) rfl (fun X hX hin => z_X9_weightOf hX M v0 v1 o ho)
theorem okV_X9_weightOf : okV yX9_weightOf cX9_weightOf 2 (some .int) 1 := ⟨q_1616, q_1617, q_96, q_1618, by unfold okY; decide +kernel⟩
/-! ParticipatoryBudgetModel.getSetting(I)I -/
abbrev rm_X9_getSetting : Room := { frames := 1, cells := 0, slots := 0, locals := 22 }
set_option maxRecDepth 20000 in
set_option maxHeartbeats 4000000 in
theorem z_X9_getSetting {X : Cxt} (hX : okX X cX9_getSetting RX9 rm_X9_getSetting (some .int) 2) (M : Mem) (v0 : Nat) (v1 : Int32) : Zj X (fun o : Int32 × Mem => Qr X rm_X9_getSetting.cells rm_X9_getSetting.slots (some (.int o.1)) o.2) 0 0 0 [(0, .ref v0), (1, .int v1)] [] M (f_X9_getSetting M v0 v1) := by
  unfold f_X9_getSetting
  refine z_aload_n hX 0 rfl rfl dX9_getSetting_0 ?_
  refine z_iconst (v := 0) hX (by decide) dX9_getSetting_1 ?_
  refine z_pFI 9 4 hX (by decide) rfl (by decide) rfl q_1315 rfl pd_1 rfl rfl dX9_getSetting_2 (fun M1 => ?_)
  refine z_iload_n hX 1 rfl rfl dX9_getSetting_5 ?_
  refine z_iconst (v := 0) hX (by decide) dX9_getSetting_6 ?_
  refine z_iconst (v := 3) hX (by decide) dX9_getSetting_7 ?_
  refine z_cSIp [.int v1, .int 0, .int 3] hX (fun l hl o ho => c_X9_inRange l hl M1 v1 0 3 o ho) dX9_getSetting_8 q_1467 okS_X9_inRange rfl ⟨(Nat.le_of_ble_eq_true rfl), (Nat.le_of_ble_eq_true rfl)⟩ rfl (Nat.le_of_ble_eq_true rfl) rfl rfl ⟨(Nat.le_of_ble_eq_true rfl), (Nat.le_of_ble_eq_true rfl)⟩ (fun o2 => ?_)
  refine z_jn (C' := 0) (S' := 0) 25 (fun (j3 : Int32) => []) (fun (j3 : Int32) => [.int j3]) (fun (j3 : Int32) => M1) (fun j3 => ?_) (fun kj3 => ?_)
  · exact z_iretM hX dX9_getSetting_25 (Nat.le_of_ble_eq_true rfl) (Nat.le_of_ble_eq_true rfl)
  · refine z_iteB ?_
    refine z_if_eq hX 23 (by decide) dX9_getSetting_11 (fun _ => ?_) (fun _ => ?_)
    · refine z_bipush (v := (-2)) hX (by decide) dX9_getSetting_23 ?_
      refine z_pure ?_
      refine z_sub [] rfl ?_
      exact kj3 (-2)
    · refine z_aload_n hX 0 rfl rfl dX9_getSetting_14 ?_
      refine z_asc ?_
      refine z_gFR 9 0 hX (by decide) rfl (by decide) rfl q_1311 dX9_getSetting_15 (fun r4 => ?_)
      refine z_iload_n hX 1 rfl rfl dX9_getSetting_18 ?_
      refine z_asc ?_
      refine z_aI hX dX9_getSetting_19 (fun x5 => ?_)
      refine z_goto hX 25 (by decide) dX9_getSetting_20 ?_
      refine z_pure ?_
      refine z_sub [] rfl ?_
      exact kj3 x5
theorem c_X9_getSetting (l : Launch) (hl : l.stackTraces = false) (M : Mem) (v0 : Nat) (v1 : Int32) (o : Int32 × Mem) (ho : f_X9_getSetting M v0 v1 = some o) : Ct l yX9_getSetting cX9_getSetting 2 (some .int) rm_X9_getSetting [.ref v0, .int v1] M (some (.int o.1)) o.2 :=
  Ct.of hl (by decide +kernel) (Nat.le_of_ble_eq_true rfl) rfl (fun X hX hin => z_X9_getSetting hX M v0 v1 o ho)
theorem okV_X9_getSetting : okV yX9_getSetting cX9_getSetting 2 (some .int) 1 := ⟨q_1620, q_1621, q_96, q_1622, by unfold okY; decide +kernel⟩
/-! ParticipatoryBudgetModel.supports(II)Z -/
abbrev rm_X9_supports : Room := { frames := 1, cells := 0, slots := 0, locals := 21 }
set_option maxRecDepth 20000 in
set_option maxHeartbeats 4000000 in
theorem z_X9_supports {X : Cxt} (hX : okX X cX9_supports RX9 rm_X9_supports (some .boolean) 3) (M : Mem) (v0 : Nat) (v1 : Int32) (v2 : Int32) : Zj X (fun o : Int32 => Qr X rm_X9_supports.cells rm_X9_supports.slots (some (.int o)) M) 0 0 0 [(0, .ref v0), (1, .int v1), (2, .int v2)] [] M (f_X9_supports M v0 v1 v2) := by
  unfold f_X9_supports
  refine z_aload_n hX 0 rfl rfl dX9_supports_0 ?_
  refine z_gFR 9 0 hX (by decide) rfl (by decide) rfl q_1311 dX9_supports_1 (fun r1 => ?_)
  refine z_bipush (v := 68) hX (by decide) dX9_supports_4 ?_
  refine z_iload_n hX 1 rfl rfl dX9_supports_6 ?_
  refine z_iadd hX dX9_supports_7 ?_
  refine z_aI hX dX9_supports_8 (fun x2 => ?_)
  refine z_iload_n hX 2 rfl rfl dX9_supports_9 ?_
  refine z_cSIp [.int x2, .int v2] hX (fun l hl o ho => c_X9_has l hl M x2 v2 o ho) dX9_supports_10 q_1537 okS_X9_has rfl ⟨(Nat.le_of_ble_eq_true rfl), (Nat.le_of_ble_eq_true rfl)⟩ rfl (Nat.le_of_ble_eq_true rfl) rfl rfl ⟨(Nat.le_of_ble_eq_true rfl), (Nat.le_of_ble_eq_true rfl)⟩ (fun o3 => ?_)
  refine z_jn (C' := 0) (S' := 0) 40 (fun (j4 : Int32) => []) (fun (j4 : Int32) => [.int j4]) (fun (j4 : Int32) => M) (fun j4 => ?_) (fun kj4 => ?_)
  · exact z_zretP hX dX9_supports_40 (Nat.le_of_ble_eq_true rfl) (Nat.le_of_ble_eq_true rfl)
  · refine z_iteB ?_
    refine z_if_eq hX 39 (by decide) dX9_supports_13 (fun _ => ?_) (fun _ => ?_)
    · refine z_iconst (v := 0) hX (by decide) dX9_supports_39 ?_
      refine z_pure ?_
      refine z_sub [] rfl ?_
      exact kj4 0
    · refine z_aload_n hX 0 rfl rfl dX9_supports_16 ?_
      refine z_asc ?_
      refine z_gFR 9 0 hX (by decide) rfl (by decide) rfl q_1311 dX9_supports_17 (fun r5 => ?_)
      refine z_bipush (v := 44) hX (by decide) dX9_supports_20 ?_
      refine z_iload_n hX 1 rfl rfl dX9_supports_22 ?_
      refine z_iadd hX dX9_supports_23 ?_
      refine z_asc ?_
      refine z_aI hX dX9_supports_24 (fun x6 => ?_)
      refine z_aload_n hX 0 rfl rfl dX9_supports_25 ?_
      refine z_asc ?_
      refine z_gFR 9 10 hX (by decide) rfl (by decide) rfl q_1321 dX9_supports_26 (fun r7 => ?_)
      refine z_iload_n hX 2 rfl rfl dX9_supports_29 ?_
      refine z_asc ?_
      refine z_aI hX dX9_supports_30 (fun x8 => ?_)
      refine z_iand hX dX9_supports_31 ?_
      refine z_iteB ?_
      refine z_if_eq hX 39 (by decide) dX9_supports_32 (fun _ => ?_) (fun _ => ?_)
      · refine z_iconst (v := 0) hX (by decide) dX9_supports_39 ?_
        refine z_pure ?_
        refine z_sub [] rfl ?_
        exact kj4 0
      · refine z_iconst (v := 1) hX (by decide) dX9_supports_35 ?_
        refine z_goto hX 40 (by decide) dX9_supports_36 ?_
        refine z_pure ?_
        refine z_sub [] rfl ?_
        exact kj4 1
theorem c_X9_supports (l : Launch) (hl : l.stackTraces = false) (M : Mem) (v0 : Nat) (v1 : Int32) (v2 : Int32) (o : Int32) (ho : f_X9_supports M v0 v1 v2 = some o) : Ct l yX9_supports cX9_supports 3 (some .boolean) rm_X9_supports [.ref v0, .int v1, .int v2] M (some (.int o)) M :=
  Ct.of hl (by decide +kernel) (Nat.le_of_ble_eq_true rfl) rfl (fun X hX hin => z_X9_supports hX M v0 v1 v2 o ho)
theorem okV_X9_supports : okV yX9_supports cX9_supports 3 (some .boolean) 2 := ⟨q_1629, q_47, q_96, q_1630, by unfold okY; decide +kernel⟩
/-! ParticipatoryBudgetModel.supporters(I)I -/
abbrev rm_X9_supporters : Room := { frames := 2, cells := 0, slots := 0, locals := 43 }
set_option maxRecDepth 20000 in
set_option maxHeartbeats 4000000 in
theorem z_X9_supporters {X : Cxt} (hX : okX X cX9_supporters RX9 rm_X9_supporters (some .int) 4) (M : Mem) (v0 : Nat) (v1 : Int32) : Zj X (fun o : Int32 × Mem => Qr X rm_X9_supporters.cells rm_X9_supporters.slots (some (.int o.1)) o.2) 0 0 0 [(0, .ref v0), (1, .int v1)] [] M (f_X9_supporters M v0 v1) := by
  unfold f_X9_supporters
  refine z_aload_n hX 0 rfl rfl dX9_supporters_0 ?_
  refine z_aload_n hX 0 rfl rfl dX9_supporters_1 ?_
  refine z_iload_n hX 1 rfl rfl dX9_supporters_2 ?_
  refine z_cVIp 9 [.int v1] hX (fun l hl o ho => c_X9_isProject l hl M v0 v1 o ho) dX9_supporters_3 (by decide) rfl rfl q_1595 okV_X9_isProject rfl ⟨(Nat.le_of_ble_eq_true rfl), (Nat.le_of_ble_eq_true rfl)⟩ rfl (Nat.le_of_ble_eq_true rfl) rfl rfl ⟨(Nat.le_of_ble_eq_true rfl), (Nat.le_of_ble_eq_true rfl)⟩ (fun o1 => ?_)
  refine z_cVIm 9 [.int o1] hX (fun l hl o ho => c_X9_fails l hl M v0 o1 o ho) dX9_supporters_6 (by decide) rfl rfl q_1587 okV_X9_fails rfl ⟨(Nat.le_of_ble_eq_true rfl), (Nat.le_of_ble_eq_true rfl)⟩ rfl (Nat.le_of_ble_eq_true rfl) rfl rfl ⟨(Nat.le_of_ble_eq_true rfl), (Nat.le_of_ble_eq_true rfl)⟩ (fun o2 => ?_)
  refine z_if_eq hX 14 (by decide) dX9_supporters_9 (fun _ => ?_) (fun _ => ?_)
  · refine z_iconst (v := 0) hX (by decide) dX9_supporters_14 ?_
    refine z_istore_n hX [(2, .int 0), (0, .ref v0), (1, .int v1)] rfl (by decide) rfl dX9_supporters_15 ?_
    refine z_iconst (v := 0) hX (by decide) dX9_supporters_16 ?_
    refine z_istore_n hX [(3, .int 0), (2, .int 0), (0, .ref v0), (1, .int v1)] rfl (by decide) rfl dX9_supporters_17 ?_
    refine z_sub [2, 3, 1, 0] rfl ?_
    refine z_lp (x0 := (0, 0)) (bd_X9_supporters_18 v0 v1 o2) 18 51 (fun (u3 : Int32 × Int32) => [(0, .ref v0), (1, .int v1), (2, .int u3.1), (3, .int u3.2)]) (fun (e4 : Int32 × Int32) => [(2, .int e4.1)]) (fun (u3 : Int32 × Int32) => o2.2) ?_ ?_
    · intro e4
      refine z_iload_n hX 0 rfl rfl dX9_supporters_51 ?_
      exact z_iretM hX dX9_supporters_52 (Nat.le_of_ble_eq_true rfl) (Nat.le_of_ble_eq_true rfl)
    · intro kk5 rc6 hkk5 hrc6 u3
      unfold bd_X9_supporters_18
      refine z_iload_n hX 3 rfl rfl dX9_supporters_18 ?_
      refine z_aload_n hX 0 rfl rfl dX9_supporters_19 ?_
      refine z_gFI 9 7 hX (by decide) rfl (by decide) rfl q_1318 dX9_supporters_20 (fun x7 => ?_)
      refine z_icmp_ge hX 51 (by decide) dX9_supporters_23 (fun _ => ?_) (fun _ => ?_)
      · refine z_sub [2] rfl ?_
        exact hkk5 (u3.1, u3.2)
      · refine z_iload_n hX 2 rfl rfl dX9_supporters_26 ?_
        refine z_aload_n hX 0 rfl rfl dX9_supporters_27 ?_
        refine z_iload_n hX 3 rfl rfl dX9_supporters_28 ?_
        refine z_iload_n hX 1 rfl rfl dX9_supporters_29 ?_
        refine z_cVIp 9 [.int u3.2, .int v1] hX (fun l hl o ho => c_X9_supports l hl o2.2 v0 u3.2 v1 o ho) dX9_supporters_30 (by decide) rfl rfl q_1627 okV_X9_supports rfl ⟨(Nat.le_of_ble_eq_true rfl), (Nat.le_of_ble_eq_true rfl)⟩ rfl (Nat.le_of_ble_eq_true rfl) rfl rfl ⟨(Nat.le_of_ble_eq_true rfl), (Nat.le_of_ble_eq_true rfl)⟩ (fun o8 => ?_)
        refine z_jn (C' := 0) (S' := 0) 43 (fun (j9 : Int32) => [(0, .ref v0), (1, .int v1), (3, .int u3.2)]) (fun (j9 : Int32) => [.int j9, .int u3.1]) (fun (j9 : Int32) => o2.2) (fun j9 => ?_) (fun kj9 => ?_)
        · refine z_ior hX dX9_supporters_43 ?_
          refine z_ltI (fun x10 => ?_)
          refine z_istore_n hX [(2, .int x10), (0, .ref v0), (1, .int v1), (3, .int u3.2)] rfl (by decide) rfl dX9_supporters_44 ?_
          refine z_iinc hX 3 [(3, .int (u3.2 + 1)), (2, .int x10), (0, .ref v0), (1, .int v1)] rfl rfl (by decide) rfl dX9_supporters_45 ?_
          refine z_goto hX 18 (by decide) dX9_supporters_48 ?_
          refine z_sub [2, 3, 1, 0] rfl ?_
          exact hrc6 (x10, u3.2 + 1)
        · refine z_iteB ?_
          refine z_if_eq hX 42 (by decide) dX9_supporters_33 (fun _ => ?_) (fun _ => ?_)
          · refine z_iconst (v := 0) hX (by decide) dX9_supporters_42 ?_
            refine z_pure ?_
            refine z_sub [0, 1, 3] rfl ?_
            exact kj9 0
          · refine z_iconst (v := 1) hX (by decide) dX9_supporters_36 ?_
            refine z_iload_n hX 3 rfl rfl dX9_supporters_37 ?_
            refine z_ishl hX dX9_supporters_38 ?_
            refine z_goto hX 43 (by decide) dX9_supporters_39 ?_
            refine z_pure ?_
            refine z_sub [0, 1, 3] rfl ?_
            exact kj9 ((1 : Int32) <<< (u3.2 &&& 31))
  · refine z_iconst (v := 0) hX (by decide) dX9_supporters_12 ?_
    exact z_iretM hX dX9_supporters_13 (Nat.le_of_ble_eq_true rfl) (Nat.le_of_ble_eq_true rfl)
theorem c_X9_supporters (l : Launch) (hl : l.stackTraces = false) (M : Mem) (v0 : Nat) (v1 : Int32) (o : Int32 × Mem) (ho : f_X9_supporters M v0 v1 = some o) : Ct l yX9_supporters cX9_supporters 4 (some .int) rm_X9_supporters [.ref v0, .int v1] M (some (.int o.1)) o.2 :=
  Ct.of hl (by decide +kernel) (Nat.le_of_ble_eq_true rfl) rfl (fun X hX hin => z_X9_supporters hX M v0 v1 o ho)
theorem okV_X9_supporters : okV yX9_supporters cX9_supporters 4 (some .int) 1 := ⟨q_1624, q_1625, q_96, q_1626, by unfold okY; decide +kernel⟩
/-! ParticipatoryBudgetModel.votesOf(I)I -/
abbrev rm_X9_votesOf : Room := { frames := 2, cells := 0, slots := 0, locals := 43 }
set_option maxRecDepth 20000 in
set_option maxHeartbeats 4000000 in
theorem z_X9_votesOf {X : Cxt} (hX : okX X cX9_votesOf RX9 rm_X9_votesOf (some .int) 4) (M : Mem) (v0 : Nat) (v1 : Int32) : Zj X (fun o : Int32 => Qr X rm_X9_votesOf.cells rm_X9_votesOf.slots (some (.int o)) M) 0 0 0 [(0, .ref v0), (1, .int v1)] [] M (f_X9_votesOf M v0 v1) := by
  unfold f_X9_votesOf
  refine z_iconst (v := 0) hX (by decide) dX9_votesOf_0 ?_
  refine z_istore_n hX [(2, .int 0), (0, .ref v0), (1, .int v1)] rfl (by decide) rfl dX9_votesOf_1 ?_
  refine z_iconst (v := 0) hX (by decide) dX9_votesOf_2 ?_
  refine z_istore_n hX [(3, .int 0), (2, .int 0), (0, .ref v0), (1, .int v1)] rfl (by decide) rfl dX9_votesOf_3 ?_
  refine z_sub [2, 3, 1, 0] rfl ?_
  refine z_lp (x0 := (0, 0)) (bd_X9_votesOf_4 M v0 v1) 4 43 (fun (u1 : Int32 × Int32) => [(0, .ref v0), (1, .int v1), (2, .int u1.1), (3, .int u1.2)]) (fun (e2 : Int32 × Int32) => [(2, .int e2.1)]) (fun (u1 : Int32 × Int32) => M) ?_ ?_
  · intro e2
    refine z_iload_n hX 0 rfl rfl dX9_votesOf_43 ?_
    exact z_iretP hX dX9_votesOf_44 (Nat.le_of_ble_eq_true rfl) (Nat.le_of_ble_eq_true rfl)
  · intro kk3 rc4 hkk3 hrc4 u1
    unfold bd_X9_votesOf_4
    refine z_iload_n hX 3 rfl rfl dX9_votesOf_4 ?_
    refine z_aload_n hX 0 rfl rfl dX9_votesOf_5 ?_
    refine z_gFI 9 7 hX (by decide) rfl (by decide) rfl q_1318 dX9_votesOf_6 (fun x5 => ?_)
    refine z_icmp_ge hX 43 (by decide) dX9_votesOf_9 (fun _ => ?_) (fun _ => ?_)
    · refine z_sub [2] rfl ?_
      exact hkk3 (u1.1, u1.2)
    · refine z_iload_n hX 2 rfl rfl dX9_votesOf_12 ?_
      refine z_aload_n hX 0 rfl rfl dX9_votesOf_13 ?_
      refine z_iload_n hX 3 rfl rfl dX9_votesOf_14 ?_
      refine z_iload_n hX 1 rfl rfl dX9_votesOf_15 ?_
      refine z_cVIp 9 [.int u1.2, .int v1] hX (fun l hl o ho => c_X9_supports l hl M v0 u1.2 v1 o ho) dX9_votesOf_16 (by decide) rfl rfl q_1627 okV_X9_supports rfl ⟨(Nat.le_of_ble_eq_true rfl), (Nat.le_of_ble_eq_true rfl)⟩ rfl (Nat.le_of_ble_eq_true rfl) rfl rfl ⟨(Nat.le_of_ble_eq_true rfl), (Nat.le_of_ble_eq_true rfl)⟩ (fun o6 => ?_)
      refine z_jn (C' := 0) (S' := 0) 35 (fun (j7 : Int32) => [(0, .ref v0), (1, .int v1), (3, .int u1.2)]) (fun (j7 : Int32) => [.int j7, .int u1.1]) (fun (j7 : Int32) => M) (fun j7 => ?_) (fun kj7 => ?_)
      · refine z_iadd hX dX9_votesOf_35 ?_
        refine z_ltI (fun x8 => ?_)
        refine z_istore_n hX [(2, .int x8), (0, .ref v0), (1, .int v1), (3, .int u1.2)] rfl (by decide) rfl dX9_votesOf_36 ?_
        refine z_iinc hX 3 [(3, .int (u1.2 + 1)), (2, .int x8), (0, .ref v0), (1, .int v1)] rfl rfl (by decide) rfl dX9_votesOf_37 ?_
        refine z_goto hX 4 (by decide) dX9_votesOf_40 ?_
        refine z_sub [2, 3, 1, 0] rfl ?_
        exact hrc4 (x8, u1.2 + 1)
      · refine z_iteB ?_
        refine z_if_eq hX 34 (by decide) dX9_votesOf_19 (fun _ => ?_) (fun _ => ?_)
        · refine z_iconst (v := 0) hX (by decide) dX9_votesOf_34 ?_
          refine z_pure ?_
          refine z_sub [0, 1, 3] rfl ?_
          exact kj7 0
        · refine z_aload_n hX 0 rfl rfl dX9_votesOf_22 ?_
          refine z_asc ?_
          refine z_gFR 9 0 hX (by decide) rfl (by decide) rfl q_1311 dX9_votesOf_23 (fun r9 => ?_)
          refine z_bipush (v := 20) hX (by decide) dX9_votesOf_26 ?_
          refine z_iload_n hX 3 rfl rfl dX9_votesOf_28 ?_
          refine z_iadd hX dX9_votesOf_29 ?_
          refine z_asc ?_
          refine z_aI hX dX9_votesOf_30 (fun x10 => ?_)
          refine z_goto hX 35 (by decide) dX9_votesOf_31 ?_
          refine z_pure ?_
          refine z_sub [0, 1, 3] rfl ?_
          exact kj7 x10
theorem c_X9_votesOf (l : Launch) (hl : l.stackTraces = false) (M : Mem) (v0 : Nat) (v1 : Int32) (o : Int32) (ho : f_X9_votesOf M v0 v1 = some o) : Ct l yX9_votesOf cX9_votesOf 4 (some .int) rm_X9_votesOf [.ref v0, .int v1] M (some (.int o)) M :=
  Ct.of hl (by decide +kernel) (Nat.le_of_ble_eq_true rfl) rfl (fun X hX hin => z_X9_votesOf hX M v0 v1 o ho)
theorem okV_X9_votesOf : okV yX9_votesOf cX9_votesOf 4 (some .int) 1 := ⟨q_1637, q_48, q_96, q_1638, by unfold okY; decide +kernel⟩
/-! ParticipatoryBudgetModel.votesFor(I)I -/
abbrev rm_X9_votesFor : Room := { frames := 3, cells := 0, slots := 0, locals := 66 }
set_option maxRecDepth 20000 in
set_option maxHeartbeats 4000000 in
theorem z_X9_votesFor {X : Cxt} (hX : okX X cX9_votesFor RX9 rm_X9_votesFor (some .int) 2) (M : Mem) (v0 : Nat) (v1 : Int32) : Zj X (fun o : Int32 × Mem => Qr X rm_X9_votesFor.cells rm_X9_votesFor.slots (some (.int o.1)) o.2) 0 0 0 [(0, .ref v0), (1, .int v1)] [] M (f_X9_votesFor M v0 v1) := by
  unfold f_X9_votesFor
  refine z_aload_n hX 0 rfl rfl dX9_votesFor_0 ?_
  refine z_aload_n hX 0 rfl rfl dX9_votesFor_1 ?_
  refine z_iload_n hX 1 rfl rfl dX9_votesFor_2 ?_
  refine z_cVIp 9 [.int v1] hX (fun l hl o ho => c_X9_isProject l hl M v0 v1 o ho) dX9_votesFor_3 (by decide) rfl rfl q_1595 okV_X9_isProject rfl ⟨(Nat.le_of_ble_eq_true rfl), (Nat.le_of_ble_eq_true rfl)⟩ rfl (Nat.le_of_ble_eq_true rfl) rfl rfl ⟨(Nat.le_of_ble_eq_true rfl), (Nat.le_of_ble_eq_true rfl)⟩ (fun o1 => ?_)
  refine z_cVIm 9 [.int o1] hX (fun l hl o ho => c_X9_fails l hl M v0 o1 o ho) dX9_votesFor_6 (by decide) rfl rfl q_1587 okV_X9_fails rfl ⟨(Nat.le_of_ble_eq_true rfl), (Nat.le_of_ble_eq_true rfl)⟩ rfl (Nat.le_of_ble_eq_true rfl) rfl rfl ⟨(Nat.le_of_ble_eq_true rfl), (Nat.le_of_ble_eq_true rfl)⟩ (fun o2 => ?_)
  refine z_jn (C' := 0) (S' := 0) 21 (fun (j3 : Int32) => []) (fun (j3 : Int32) => [.int j3]) (fun (j3 : Int32) => o2.2) (fun j3 => ?_) (fun kj3 => ?_)
  · exact z_iretM hX dX9_votesFor_21 (Nat.le_of_ble_eq_true rfl) (Nat.le_of_ble_eq_true rfl)
  · refine z_iteB ?_
    refine z_if_eq hX 16 (by decide) dX9_votesFor_9 (fun _ => ?_) (fun _ => ?_)
    · refine z_aload_n hX 0 rfl rfl dX9_votesFor_16 ?_
      refine z_iload_n hX 1 rfl rfl dX9_votesFor_17 ?_
      refine z_asc ?_
      refine z_asc2 ?_
      refine z_cVIp 9 [.int v1] hX (fun l hl o ho => c_X9_votesOf l hl o2.2 v0 v1 o ho) dX9_votesFor_18 (by decide) rfl rfl q_1635 okV_X9_votesOf rfl ⟨(Nat.le_of_ble_eq_true rfl), (Nat.le_of_ble_eq_true rfl)⟩ rfl (Nat.le_of_ble_eq_true rfl) rfl rfl ⟨(Nat.le_of_ble_eq_true rfl), (Nat.le_of_ble_eq_true rfl)⟩ (fun o4 => ?_)
      refine z_pure ?_
      refine z_sub [] rfl ?_
      exact kj3 o4
    · refine z_iconst (v := 0) hX (by decide) dX9_votesFor_12 ?_
      refine z_goto hX 21 (by decide) dX9_votesFor_13 ?_
      refine z_pure ?_
      refine z_sub [] rfl ?_
      exact kj3 0
theorem c_X9_votesFor (l : Launch) (hl : l.stackTraces = false) (M : Mem) (v0 : Nat) (v1 : Int32) (o : Int32 × Mem) (ho : f_X9_votesFor M v0 v1 = some o) : Ct l yX9_votesFor cX9_votesFor 2 (some .int) rm_X9_votesFor [.ref v0, .int v1] M (some (.int o.1)) o.2 :=
  Ct.of hl (by decide +kernel) (Nat.le_of_ble_eq_true rfl) rfl (fun X hX hin => z_X9_votesFor hX M v0 v1 o ho)
theorem okV_X9_votesFor : okV yX9_votesFor cX9_votesFor 2 (some .int) 1 := ⟨q_1632, q_1633, q_96, q_1634, by unfold okY; decide +kernel⟩
/-! ParticipatoryBudgetModel.worthOf(I)I -/
abbrev rm_X9_worthOf : Room := { frames := 0, cells := 0, slots := 0, locals := 0 }
set_option maxRecDepth 20000 in
set_option maxHeartbeats 4000000 in
theorem z_X9_worthOf {X : Cxt} (hX : okX X cX9_worthOf RX9 rm_X9_worthOf (some .int) 2) (M : Mem) (v0 : Nat) (v1 : Int32) : Zj X (fun o : Int32 => Qr X rm_X9_worthOf.cells rm_X9_worthOf.slots (some (.int o)) M) 0 0 0 [(0, .ref v0), (1, .int v1)] [] M (f_X9_worthOf M v0 v1) := by
  unfold f_X9_worthOf
  refine z_aload_n hX 0 rfl rfl dX9_worthOf_0 ?_
  refine z_gFR 9 0 hX (by decide) rfl (by decide) rfl q_1311 dX9_worthOf_1 (fun r1 => ?_)
  refine z_iconst (v := 0) hX (by decide) dX9_worthOf_4 ?_
  refine z_aI hX dX9_worthOf_5 (fun x2 => ?_)
  refine z_jn (C' := 0) (S' := 0) 22 (fun (j3 : Int32) => []) (fun (j3 : Int32) => [.int j3]) (fun (j3 : Int32) => M) (fun j3 => ?_) (fun kj3 => ?_)
  · exact z_iretP hX dX9_worthOf_22 (Nat.le_of_ble_eq_true rfl) (Nat.le_of_ble_eq_true rfl)
  · refine z_iteB ?_
    refine z_if_ne hX 13 (by decide) dX9_worthOf_6 (fun _ => ?_) (fun _ => ?_)
    · refine z_aload_n hX 0 rfl rfl dX9_worthOf_13 ?_
      refine z_asc ?_
      refine z_gFR 9 0 hX (by decide) rfl (by decide) rfl q_1311 dX9_worthOf_14 (fun r4 => ?_)
      refine z_bipush (v := 8) hX (by decide) dX9_worthOf_17 ?_
      refine z_iload_n hX 1 rfl rfl dX9_worthOf_19 ?_
      refine z_iadd hX dX9_worthOf_20 ?_
      refine z_asc ?_
      refine z_aI hX dX9_worthOf_21 (fun x5 => ?_)
      refine z_pure ?_
      refine z_sub [] rfl ?_
      exact kj3 x5
    · refine z_iconst (v := 1) hX (by decide) dX9_worthOf_9 ?_
      refine z_goto hX 22 (by decide) dX9_worthOf_10 ?_
      refine z_pure ?_
      refine z_sub [] rfl ?_
      exact kj3 1
theorem c_X9_worthOf (l : Launch) (hl : l.stackTraces = false) (M : Mem) (v0 : Nat) (v1 : Int32) (o : Int32) (ho : f_X9_worthOf M v0 v1 = some o) : Ct l yX9_worthOf cX9_worthOf 2 (some .int) rm_X9_worthOf [.ref v0, .int v1] M (some (.int o)) M :=
  Ct.of hl (by decide +kernel) (Nat.le_of_ble_eq_true rfl) rfl (fun X hX hin => z_X9_worthOf hX M v0 v1 o ho)
theorem okV_X9_worthOf : okV yX9_worthOf cX9_worthOf 2 (some .int) 1 := ⟨q_1737, q_70, q_96, q_1738, by unfold okY; decide +kernel⟩
