/-! ParticipatoryBudgetModel.roundOf(I)I -/
abbrev rm_X9_roundOf : Room := { frames := 7, cells := 0, slots := 0, locals := 165 }
set_option maxRecDepth 20000 in
set_option maxHeartbeats 4000000 in
theorem z_X9_roundOf {X : Cxt} (hX : okX X cX9_roundOf RX9 rm_X9_roundOf (some .int) 3) (M : Mem) (v0 : Nat) (v1 : Int32) : Zj X (fun o : Int32 × Mem => Qr X rm_X9_roundOf.cells rm_X9_roundOf.slots (some (.int o.1)) o.2) 0 0 0 [(0, .ref v0), (1, .int v1)] [] M (f_X9_roundOf M v0 v1) := by
  unfold f_X9_roundOf
  refine z_aload_n hX 0 rfl rfl dX9_roundOf_0 ?_
  refine z_aload_n hX 0 rfl rfl dX9_roundOf_1 ?_
  refine z_iload_n hX 1 rfl rfl dX9_roundOf_2 ?_
  refine z_cVIp 9 [.int v1] hX (fun l hl o ho => c_X9_isProject l hl M v0 v1 o ho) dX9_roundOf_3 (by decide) rfl rfl q_1595 okV_X9_isProject rfl ⟨(Nat.le_of_ble_eq_true rfl), (Nat.le_of_ble_eq_true rfl)⟩ rfl (Nat.le_of_ble_eq_true rfl) rfl rfl ⟨(Nat.le_of_ble_eq_true rfl), (Nat.le_of_ble_eq_true rfl)⟩ (fun o1 => ?_)
  refine z_cVIm 9 [.int o1] hX (fun l hl o ho => c_X9_fails l hl M v0 o1 o ho) dX9_roundOf_6 (by decide) rfl rfl q_1587 okV_X9_fails rfl ⟨(Nat.le_of_ble_eq_true rfl), (Nat.le_of_ble_eq_true rfl)⟩ rfl (Nat.le_of_ble_eq_true rfl) rfl rfl ⟨(Nat.le_of_ble_eq_true rfl), (Nat.le_of_ble_eq_true rfl)⟩ (fun o2 => ?_)
  refine z_if_eq hX 14 (by decide) dX9_roundOf_9 (fun _ => ?_) (fun _ => ?_)
  · refine z_aload_n hX 0 rfl rfl dX9_roundOf_14 ?_
    refine z_cVVm 9 [] hX (fun l hl o ho => c_X9_equal l hl o2.2 v0 o ho) dX9_roundOf_15 (by decide) rfl rfl q_1683 okV_X9_equal rfl ⟨(Nat.le_of_ble_eq_true rfl), (Nat.le_of_ble_eq_true rfl)⟩ rfl (Nat.le_of_ble_eq_true rfl) rfl rfl ⟨(Nat.le_of_ble_eq_true rfl), (Nat.le_of_ble_eq_true rfl)⟩ (fun o3 => ?_)
    refine z_iconst (v := 0) hX (by decide) dX9_roundOf_18 ?_
    refine z_istore_n hX [(2, .int 0), (0, .ref v0), (1, .int v1)] rfl (by decide) rfl dX9_roundOf_19 ?_
    refine z_sub [1, 2, 0] rfl ?_
    refine z_lp (x0 := 0) (bd_X9_roundOf_20 v0 v1 o3) 20 45 (fun (u4 : Int32) => [(0, .ref v0), (1, .int v1), (2, .int u4)]) (fun (e5 : Int32) => [(0, .ref v0), (1, .int v1), (2, .int e5)]) (fun (u4 : Int32) => o3) ?_ ?_
    · intro e5
      refine z_aload_n hX 0 rfl rfl dX9_roundOf_45 ?_
      refine z_gFR 9 33 hX (by decide) rfl (by decide) rfl q_1344 dX9_roundOf_46 (fun r12 => ?_)
      refine z_iload_n hX 1 rfl rfl dX9_roundOf_49 ?_
      refine z_aI hX dX9_roundOf_50 (fun x13 => ?_)
      refine z_jn (C' := 0) (S' := 0) 59 (fun (j14 : Int32) => []) (fun (j14 : Int32) => [.int j14]) (fun (j14 : Int32) => o3) (fun j14 => ?_) (fun kj14 => ?_)
      · exact z_iretM hX dX9_roundOf_59 (Nat.le_of_ble_eq_true rfl) (Nat.le_of_ble_eq_true rfl)
      · refine z_iteB ?_
        refine z_if_ge hX 58 (by decide) dX9_roundOf_51 (fun _ => ?_) (fun _ => ?_)
        · refine z_iload_n hX 2 rfl rfl dX9_roundOf_58 ?_
          refine z_pure ?_
          refine z_sub [] rfl ?_
          exact kj14 e5
        · refine z_iconst (v := (-1)) hX (by decide) dX9_roundOf_54 ?_
          refine z_goto hX 59 (by decide) dX9_roundOf_55 ?_
          refine z_pure ?_
          refine z_sub [] rfl ?_
          exact kj14 (-1)
    · intro kk6 rc7 hkk6 hrc7 u4
      unfold bd_X9_roundOf_20
      refine z_aload_n hX 0 rfl rfl dX9_roundOf_20 ?_
      refine z_gFR 9 33 hX (by decide) rfl (by decide) rfl q_1344 dX9_roundOf_21 (fun r8 => ?_)
      refine z_iload_n hX 1 rfl rfl dX9_roundOf_24 ?_
      refine z_aI hX dX9_roundOf_25 (fun x9 => ?_)
      refine z_if_lt hX 45 (by decide) dX9_roundOf_26 (fun _ => ?_) (fun _ => ?_)
      · refine z_sub [0, 1, 2] rfl ?_
        exact hkk6 u4
      · refine z_aload_n hX 0 rfl rfl dX9_roundOf_29 ?_
        refine z_gFR 9 32 hX (by decide) rfl (by decide) rfl q_1343 dX9_roundOf_30 (fun r10 => ?_)
        refine z_iload_n hX 2 rfl rfl dX9_roundOf_33 ?_
        refine z_aI hX dX9_roundOf_34 (fun x11 => ?_)
        refine z_iload_n hX 1 rfl rfl dX9_roundOf_35 ?_
        refine z_icmp_eq hX 45 (by decide) dX9_roundOf_36 (fun _ => ?_) (fun _ => ?_)
        · refine z_sub [0, 1, 2] rfl ?_
          exact hkk6 u4
        · refine z_iinc hX 2 [(2, .int (u4 + 1)), (0, .ref v0), (1, .int v1)] rfl rfl (by decide) rfl dX9_roundOf_39 ?_
          refine z_goto hX 20 (by decide) dX9_roundOf_42 ?_
          refine z_sub [1, 2, 0] rfl ?_
          exact hrc7 (u4 + 1)
  · refine z_iconst (v := 0) hX (by decide) dX9_roundOf_12 ?_
    exact z_iretM hX dX9_roundOf_13 (Nat.le_of_ble_eq_true rfl) (Nat.le_of_ble_eq_true rfl)
theorem c_X9_roundOf (l : Launch) (hl : l.stackTraces = false) (M : Mem) (v0 : Nat) (v1 : Int32) (o : Int32 × Mem) (ho : f_X9_roundOf M v0 v1 = some o) : Ct l yX9_roundOf cX9_roundOf 3 (some .int) rm_X9_roundOf [.ref v0, .int v1] M (some (.int o.1)) o.2 :=
  Ct.of hl (by decide +kernel) (Nat.le_of_ble_eq_true rfl) rfl (fun X hX hin => z_X9_roundOf hX M v0 v1 o ho)
theorem okV_X9_roundOf : okV yX9_roundOf cX9_roundOf 3 (some .int) 1 := ⟨q_1885, q_1886, q_96, q_1887, by unfold okY; decide +kernel⟩
/-! ParticipatoryBudgetModel.commonSupport(II)I -/
abbrev rm_X9_commonSupport : Room := { frames := 2, cells := 0, slots := 0, locals := 43 }
set_option maxRecDepth 20000 in
set_option maxHeartbeats 4000000 in
theorem z_X9_commonSupport {X : Cxt} (hX : okX X cX9_commonSupport RX9 rm_X9_commonSupport (some .int) 5) (M : Mem) (v0 : Nat) (v1 : Int32) (v2 : Int32) : Zj X (fun o : Int32 × Mem => Qr X rm_X9_commonSupport.cells rm_X9_commonSupport.slots (some (.int o.1)) o.2) 0 0 0 [(0, .ref v0), (1, .int v1), (2, .int v2)] [] M (f_X9_commonSupport M v0 v1 v2) := by
  unfold f_X9_commonSupport
  refine z_aload_n hX 0 rfl rfl dX9_commonSupport_0 ?_
  refine z_aload_n hX 0 rfl rfl dX9_commonSupport_1 ?_
  refine z_iload_n hX 1 rfl rfl dX9_commonSupport_2 ?_
  refine z_cVIp 9 [.int v1] hX (fun l hl o ho => c_X9_isProject l hl M v0 v1 o ho) dX9_commonSupport_3 (by decide) rfl rfl q_1595 okV_X9_isProject rfl ⟨(Nat.le_of_ble_eq_true rfl), (Nat.le_of_ble_eq_true rfl)⟩ rfl (Nat.le_of_ble_eq_true rfl) rfl rfl ⟨(Nat.le_of_ble_eq_true rfl), (Nat.le_of_ble_eq_true rfl)⟩ (fun o1 => ?_)
  refine z_jn (C' := 0) (S' := 0) 22 (fun (j2 : Int32) => [(0, .ref v0), (1, .int v1), (2, .int v2)]) (fun (j2 : Int32) => [.int j2, .ref v0]) (fun (j2 : Int32) => M) (fun j2 => ?_) (fun kj2 => ?_)
  · refine z_cVIm 9 [.int j2] hX (fun l hl o ho => c_X9_fails l hl M v0 j2 o ho) dX9_commonSupport_22 (by decide) rfl rfl q_1587 okV_X9_fails rfl ⟨(Nat.le_of_ble_eq_true rfl), (Nat.le_of_ble_eq_true rfl)⟩ rfl (Nat.le_of_ble_eq_true rfl) rfl rfl ⟨(Nat.le_of_ble_eq_true rfl), (Nat.le_of_ble_eq_true rfl)⟩ (fun o3 => ?_)
    refine z_if_eq hX 30 (by decide) dX9_commonSupport_25 (fun _ => ?_) (fun _ => ?_)
    · refine z_iconst (v := 0) hX (by decide) dX9_commonSupport_30 ?_
      refine z_istore_n hX [(3, .int 0), (0, .ref v0), (1, .int v1), (2, .int v2)] rfl (by decide) rfl dX9_commonSupport_31 ?_
      refine z_iconst (v := 0) hX (by decide) dX9_commonSupport_32 ?_
      refine z_istore hX [(4, .int 0), (3, .int 0), (0, .ref v0), (1, .int v1), (2, .int v2)] (by decide) rfl dX9_commonSupport_33 ?_
      refine z_sub [2, 3, 4, 1, 0] rfl ?_
      refine z_lp (x0 := (0, 0)) (bd_X9_commonSupport_35 v0 v1 v2 o3) 35 78 (fun (u4 : Int32 × Int32) => [(0, .ref v0), (1, .int v1), (2, .int v2), (3, .int u4.1), (4, .int u4.2)]) (fun (e5 : Int32 × Int32) => [(3, .int e5.1)]) (fun (u4 : Int32 × Int32) => o3.2) ?_ ?_
      · intro e5
        refine z_iload_n hX 0 rfl rfl dX9_commonSupport_78 ?_
        exact z_iretM hX dX9_commonSupport_79 (Nat.le_of_ble_eq_true rfl) (Nat.le_of_ble_eq_true rfl)
      · intro kk6 rc7 hkk6 hrc7 u4
        unfold bd_X9_commonSupport_35
        refine z_iload hX 4 rfl dX9_commonSupport_35 ?_
        refine z_aload_n hX 0 rfl rfl dX9_commonSupport_37 ?_
        refine z_gFI 9 7 hX (by decide) rfl (by decide) rfl q_1318 dX9_commonSupport_38 (fun x8 => ?_)
        refine z_icmp_ge hX 78 (by decide) dX9_commonSupport_41 (fun _ => ?_) (fun _ => ?_)
        · refine z_sub [3] rfl ?_
          exact hkk6 (u4.1, u4.2)
        · refine z_iload_n hX 3 rfl rfl dX9_commonSupport_44 ?_
          refine z_aload_n hX 0 rfl rfl dX9_commonSupport_45 ?_
          refine z_iload hX 4 rfl dX9_commonSupport_46 ?_
          refine z_iload_n hX 1 rfl rfl dX9_commonSupport_48 ?_
          refine z_cVIp 9 [.int u4.2, .int v1] hX (fun l hl o ho => c_X9_supports l hl o3.2 v0 u4.2 v1 o ho) dX9_commonSupport_49 (by decide) rfl rfl q_1627 okV_X9_supports rfl ⟨(Nat.le_of_ble_eq_true rfl), (Nat.le_of_ble_eq_true rfl)⟩ rfl (Nat.le_of_ble_eq_true rfl) rfl rfl ⟨(Nat.le_of_ble_eq_true rfl), (Nat.le_of_ble_eq_true rfl)⟩ (fun o9 => ?_)
          refine z_jn (C' := 0) (S' := 0) 70 (fun (j10 : Int32) => [(0, .ref v0), (1, .int v1), (2, .int v2), (4, .int u4.2)]) (fun (j10 : Int32) => [.int j10, .int u4.1]) (fun (j10 : Int32) => o3.2) (fun j10 => ?_) (fun kj10 => ?_)
          · refine z_iadd hX dX9_commonSupport_70 ?_
            refine z_ltI (fun x11 => ?_)
            refine z_istore_n hX [(3, .int x11), (0, .ref v0), (1, .int v1), (2, .int v2), (4, .int u4.2)] rfl (by decide) rfl dX9_commonSupport_71 ?_
            refine z_iinc hX 4 [(4, .int (u4.2 + 1)), (3, .int x11), (0, .ref v0), (1, .int v1), (2, .int v2)] rfl rfl (by decide) rfl dX9_commonSupport_72 ?_
            refine z_goto hX 35 (by decide) dX9_commonSupport_75 ?_
            refine z_sub [2, 3, 4, 1, 0] rfl ?_
            exact hrc7 (x11, u4.2 + 1)
          · refine z_iteB ?_
            refine z_if_eq hX 69 (by decide) dX9_commonSupport_52 (fun _ => ?_) (fun _ => ?_)
            · refine z_iconst (v := 0) hX (by decide) dX9_commonSupport_69 ?_
              refine z_pure ?_
              refine z_sub [0, 1, 2, 4] rfl ?_
              exact kj10 0
            · refine z_aload_n hX 0 rfl rfl dX9_commonSupport_55 ?_
              refine z_iload hX 4 rfl dX9_commonSupport_56 ?_
              refine z_iload_n hX 2 rfl rfl dX9_commonSupport_58 ?_
              refine z_asc ?_
              refine z_asc2 ?_
              refine z_cVIp 9 [.int u4.2, .int v2] hX (fun l hl o ho => c_X9_supports l hl o3.2 v0 u4.2 v2 o ho) dX9_commonSupport_59 (by decide) rfl rfl q_1627 okV_X9_supports rfl ⟨(Nat.le_of_ble_eq_true rfl), (Nat.le_of_ble_eq_true rfl)⟩ rfl (Nat.le_of_ble_eq_true rfl) rfl rfl ⟨(Nat.le_of_ble_eq_true rfl), (Nat.le_of_ble_eq_true rfl)⟩ (fun o12 => ?_)
              refine z_iteB ?_
              refine z_if_eq hX 69 (by decide) dX9_commonSupport_62 (fun _ => ?_) (fun _ => ?_)
              · refine z_iconst (v := 0) hX (by decide) dX9_commonSupport_69 ?_
                refine z_pure ?_
                refine z_sub [0, 1, 2, 4] rfl ?_
                exact kj10 0
              · refine z_iconst (v := 1) hX (by decide) dX9_commonSupport_65 ?_
                refine z_goto hX 70 (by decide) dX9_commonSupport_66 ?_
                refine z_pure ?_
                refine z_sub [0, 1, 2, 4] rfl ?_
                exact kj10 1
    · refine z_iconst (v := 0) hX (by decide) dX9_commonSupport_28 ?_
      exact z_iretM hX dX9_commonSupport_29 (Nat.le_of_ble_eq_true rfl) (Nat.le_of_ble_eq_true rfl)
  · refine z_iteB ?_
    refine z_if_eq hX 21 (by decide) dX9_commonSupport_6 (fun _ => ?_) (fun _ => ?_)
    · refine z_iconst (v := 0) hX (by decide) dX9_commonSupport_21 ?_
      refine z_pure ?_
      refine z_sub [0, 1, 2] rfl ?_
      exact kj2 0
    · refine z_aload_n hX 0 rfl rfl dX9_commonSupport_9 ?_
      refine z_iload_n hX 2 rfl rfl dX9_commonSupport_10 ?_
      refine z_asc ?_
      refine z_asc2 ?_
      refine z_cVIp 9 [.int v2] hX (fun l hl o ho => c_X9_isProject l hl M v0 v2 o ho) dX9_commonSupport_11 (by decide) rfl rfl q_1595 okV_X9_isProject rfl ⟨(Nat.le_of_ble_eq_true rfl), (Nat.le_of_ble_eq_true rfl)⟩ rfl (Nat.le_of_ble_eq_true rfl) rfl rfl ⟨(Nat.le_of_ble_eq_true rfl), (Nat.le_of_ble_eq_true rfl)⟩ (fun o13 => ?_)
      refine z_iteB ?_
      refine z_if_eq hX 21 (by decide) dX9_commonSupport_14 (fun _ => ?_) (fun _ => ?_)
      · refine z_iconst (v := 0) hX (by decide) dX9_commonSupport_21 ?_
        refine z_pure ?_
        refine z_sub [0, 1, 2] rfl ?_
        exact kj2 0
      · refine z_iconst (v := 1) hX (by decide) dX9_commonSupport_17 ?_
        refine z_goto hX 22 (by decide) dX9_commonSupport_18 ?_
        refine z_pure ?_
        refine z_sub [0, 1, 2] rfl ?_
        exact kj2 1
theorem c_X9_commonSupport (l : Launch) (hl : l.stackTraces = false) (M : Mem) (v0 : Nat) (v1 : Int32) (v2 : Int32) (o : Int32 × Mem) (ho : f_X9_commonSupport M v0 v1 v2 = some o) : Ct l yX9_commonSupport cX9_commonSupport 5 (some .int) rm_X9_commonSupport [.ref v0, .int v1, .int v2] M (some (.int o.1)) o.2 :=
  Ct.of hl (by decide +kernel) (Nat.le_of_ble_eq_true rfl) rfl (fun X hX hin => z_X9_commonSupport hX M v0 v1 v2 o ho)
theorem okV_X9_commonSupport : okV yX9_commonSupport cX9_commonSupport 5 (some .int) 2 := ⟨q_1889, q_1890, q_96, q_1891, by unfold okY; decide +kernel⟩
/-! ParticipatoryBudgetModel.priceIn(II)I -/
abbrev rm_X9_priceIn : Room := { frames := 7, cells := 0, slots := 0, locals := 165 }
set_option maxRecDepth 20000 in
set_option maxHeartbeats 4000000 in
theorem z_X9_priceIn {X : Cxt} (hX : okX X cX9_priceIn RX9 rm_X9_priceIn (some .int) 5) (M : Mem) (v0 : Nat) (v1 : Int32) (v2 : Int32) : Zj X (fun o : Int32 × Mem => Qr X rm_X9_priceIn.cells rm_X9_priceIn.slots (some (.int o.1)) o.2) 0 0 0 [(0, .ref v0), (1, .int v1), (2, .int v2)] [] M (f_X9_priceIn M v0 v1 v2) := by
  unfold f_X9_priceIn
  refine z_aload_n hX 0 rfl rfl dX9_priceIn_0 ?_
  refine z_aload_n hX 0 rfl rfl dX9_priceIn_1 ?_
  refine z_iload_n hX 1 rfl rfl dX9_priceIn_2 ?_
  refine z_cVIp 9 [.int v1] hX (fun l hl o ho => c_X9_isProject l hl M v0 v1 o ho) dX9_priceIn_3 (by decide) rfl rfl q_1595 okV_X9_isProject rfl ⟨(Nat.le_of_ble_eq_true rfl), (Nat.le_of_ble_eq_true rfl)⟩ rfl (Nat.le_of_ble_eq_true rfl) rfl rfl ⟨(Nat.le_of_ble_eq_true rfl), (Nat.le_of_ble_eq_true rfl)⟩ (fun o1 => ?_)
  refine z_cVIm 9 [.int o1] hX (fun l hl o ho => c_X9_fails l hl M v0 o1 o ho) dX9_priceIn_6 (by decide) rfl rfl q_1587 okV_X9_fails rfl ⟨(Nat.le_of_ble_eq_true rfl), (Nat.le_of_ble_eq_true rfl)⟩ rfl (Nat.le_of_ble_eq_true rfl) rfl rfl ⟨(Nat.le_of_ble_eq_true rfl), (Nat.le_of_ble_eq_true rfl)⟩ (fun o2 => ?_)
  refine z_if_eq hX 14 (by decide) dX9_priceIn_9 (fun _ => ?_) (fun _ => ?_)
  · refine z_aload_n hX 0 rfl rfl dX9_priceIn_14 ?_
    refine z_cVVm 9 [] hX (fun l hl o ho => c_X9_equal l hl o2.2 v0 o ho) dX9_priceIn_15 (by decide) rfl rfl q_1683 okV_X9_equal rfl ⟨(Nat.le_of_ble_eq_true rfl), (Nat.le_of_ble_eq_true rfl)⟩ rfl (Nat.le_of_ble_eq_true rfl) rfl rfl ⟨(Nat.le_of_ble_eq_true rfl), (Nat.le_of_ble_eq_true rfl)⟩ (fun o3 => ?_)
    refine z_iconst (v := 0) hX (by decide) dX9_priceIn_18 ?_
    refine z_istore_n hX [(3, .int 0), (0, .ref v0), (1, .int v1), (2, .int v2)] rfl (by decide) rfl dX9_priceIn_19 ?_
    refine z_iconst (v := 0) hX (by decide) dX9_priceIn_20 ?_
    refine z_istore hX [(4, .int 0), (3, .int 0), (0, .ref v0), (1, .int v1), (2, .int v2)] (by decide) rfl dX9_priceIn_21 ?_
    refine z_sub [2, 3, 4, 1, 0] rfl ?_
    refine z_lp (x0 := (0, 0)) (bd_X9_priceIn_23 v0 o3) 23 56 (fun (u4 : Int32 × Int32) => [(0, .ref v0), (1, .int v1), (2, .int v2), (3, .int u4.1), (4, .int u4.2)]) (fun (e5 : Int32 × Int32) => [(0, .ref v0), (1, .int v1), (2, .int v2), (3, .int e5.1)]) (fun (u4 : Int32 × Int32) => o3) ?_ ?_
    · intro e5
      refine z_iload_n hX 2 rfl rfl dX9_priceIn_56 ?_
      refine z_iconst (v := 0) hX (by decide) dX9_priceIn_57 ?_
      refine z_iload_n hX 3 rfl rfl dX9_priceIn_58 ?_
      refine z_cSIp [.int v2, .int 0, .int e5.1] hX (fun l hl o ho => c_X9_inRange l hl o3 v2 0 e5.1 o ho) dX9_priceIn_59 q_1467 okS_X9_inRange rfl ⟨(Nat.le_of_ble_eq_true rfl), (Nat.le_of_ble_eq_true rfl)⟩ rfl (Nat.le_of_ble_eq_true rfl) rfl rfl ⟨(Nat.le_of_ble_eq_true rfl), (Nat.le_of_ble_eq_true rfl)⟩ (fun o13 => ?_)
      refine z_if_ne hX 68 (by decide) dX9_priceIn_62 (fun _ => ?_) (fun _ => ?_)
      · refine z_aload_n hX 0 rfl rfl dX9_priceIn_68 ?_
        refine z_iload_n hX 2 rfl rfl dX9_priceIn_69 ?_
        refine z_pFI 9 37 hX (by decide) rfl (by decide) rfl q_1348 rfl pd_1 rfl rfl dX9_priceIn_70 (fun M14 => ?_)
        refine z_aload_n hX 0 rfl rfl dX9_priceIn_73 ?_
        refine z_aload_n hX 0 rfl rfl dX9_priceIn_74 ?_
        refine z_gFI 9 39 hX (by decide) rfl (by decide) rfl q_1350 dX9_priceIn_75 (fun x15 => ?_)
        refine z_aload_n hX 0 rfl rfl dX9_priceIn_78 ?_
        refine z_gFR 9 0 hX (by decide) rfl (by decide) rfl q_1311 dX9_priceIn_79 (fun r16 => ?_)
        refine z_iconst (v := 2) hX (by decide) dX9_priceIn_82 ?_
        refine z_aI hX dX9_priceIn_83 (fun x17 => ?_)
        refine z_imul hX dX9_priceIn_84 ?_
        refine z_cVVm 9 [.int (x15 * x17)] hX (fun l hl o ho => c_X9_rounds l hl M14 v0 (x15 * x17) o ho) dX9_priceIn_85 (by decide) rfl rfl q_1687 okV_X9_rounds rfl ⟨(Nat.le_of_ble_eq_true rfl), (Nat.le_of_ble_eq_true rfl)⟩ rfl (Nat.le_of_ble_eq_true rfl) rfl rfl ⟨(Nat.le_of_ble_eq_true rfl), (Nat.le_of_ble_eq_true rfl)⟩ (fun o18 => ?_)
        refine z_aload_n hX 0 rfl rfl dX9_priceIn_88 ?_
        refine z_bipush (v := 12) hX (by decide) dX9_priceIn_89 ?_
        refine z_pFI 9 37 hX (by decide) rfl (by decide) rfl q_1348 rfl pd_1 rfl rfl dX9_priceIn_91 (fun M19 => ?_)
        refine z_aload_n hX 0 rfl rfl dX9_priceIn_94 ?_
        refine z_gFI 9 30 hX (by decide) rfl (by decide) rfl q_1341 dX9_priceIn_95 (fun x20 => ?_)
        refine z_iload_n hX 1 rfl rfl dX9_priceIn_98 ?_
        refine z_cSIp [.int x20, .int v1] hX (fun l hl o ho => c_X9_has l hl M19 x20 v1 o ho) dX9_priceIn_99 q_1537 okS_X9_has rfl ⟨(Nat.le_of_ble_eq_true rfl), (Nat.le_of_ble_eq_true rfl)⟩ rfl (Nat.le_of_ble_eq_true rfl) rfl rfl ⟨(Nat.le_of_ble_eq_true rfl), (Nat.le_of_ble_eq_true rfl)⟩ (fun o21 => ?_)
        refine z_jn (C' := 0) (S' := 0) 114 (fun (j22 : Int32) => []) (fun (j22 : Int32) => [.int j22]) (fun (j22 : Int32) => M19) (fun j22 => ?_) (fun kj22 => ?_)
        · exact z_iretM hX dX9_priceIn_114 (Nat.le_of_ble_eq_true rfl) (Nat.le_of_ble_eq_true rfl)
        · refine z_iteB ?_
          refine z_if_eq hX 109 (by decide) dX9_priceIn_102 (fun _ => ?_) (fun _ => ?_)
          · refine z_aload_n hX 0 rfl rfl dX9_priceIn_109 ?_
            refine z_iload_n hX 1 rfl rfl dX9_priceIn_110 ?_
            refine z_asc ?_
            refine z_asc2 ?_
            refine z_cVIp 9 [.int v1] hX (fun l hl o ho => c_X9_priceNow l hl M19 v0 v1 o ho) dX9_priceIn_111 (by decide) rfl rfl q_1655 okV_X9_priceNow rfl ⟨(Nat.le_of_ble_eq_true rfl), (Nat.le_of_ble_eq_true rfl)⟩ rfl (Nat.le_of_ble_eq_true rfl) rfl rfl ⟨(Nat.le_of_ble_eq_true rfl), (Nat.le_of_ble_eq_true rfl)⟩ (fun o23 => ?_)
            refine z_pure ?_
            refine z_sub [] rfl ?_
            exact kj22 o23
          · refine z_iconst (v := (-1)) hX (by decide) dX9_priceIn_105 ?_
            refine z_goto hX 114 (by decide) dX9_priceIn_106 ?_
            refine z_pure ?_
            refine z_sub [] rfl ?_
            exact kj22 (-1)
      · refine z_bipush (v := (-2)) hX (by decide) dX9_priceIn_65 ?_
        exact z_iretM hX dX9_priceIn_67 (Nat.le_of_ble_eq_true rfl) (Nat.le_of_ble_eq_true rfl)
    · intro kk6 rc7 hkk6 hrc7 u4
      unfold bd_X9_priceIn_23
      refine z_iload hX 4 rfl dX9_priceIn_23 ?_
      refine z_aload_n hX 0 rfl rfl dX9_priceIn_25 ?_
      refine z_gFI 9 6 hX (by decide) rfl (by decide) rfl q_1317 dX9_priceIn_26 (fun x8 => ?_)
      refine z_icmp_ge hX 56 (by decide) dX9_priceIn_29 (fun _ => ?_) (fun _ => ?_)
      · refine z_sub [0, 1, 2, 3] rfl ?_
        exact hkk6 (u4.1, u4.2)
      · refine z_iload_n hX 3 rfl rfl dX9_priceIn_32 ?_
        refine z_aload_n hX 0 rfl rfl dX9_priceIn_33 ?_
        refine z_gFR 9 33 hX (by decide) rfl (by decide) rfl q_1344 dX9_priceIn_34 (fun r9 => ?_)
        refine z_iload hX 4 rfl dX9_priceIn_37 ?_
        refine z_aI hX dX9_priceIn_39 (fun x10 => ?_)
        refine z_jn (C' := 0) (S' := 0) 48 (fun (j11 : Int32) => [(0, .ref v0), (1, .int v1), (2, .int v2), (4, .int u4.2)]) (fun (j11 : Int32) => [.int j11, .int u4.1]) (fun (j11 : Int32) => o3) (fun j11 => ?_) (fun kj11 => ?_)
        · refine z_iadd hX dX9_priceIn_48 ?_
          refine z_ltI (fun x12 => ?_)
          refine z_istore_n hX [(3, .int x12), (0, .ref v0), (1, .int v1), (2, .int v2), (4, .int u4.2)] rfl (by decide) rfl dX9_priceIn_49 ?_
          refine z_iinc hX 4 [(4, .int (u4.2 + 1)), (3, .int x12), (0, .ref v0), (1, .int v1), (2, .int v2)] rfl rfl (by decide) rfl dX9_priceIn_50 ?_
          refine z_goto hX 23 (by decide) dX9_priceIn_53 ?_
          refine z_sub [2, 3, 4, 1, 0] rfl ?_
          exact hrc7 (x12, u4.2 + 1)
        · refine z_iteB ?_
          refine z_if_lt hX 47 (by decide) dX9_priceIn_40 (fun _ => ?_) (fun _ => ?_)
          · refine z_iconst (v := 0) hX (by decide) dX9_priceIn_47 ?_
            refine z_pure ?_
            refine z_sub [0, 1, 2, 4] rfl ?_
            exact kj11 0
          · refine z_iconst (v := 1) hX (by decide) dX9_priceIn_43 ?_
            refine z_goto hX 48 (by decide) dX9_priceIn_44 ?_
            refine z_pure ?_
            refine z_sub [0, 1, 2, 4] rfl ?_
            exact kj11 1
  · refine z_iconst (v := 0) hX (by decide) dX9_priceIn_12 ?_
    exact z_iretM hX dX9_priceIn_13 (Nat.le_of_ble_eq_true rfl) (Nat.le_of_ble_eq_true rfl)
theorem c_X9_priceIn (l : Launch) (hl : l.stackTraces = false) (M : Mem) (v0 : Nat) (v1 : Int32) (v2 : Int32) (o : Int32 × Mem) (ho : f_X9_priceIn M v0 v1 v2 = some o) : Ct l yX9_priceIn cX9_priceIn 5 (some .int) rm_X9_priceIn [.ref v0, .int v1, .int v2] M (some (.int o.1)) o.2 :=
  Ct.of hl (by decide +kernel) (Nat.le_of_ble_eq_true rfl) rfl (fun X hX hin => z_X9_priceIn hX M v0 v1 v2 o ho)
theorem okV_X9_priceIn : okV yX9_priceIn cX9_priceIn 5 (some .int) 2 := ⟨q_1893, q_1894, q_96, q_1895, by unfold okY; decide +kernel⟩
/-! ParticipatoryBudgetModel.fundedWith(II)I -/
abbrev rm_X9_fundedWith : Room := { frames := 7, cells := 0, slots := 0, locals := 165 }
set_option maxRecDepth 20000 in
set_option maxHeartbeats 4000000 in
theorem z_X9_fundedWith {X : Cxt} (hX : okX X cX9_fundedWith RX9 rm_X9_fundedWith (some .int) 4) (M : Mem) (v0 : Nat) (v1 : Int32) (v2 : Int32) : Zj X (fun o : Int32 × Mem => Qr X rm_X9_fundedWith.cells rm_X9_fundedWith.slots (some (.int o.1)) o.2) 0 0 0 [(0, .ref v0), (1, .int v1), (2, .int v2)] [] M (f_X9_fundedWith M v0 v1 v2) := by
  unfold f_X9_fundedWith
  refine z_aload_n hX 0 rfl rfl dX9_fundedWith_0 ?_
  refine z_gFR 9 0 hX (by decide) rfl (by decide) rfl q_1311 dX9_fundedWith_1 (fun r1 => ?_)
  refine z_iload_n hX 1 rfl rfl dX9_fundedWith_4 ?_
  refine z_aI hX dX9_fundedWith_5 (fun x2 => ?_)
  refine z_istore_n hX [(3, .int x2), (0, .ref v0), (1, .int v1), (2, .int v2)] rfl (by decide) rfl dX9_fundedWith_6 ?_
  refine z_aload_n hX 1 rfl rfl dX9_fundedWith_7 ?_
  refine z_gFR 9 0 hX (by decide) rfl (by decide) rfl q_1311 dX9_fundedWith_8 (fun r3 => ?_)
  refine z_iload_n hX 2 rfl rfl dX9_fundedWith_11 ?_
  refine z_iload_n hX 3 rfl rfl dX9_fundedWith_12 ?_
  refine z_wI hX dX9_fundedWith_13 (fun M4 => ?_)
  refine z_aload_n hX 1 rfl rfl dX9_fundedWith_14 ?_
  refine z_cVVm 9 [] hX (fun l hl o ho => c_X9_equal l hl M4 v0 o ho) dX9_fundedWith_15 (by decide) rfl rfl q_1683 okV_X9_equal rfl ⟨(Nat.le_of_ble_eq_true rfl), (Nat.le_of_ble_eq_true rfl)⟩ rfl (Nat.le_of_ble_eq_true rfl) rfl rfl ⟨(Nat.le_of_ble_eq_true rfl), (Nat.le_of_ble_eq_true rfl)⟩ (fun o5 => ?_)
  refine z_aload_n hX 1 rfl rfl dX9_fundedWith_18 ?_
  refine z_gFR 9 0 hX (by decide) rfl (by decide) rfl q_1311 dX9_fundedWith_19 (fun r6 => ?_)
  refine z_iload_n hX 2 rfl rfl dX9_fundedWith_22 ?_
  refine z_iload_n hX 0 rfl rfl dX9_fundedWith_23 ?_
  refine z_wI hX dX9_fundedWith_24 (fun M7 => ?_)
  refine z_aload_n hX 1 rfl rfl dX9_fundedWith_25 ?_
  refine z_gFI 9 30 hX (by decide) rfl (by decide) rfl q_1341 dX9_fundedWith_26 (fun x8 => ?_)
  exact z_iretM hX dX9_fundedWith_29 (Nat.le_of_ble_eq_true rfl) (Nat.le_of_ble_eq_true rfl)
theorem c_X9_fundedWith (l : Launch) (hl : l.stackTraces = false) (M : Mem) (v0 : Nat) (v1 : Int32) (v2 : Int32) (o : Int32 × Mem) (ho : f_X9_fundedWith M v0 v1 v2 = some o) : Ct l yX9_fundedWith cX9_fundedWith 4 (some .int) rm_X9_fundedWith [.ref v0, .int v1, .int v2] M (some (.int o.1)) o.2 :=
  Ct.of hl (by decide +kernel) (Nat.le_of_ble_eq_true rfl) rfl (fun X hX hin => z_X9_fundedWith hX M v0 v1 v2 o ho)
theorem okV_X9_fundedWith : okV yX9_fundedWith cX9_fundedWith 4 (some .int) 2 := ⟨q_1902, q_81, q_96, q_1903, by unfold okY; decide +kernel⟩
/-! ParticipatoryBudgetModel.fundedWithBudget(II)I -/
abbrev rm_X9_fundedWithBudget : Room := { frames := 8, cells := 0, slots := 0, locals := 188 }
set_option maxRecDepth 20000 in
set_option maxHeartbeats 4000000 in
theorem z_X9_fundedWithBudget {X : Cxt} (hX : okX X cX9_fundedWithBudget RX9 rm_X9_fundedWithBudget (some .int) 3) (M : Mem) (v0 : Nat) (v1 : Int32) (v2 : Int32) : Zj X (fun o : Int32 × Mem => Qr X rm_X9_fundedWithBudget.cells rm_X9_fundedWithBudget.slots (some (.int o.1)) o.2) 0 0 0 [(0, .ref v0), (1, .int v1), (2, .int v2)] [] M (f_X9_fundedWithBudget M v0 v1 v2) := by
  unfold f_X9_fundedWithBudget
  refine z_aload_n hX 0 rfl rfl dX9_fundedWithBudget_0 ?_
  refine z_aload_n hX 0 rfl rfl dX9_fundedWithBudget_1 ?_
  refine z_iload_n hX 1 rfl rfl dX9_fundedWithBudget_2 ?_
  refine z_cVIp 9 [.int v1] hX (fun l hl o ho => c_X9_isDistrict l hl M v0 v1 o ho) dX9_fundedWithBudget_3 (by decide) rfl rfl q_1583 okV_X9_isDistrict rfl ⟨(Nat.le_of_ble_eq_true rfl), (Nat.le_of_ble_eq_true rfl)⟩ rfl (Nat.le_of_ble_eq_true rfl) rfl rfl ⟨(Nat.le_of_ble_eq_true rfl), (Nat.le_of_ble_eq_true rfl)⟩ (fun o1 => ?_)
  refine z_cVIm 9 [.int o1] hX (fun l hl o ho => c_X9_fails l hl M v0 o1 o ho) dX9_fundedWithBudget_6 (by decide) rfl rfl q_1587 okV_X9_fails rfl ⟨(Nat.le_of_ble_eq_true rfl), (Nat.le_of_ble_eq_true rfl)⟩ rfl (Nat.le_of_ble_eq_true rfl) rfl rfl ⟨(Nat.le_of_ble_eq_true rfl), (Nat.le_of_ble_eq_true rfl)⟩ (fun o2 => ?_)
  refine z_if_eq hX 14 (by decide) dX9_fundedWithBudget_9 (fun _ => ?_) (fun _ => ?_)
  · refine z_iload_n hX 2 rfl rfl dX9_fundedWithBudget_14 ?_
    refine z_iconst (v := 0) hX (by decide) dX9_fundedWithBudget_15 ?_
    refine z_ldc (v := 100000) hX q_1523 dX9_fundedWithBudget_16 ?_
    refine z_cSIp [.int v2, .int 0, .int 100000] hX (fun l hl o ho => c_X9_inRange l hl o2.2 v2 0 100000 o ho) dX9_fundedWithBudget_18 q_1467 okS_X9_inRange rfl ⟨(Nat.le_of_ble_eq_true rfl), (Nat.le_of_ble_eq_true rfl)⟩ rfl (Nat.le_of_ble_eq_true rfl) rfl rfl ⟨(Nat.le_of_ble_eq_true rfl), (Nat.le_of_ble_eq_true rfl)⟩ (fun o3 => ?_)
    refine z_jn (C' := 0) (S' := 0) 37 (fun (j4 : Int32 × Mem) => []) (fun (j4 : Int32 × Mem) => [.int j4.1]) (fun (j4 : Int32 × Mem) => j4.2) (fun j4 => ?_) (fun kj4 => ?_)
    · exact z_iretM hX dX9_fundedWithBudget_37 (Nat.le_of_ble_eq_true rfl) (Nat.le_of_ble_eq_true rfl)
    · refine z_iteB ?_
      refine z_if_eq hX 35 (by decide) dX9_fundedWithBudget_21 (fun _ => ?_) (fun _ => ?_)
      · refine z_bipush (v := (-2)) hX (by decide) dX9_fundedWithBudget_35 ?_
        refine z_pure ?_
        refine z_sub [] rfl ?_
        exact kj4 ((-2), o2.2)
      · refine z_aload_n hX 0 rfl rfl dX9_fundedWithBudget_24 ?_
        refine z_iconst (v := 4) hX (by decide) dX9_fundedWithBudget_25 ?_
        refine z_iload_n hX 1 rfl rfl dX9_fundedWithBudget_26 ?_
        refine z_iadd hX dX9_fundedWithBudget_27 ?_
        refine z_iload_n hX 2 rfl rfl dX9_fundedWithBudget_28 ?_
        refine z_asc ?_
        refine z_asc2 ?_
        refine z_cVIm 9 [.int (4 + v1), .int v2] hX (fun l hl o ho => c_X9_fundedWith l hl o2.2 v0 (4 + v1) v2 o ho) dX9_fundedWithBudget_29 (by decide) rfl rfl q_1900 okV_X9_fundedWith rfl ⟨(Nat.le_of_ble_eq_true rfl), (Nat.le_of_ble_eq_true rfl)⟩ rfl (Nat.le_of_ble_eq_true rfl) rfl rfl ⟨(Nat.le_of_ble_eq_true rfl), (Nat.le_of_ble_eq_true rfl)⟩ (fun o5 => ?_)
        refine z_goto hX 37 (by decide) dX9_fundedWithBudget_32 ?_
        refine z_pure ?_
        refine z_sub [] rfl ?_
        exact kj4 (o5.1, o5.2)
  · refine z_iconst (v := 0) hX (by decide) dX9_fundedWithBudget_12 ?_
    exact z_iretM hX dX9_fundedWithBudget_13 (Nat.le_of_ble_eq_true rfl) (Nat.le_of_ble_eq_true rfl)
theorem c_X9_fundedWithBudget (l : Launch) (hl : l.stackTraces = false) (M : Mem) (v0 : Nat) (v1 : Int32) (v2 : Int32) (o : Int32 × Mem) (ho : f_X9_fundedWithBudget M v0 v1 v2 = some o) : Ct l yX9_fundedWithBudget cX9_fundedWithBudget 3 (some .int) rm_X9_fundedWithBudget [.ref v0, .int v1, .int v2] M (some (.int o.1)) o.2 :=
  Ct.of hl (by decide +kernel) (Nat.le_of_ble_eq_true rfl) rfl (fun X hX hin => z_X9_fundedWithBudget hX M v0 v1 v2 o ho)
theorem okV_X9_fundedWithBudget : okV yX9_fundedWithBudget cX9_fundedWithBudget 3 (some .int) 2 := ⟨q_1897, q_1898, q_96, q_1899, by unfold okY; decide +kernel⟩
/-! ParticipatoryBudgetModel.fundedWithCost(II)I -/
abbrev rm_X9_fundedWithCost : Room := { frames := 8, cells := 0, slots := 0, locals := 188 }
set_option maxRecDepth 20000 in
set_option maxHeartbeats 4000000 in
theorem z_X9_fundedWithCost {X : Cxt} (hX : okX X cX9_fundedWithCost RX9 rm_X9_fundedWithCost (some .int) 3) (M : Mem) (v0 : Nat) (v1 : Int32) (v2 : Int32) : Zj X (fun o : Int32 × Mem => Qr X rm_X9_fundedWithCost.cells rm_X9_fundedWithCost.slots (some (.int o.1)) o.2) 0 0 0 [(0, .ref v0), (1, .int v1), (2, .int v2)] [] M (f_X9_fundedWithCost M v0 v1 v2) := by
  unfold f_X9_fundedWithCost
  refine z_aload_n hX 0 rfl rfl dX9_fundedWithCost_0 ?_
  refine z_aload_n hX 0 rfl rfl dX9_fundedWithCost_1 ?_
  refine z_iload_n hX 1 rfl rfl dX9_fundedWithCost_2 ?_
  refine z_cVIp 9 [.int v1] hX (fun l hl o ho => c_X9_isProject l hl M v0 v1 o ho) dX9_fundedWithCost_3 (by decide) rfl rfl q_1595 okV_X9_isProject rfl ⟨(Nat.le_of_ble_eq_true rfl), (Nat.le_of_ble_eq_true rfl)⟩ rfl (Nat.le_of_ble_eq_true rfl) rfl rfl ⟨(Nat.le_of_ble_eq_true rfl), (Nat.le_of_ble_eq_true rfl)⟩ (fun o1 => ?_)
  refine z_cVIm 9 [.int o1] hX (fun l hl o ho => c_X9_fails l hl M v0 o1 o ho) dX9_fundedWithCost_6 (by decide) rfl rfl q_1587 okV_X9_fails rfl ⟨(Nat.le_of_ble_eq_true rfl), (Nat.le_of_ble_eq_true rfl)⟩ rfl (Nat.le_of_ble_eq_true rfl) rfl rfl ⟨(Nat.le_of_ble_eq_true rfl), (Nat.le_of_ble_eq_true rfl)⟩ (fun o2 => ?_)
  refine z_if_eq hX 14 (by decide) dX9_fundedWithCost_9 (fun _ => ?_) (fun _ => ?_)
  · refine z_iload_n hX 2 rfl rfl dX9_fundedWithCost_14 ?_
    refine z_iconst (v := 1) hX (by decide) dX9_fundedWithCost_15 ?_
    refine z_ldc (v := 100000) hX q_1523 dX9_fundedWithCost_16 ?_
    refine z_cSIp [.int v2, .int 1, .int 100000] hX (fun l hl o ho => c_X9_inRange l hl o2.2 v2 1 100000 o ho) dX9_fundedWithCost_18 q_1467 okS_X9_inRange rfl ⟨(Nat.le_of_ble_eq_true rfl), (Nat.le_of_ble_eq_true rfl)⟩ rfl (Nat.le_of_ble_eq_true rfl) rfl rfl ⟨(Nat.le_of_ble_eq_true rfl), (Nat.le_of_ble_eq_true rfl)⟩ (fun o3 => ?_)
    refine z_jn (C' := 0) (S' := 0) 38 (fun (j4 : Int32 × Mem) => []) (fun (j4 : Int32 × Mem) => [.int j4.1]) (fun (j4 : Int32 × Mem) => j4.2) (fun j4 => ?_) (fun kj4 => ?_)
    · exact z_iretM hX dX9_fundedWithCost_38 (Nat.le_of_ble_eq_true rfl) (Nat.le_of_ble_eq_true rfl)
    · refine z_iteB ?_
      refine z_if_eq hX 36 (by decide) dX9_fundedWithCost_21 (fun _ => ?_) (fun _ => ?_)
      · refine z_bipush (v := (-2)) hX (by decide) dX9_fundedWithCost_36 ?_
        refine z_pure ?_
        refine z_sub [] rfl ?_
        exact kj4 ((-2), o2.2)
      · refine z_aload_n hX 0 rfl rfl dX9_fundedWithCost_24 ?_
        refine z_bipush (v := 8) hX (by decide) dX9_fundedWithCost_25 ?_
        refine z_iload_n hX 1 rfl rfl dX9_fundedWithCost_27 ?_
        refine z_iadd hX dX9_fundedWithCost_28 ?_
        refine z_iload_n hX 2 rfl rfl dX9_fundedWithCost_29 ?_
        refine z_asc ?_
        refine z_asc2 ?_
        refine z_cVIm 9 [.int (8 + v1), .int v2] hX (fun l hl o ho => c_X9_fundedWith l hl o2.2 v0 (8 + v1) v2 o ho) dX9_fundedWithCost_30 (by decide) rfl rfl q_1900 okV_X9_fundedWith rfl ⟨(Nat.le_of_ble_eq_true rfl), (Nat.le_of_ble_eq_true rfl)⟩ rfl (Nat.le_of_ble_eq_true rfl) rfl rfl ⟨(Nat.le_of_ble_eq_true rfl), (Nat.le_of_ble_eq_true rfl)⟩ (fun o5 => ?_)
        refine z_goto hX 38 (by decide) dX9_fundedWithCost_33 ?_
        refine z_pure ?_
        refine z_sub [] rfl ?_
        exact kj4 (o5.1, o5.2)
  · refine z_iconst (v := 0) hX (by decide) dX9_fundedWithCost_12 ?_
    exact z_iretM hX dX9_fundedWithCost_13 (Nat.le_of_ble_eq_true rfl) (Nat.le_of_ble_eq_true rfl)
theorem c_X9_fundedWithCost (l : Launch) (hl : l.stackTraces = false) (M : Mem) (v0 : Nat) (v1 : Int32) (v2 : Int32) (o : Int32 × Mem) (ho : f_X9_fundedWithCost M v0 v1 v2 = some o) : Ct l yX9_fundedWithCost cX9_fundedWithCost 3 (some .int) rm_X9_fundedWithCost [.ref v0, .int v1, .int v2] M (some (.int o.1)) o.2 :=
  Ct.of hl (by decide +kernel) (Nat.le_of_ble_eq_true rfl) rfl (fun X hX hin => z_X9_fundedWithCost hX M v0 v1 v2 o ho)
theorem okV_X9_fundedWithCost : okV yX9_fundedWithCost cX9_fundedWithCost 3 (some .int) 2 := ⟨q_1905, q_1906, q_96, q_1907, by unfold okY; decide +kernel⟩
/-! ParticipatoryBudgetModel.with(IIZ)I -/
abbrev rm_X9_with : Room := { frames := 0, cells := 0, slots := 0, locals := 0 }
set_option maxRecDepth 20000 in
set_option maxHeartbeats 4000000 in
theorem z_X9_with {X : Cxt} (hX : okX X cX9_with RX9 rm_X9_with (some .int) 3) (M : Mem) (v0 : Int32) (v1 : Int32) (v2 : Int32) : Zj X (fun o : Int32 => Qr X rm_X9_with.cells rm_X9_with.slots (some (.int o)) M) 0 0 0 [(0, .int v0), (1, .int v1), (2, .int v2)] [] M (f_X9_with M v0 v1 v2) := by
  unfold f_X9_with
  refine z_iload_n hX 2 rfl rfl dX9_with_0 ?_
  refine z_jn (C' := 0) (S' := 0) 19 (fun (j1 : Int32) => []) (fun (j1 : Int32) => [.int j1]) (fun (j1 : Int32) => M) (fun j1 => ?_) (fun kj1 => ?_)
  · exact z_iretP hX dX9_with_19 (Nat.le_of_ble_eq_true rfl) (Nat.le_of_ble_eq_true rfl)
  · refine z_iteB ?_
    refine z_if_eq hX 12 (by decide) dX9_with_1 (fun _ => ?_) (fun _ => ?_)
    · refine z_iload_n hX 0 rfl rfl dX9_with_12 ?_
      refine z_iconst (v := 1) hX (by decide) dX9_with_13 ?_
      refine z_iload_n hX 1 rfl rfl dX9_with_14 ?_
      refine z_ishl hX dX9_with_15 ?_
      refine z_iconst (v := (-1)) hX (by decide) dX9_with_16 ?_
      refine z_ixor hX dX9_with_17 ?_
      refine z_iand hX dX9_with_18 ?_
      refine z_pure ?_
      refine z_sub [] rfl ?_
      exact kj1 (v0 &&& (((1 : Int32) <<< (v1 &&& 31)) ^^^ (-1)))
    · refine z_iload_n hX 0 rfl rfl dX9_with_4 ?_
      refine z_iconst (v := 1) hX (by decide) dX9_with_5 ?_
      refine z_iload_n hX 1 rfl rfl dX9_with_6 ?_
      refine z_ishl hX dX9_with_7 ?_
      refine z_ior hX dX9_with_8 ?_
      refine z_goto hX 19 (by decide) dX9_with_9 ?_
      refine z_pure ?_
      refine z_sub [] rfl ?_
      exact kj1 (v0 ||| ((1 : Int32) <<< (v1 &&& 31)))
theorem c_X9_with (l : Launch) (hl : l.stackTraces = false) (M : Mem) (v0 : Int32) (v1 : Int32) (v2 : Int32) (o : Int32) (ho : f_X9_with M v0 v1 v2 = some o) : Ct l yX9_with cX9_with 3 (some .int) rm_X9_with [.int v0, .int v1, .int v2] M (some (.int o)) M :=
  Ct.of hl (by decide +kernel) (Nat.le_of_ble_eq_true rfl) rfl (fun X hX hin => z_X9_with hX M v0 v1 v2 o ho)
theorem okS_X9_with : okS yX9_with cX9_with 3 (some .int) 3 := ⟨q_1913, q_96, q_1914, by unfold okY; decide +kernel⟩
/-! ParticipatoryBudgetModel.fundedWithout(I)I -/
abbrev rm_X9_fundedWithout : Room := { frames := 7, cells := 0, slots := 0, locals := 165 }
set_option maxRecDepth 20000 in
set_option maxHeartbeats 4000000 in
theorem z_X9_fundedWithout {X : Cxt} (hX : okX X cX9_fundedWithout RX9 rm_X9_fundedWithout (some .int) 3) (M : Mem) (v0 : Nat) (v1 : Int32) : Zj X (fun o : Int32 × Mem => Qr X rm_X9_fundedWithout.cells rm_X9_fundedWithout.slots (some (.int o.1)) o.2) 0 0 0 [(0, .ref v0), (1, .int v1)] [] M (f_X9_fundedWithout M v0 v1) := by
  unfold f_X9_fundedWithout
  refine z_aload_n hX 0 rfl rfl dX9_fundedWithout_0 ?_
  refine z_aload_n hX 0 rfl rfl dX9_fundedWithout_1 ?_
  refine z_iload_n hX 1 rfl rfl dX9_fundedWithout_2 ?_
  refine z_cVIp 9 [.int v1] hX (fun l hl o ho => c_X9_isProject l hl M v0 v1 o ho) dX9_fundedWithout_3 (by decide) rfl rfl q_1595 okV_X9_isProject rfl ⟨(Nat.le_of_ble_eq_true rfl), (Nat.le_of_ble_eq_true rfl)⟩ rfl (Nat.le_of_ble_eq_true rfl) rfl rfl ⟨(Nat.le_of_ble_eq_true rfl), (Nat.le_of_ble_eq_true rfl)⟩ (fun o1 => ?_)
  refine z_cVIm 9 [.int o1] hX (fun l hl o ho => c_X9_fails l hl M v0 o1 o ho) dX9_fundedWithout_6 (by decide) rfl rfl q_1587 okV_X9_fails rfl ⟨(Nat.le_of_ble_eq_true rfl), (Nat.le_of_ble_eq_true rfl)⟩ rfl (Nat.le_of_ble_eq_true rfl) rfl rfl ⟨(Nat.le_of_ble_eq_true rfl), (Nat.le_of_ble_eq_true rfl)⟩ (fun o2 => ?_)
  refine z_if_eq hX 14 (by decide) dX9_fundedWithout_9 (fun _ => ?_) (fun _ => ?_)
  · refine z_iconst (v := 0) hX (by decide) dX9_fundedWithout_14 ?_
    refine z_istore_n hX [(2, .int 0), (0, .ref v0), (1, .int v1)] rfl (by decide) rfl dX9_fundedWithout_15 ?_
    refine z_sub [1, 2, 0] rfl ?_
    refine z_lp (x0 := (0, o2.2)) (bd_X9_fundedWithout_16 v0 v1) 16 65 (fun (u3 : Int32 × Mem) => [(0, .ref v0), (1, .int v1), (2, .int u3.1)]) (fun (e4 : Int32 × Mem) => [(0, .ref v0)]) (fun (u3 : Int32 × Mem) => u3.2) ?_ ?_
    · intro e4
      refine z_aload_n hX 0 rfl rfl dX9_fundedWithout_65 ?_
      refine z_cVVm 9 [] hX (fun l hl o ho => c_X9_equal l hl e4.2 v0 o ho) dX9_fundedWithout_66 (by decide) rfl rfl q_1683 okV_X9_equal rfl ⟨(Nat.le_of_ble_eq_true rfl), (Nat.le_of_ble_eq_true rfl)⟩ rfl (Nat.le_of_ble_eq_true rfl) rfl rfl ⟨(Nat.le_of_ble_eq_true rfl), (Nat.le_of_ble_eq_true rfl)⟩ (fun o17 => ?_)
      refine z_iconst (v := 0) hX (by decide) dX9_fundedWithout_69 ?_
      refine z_istore_n hX [(2, .int 0), (0, .ref v0)] rfl (by decide) rfl dX9_fundedWithout_70 ?_
      refine z_sub [1, 0] rfl ?_
      refine z_lp (x0 := (0, o17)) (bd_X9_fundedWithout_71 v0) 71 100 (fun (u18 : Int32 × Mem) => [(0, .ref v0), (2, .int u18.1)]) (fun (e19 : Int32 × Mem) => [(0, .ref v0)]) (fun (u18 : Int32 × Mem) => u18.2) ?_ ?_
      · intro e19
        refine z_aload_n hX 0 rfl rfl dX9_fundedWithout_100 ?_
        refine z_gFI 9 30 hX (by decide) rfl (by decide) rfl q_1341 dX9_fundedWithout_101 (fun x27 => ?_)
        exact z_iretM hX dX9_fundedWithout_104 (Nat.le_of_ble_eq_true rfl) (Nat.le_of_ble_eq_true rfl)
      · intro kk20 rc21 hkk20 hrc21 u18
        unfold bd_X9_fundedWithout_71
        refine z_iload_n hX 1 rfl rfl dX9_fundedWithout_71 ?_
        refine z_aload_n hX 0 rfl rfl dX9_fundedWithout_72 ?_
        refine z_gFI 9 7 hX (by decide) rfl (by decide) rfl q_1318 dX9_fundedWithout_73 (fun x22 => ?_)
        refine z_icmp_ge hX 100 (by decide) dX9_fundedWithout_76 (fun _ => ?_) (fun _ => ?_)
        · refine z_sub [0] rfl ?_
          exact hkk20 (u18.1, u18.2)
        · refine z_aload_n hX 0 rfl rfl dX9_fundedWithout_79 ?_
          refine z_gFR 9 0 hX (by decide) rfl (by decide) rfl q_1311 dX9_fundedWithout_80 (fun r23 => ?_)
          refine z_bipush (v := 68) hX (by decide) dX9_fundedWithout_83 ?_
          refine z_iload_n hX 1 rfl rfl dX9_fundedWithout_85 ?_
          refine z_iadd hX dX9_fundedWithout_86 ?_
          refine z_aload_n hX 0 rfl rfl dX9_fundedWithout_87 ?_
          refine z_gFR 9 41 hX (by decide) rfl (by decide) rfl q_1352 dX9_fundedWithout_88 (fun r24 => ?_)
          refine z_iload_n hX 1 rfl rfl dX9_fundedWithout_91 ?_
          refine z_aI hX dX9_fundedWithout_92 (fun x25 => ?_)
          refine z_wI hX dX9_fundedWithout_93 (fun M26 => ?_)
          refine z_iinc hX 1 [(2, .int (u18.1 + 1)), (0, .ref v0)] rfl rfl (by decide) rfl dX9_fundedWithout_94 ?_
          refine z_goto hX 71 (by decide) dX9_fundedWithout_97 ?_
          refine z_sub [1, 0] rfl ?_
          exact hrc21 (u18.1 + 1, M26)
    · intro kk5 rc6 hkk5 hrc6 u3
      unfold bd_X9_fundedWithout_16
      refine z_iload_n hX 2 rfl rfl dX9_fundedWithout_16 ?_
      refine z_aload_n hX 0 rfl rfl dX9_fundedWithout_17 ?_
      refine z_gFI 9 7 hX (by decide) rfl (by decide) rfl q_1318 dX9_fundedWithout_18 (fun x7 => ?_)
      refine z_icmp_ge hX 65 (by decide) dX9_fundedWithout_21 (fun _ => ?_) (fun _ => ?_)
      · refine z_sub [0] rfl ?_
        exact hkk5 (u3.1, u3.2)
      · refine z_aload_n hX 0 rfl rfl dX9_fundedWithout_24 ?_
        refine z_gFR 9 41 hX (by decide) rfl (by decide) rfl q_1352 dX9_fundedWithout_25 (fun r8 => ?_)
        refine z_iload_n hX 2 rfl rfl dX9_fundedWithout_28 ?_
        refine z_aload_n hX 0 rfl rfl dX9_fundedWithout_29 ?_
        refine z_gFR 9 0 hX (by decide) rfl (by decide) rfl q_1311 dX9_fundedWithout_30 (fun r9 => ?_)
        refine z_bipush (v := 68) hX (by decide) dX9_fundedWithout_33 ?_
        refine z_iload_n hX 2 rfl rfl dX9_fundedWithout_35 ?_
        refine z_iadd hX dX9_fundedWithout_36 ?_
        refine z_aI hX dX9_fundedWithout_37 (fun x10 => ?_)
        refine z_wI hX dX9_fundedWithout_38 (fun M11 => ?_)
        refine z_aload_n hX 0 rfl rfl dX9_fundedWithout_39 ?_
        refine z_gFR 9 0 hX (by decide) rfl (by decide) rfl q_1311 dX9_fundedWithout_40 (fun r12 => ?_)
        refine z_bipush (v := 68) hX (by decide) dX9_fundedWithout_43 ?_
        refine z_iload_n hX 2 rfl rfl dX9_fundedWithout_45 ?_
        refine z_iadd hX dX9_fundedWithout_46 ?_
        refine z_aload_n hX 0 rfl rfl dX9_fundedWithout_47 ?_
        refine z_gFR 9 41 hX (by decide) rfl (by decide) rfl q_1352 dX9_fundedWithout_48 (fun r13 => ?_)
        refine z_iload_n hX 2 rfl rfl dX9_fundedWithout_51 ?_
        refine z_aI hX dX9_fundedWithout_52 (fun x14 => ?_)
        refine z_iload_n hX 1 rfl rfl dX9_fundedWithout_53 ?_
        refine z_iconst (v := 0) hX (by decide) dX9_fundedWithout_54 ?_
        refine z_cSIp [.int x14, .int v1, .int 0] hX (fun l hl o ho => c_X9_with l hl M11 x14 v1 0 o ho) dX9_fundedWithout_55 q_1912 okS_X9_with rfl ⟨(Nat.le_of_ble_eq_true rfl), (Nat.le_of_ble_eq_true rfl)⟩ rfl (Nat.le_of_ble_eq_true rfl) rfl rfl ⟨(Nat.le_of_ble_eq_true rfl), (Nat.le_of_ble_eq_true rfl)⟩ (fun o15 => ?_)
        refine z_wI hX dX9_fundedWithout_58 (fun M16 => ?_)
        refine z_iinc hX 2 [(2, .int (u3.1 + 1)), (0, .ref v0), (1, .int v1)] rfl rfl (by decide) rfl dX9_fundedWithout_59 ?_
        refine z_goto hX 16 (by decide) dX9_fundedWithout_62 ?_
        refine z_sub [1, 2, 0] rfl ?_
        exact hrc6 (u3.1 + 1, M16)
  · refine z_iconst (v := 0) hX (by decide) dX9_fundedWithout_12 ?_
    exact z_iretM hX dX9_fundedWithout_13 (Nat.le_of_ble_eq_true rfl) (Nat.le_of_ble_eq_true rfl)
theorem c_X9_fundedWithout (l : Launch) (hl : l.stackTraces = false) (M : Mem) (v0 : Nat) (v1 : Int32) (o : Int32 × Mem) (ho : f_X9_fundedWithout M v0 v1 = some o) : Ct l yX9_fundedWithout cX9_fundedWithout 3 (some .int) rm_X9_fundedWithout [.ref v0, .int v1] M (some (.int o.1)) o.2 :=
  Ct.of hl (by decide +kernel) (Nat.le_of_ble_eq_true rfl) rfl (fun X hX hin => z_X9_fundedWithout hX M v0 v1 o ho)
theorem okV_X9_fundedWithout : okV yX9_fundedWithout cX9_fundedWithout 3 (some .int) 1 := ⟨q_1909, q_1910, q_96, q_1911, by unfold okY; decide +kernel⟩
/-! ParticipatoryBudgetModel.cheapestSet(I)I -/
abbrev rm_X9_cheapestSet : Room := { frames := 4, cells := 0, slots := 0, locals := 87 }
set_option maxRecDepth 20000 in
set_option maxHeartbeats 4000000 in
theorem z_X9_cheapestSet {X : Cxt} (hX : okX X cX9_cheapestSet RX9 rm_X9_cheapestSet (some .int) 4) (M : Mem) (v0 : Nat) (v1 : Int32) : Zj X (fun o : Int32 × Mem => Qr X rm_X9_cheapestSet.cells rm_X9_cheapestSet.slots (some (.int o.1)) o.2) 0 0 0 [(0, .ref v0), (1, .int v1)] [] M (f_X9_cheapestSet M v0 v1) := by
  unfold f_X9_cheapestSet
  refine z_aload_n hX 0 rfl rfl dX9_cheapestSet_0 ?_
  refine z_iconst (v := 0) hX (by decide) dX9_cheapestSet_1 ?_
  refine z_pFI 9 4 hX (by decide) rfl (by decide) rfl q_1315 rfl pd_1 rfl rfl dX9_cheapestSet_2 (fun M1 => ?_)
  refine z_iload_n hX 1 rfl rfl dX9_cheapestSet_5 ?_
  refine z_if_ge hX 12 (by decide) dX9_cheapestSet_6 (fun _ => ?_) (fun _ => ?_)
  · refine z_aload_n hX 0 rfl rfl dX9_cheapestSet_12 ?_
    refine z_cVVm 9 [] hX (fun l hl o ho => c_X9_layGains l hl M1 v0 o ho) dX9_cheapestSet_13 (by decide) rfl rfl q_1731 okV_X9_layGains rfl ⟨(Nat.le_of_ble_eq_true rfl), (Nat.le_of_ble_eq_true rfl)⟩ rfl (Nat.le_of_ble_eq_true rfl) rfl rfl ⟨(Nat.le_of_ble_eq_true rfl), (Nat.le_of_ble_eq_true rfl)⟩ (fun o2 => ?_)
    refine z_iconst (v := (-1)) hX (by decide) dX9_cheapestSet_16 ?_
    refine z_ltI (fun x3 => ?_)
    refine z_istore_n hX [(2, .int x3), (0, .ref v0), (1, .int v1)] rfl (by decide) rfl dX9_cheapestSet_17 ?_
    refine z_iconst (v := 0) hX (by decide) dX9_cheapestSet_18 ?_
    refine z_istore_n hX [(3, .int 0), (2, .int x3), (0, .ref v0), (1, .int v1)] rfl (by decide) rfl dX9_cheapestSet_19 ?_
    refine z_sub [2, 3, 1, 0] rfl ?_
    refine z_lp (x0 := (x3, 0)) (bd_X9_cheapestSet_20 v0 v1 o2) 20 77 (fun (u4 : Int32 × Int32) => [(0, .ref v0), (1, .int v1), (2, .int u4.1), (3, .int u4.2)]) (fun (e5 : Int32 × Int32) => [(2, .int e5.1)]) (fun (u4 : Int32 × Int32) => o2) ?_ ?_
    · intro e5
      refine z_iload_n hX 0 rfl rfl dX9_cheapestSet_77 ?_
      exact z_iretM hX dX9_cheapestSet_78 (Nat.le_of_ble_eq_true rfl) (Nat.le_of_ble_eq_true rfl)
    · intro kk6 rc7 hkk6 hrc7 u4
      unfold bd_X9_cheapestSet_20
      refine z_iload_n hX 3 rfl rfl dX9_cheapestSet_20 ?_
      refine z_iconst (v := 1) hX (by decide) dX9_cheapestSet_21 ?_
      refine z_aload_n hX 0 rfl rfl dX9_cheapestSet_22 ?_
      refine z_gFI 9 6 hX (by decide) rfl (by decide) rfl q_1317 dX9_cheapestSet_23 (fun x8 => ?_)
      refine z_ishl hX dX9_cheapestSet_26 ?_
      refine z_icmp_ge hX 77 (by decide) dX9_cheapestSet_27 (fun _ => ?_) (fun _ => ?_)
      · refine z_sub [2] rfl ?_
        exact hkk6 (u4.1, u4.2)
      · refine z_aload_n hX 0 rfl rfl dX9_cheapestSet_30 ?_
        refine z_iload_n hX 3 rfl rfl dX9_cheapestSet_31 ?_
        refine z_cVJp 9 [.int u4.2] hX (fun l hl o ho => c_X9_gainOf l hl o2 v0 u4.2 o ho) dX9_cheapestSet_32 (by decide) rfl rfl q_1739 okV_X9_gainOf rfl ⟨(Nat.le_of_ble_eq_true rfl), (Nat.le_of_ble_eq_true rfl)⟩ rfl (Nat.le_of_ble_eq_true rfl) rfl rfl ⟨(Nat.le_of_ble_eq_true rfl), (Nat.le_of_ble_eq_true rfl)⟩ (fun o9 => ?_)
        refine z_iload_n hX 1 rfl rfl dX9_cheapestSet_35 ?_
        refine z_i2l hX rfl dX9_cheapestSet_36 ?_
        refine z_lcmp hX dX9_cheapestSet_37 ?_
        refine z_jn (C' := 0) (S' := 0) 71 (fun (j10 : Int32) => [(0, .ref v0), (1, .int v1), (2, .int j10), (3, .int u4.2)]) (fun (j10 : Int32) => []) (fun (j10 : Int32) => o2) (fun j10 => ?_) (fun kj10 => ?_)
        · refine z_iinc hX 3 [(3, .int (u4.2 + 1)), (0, .ref v0), (1, .int v1), (2, .int j10)] rfl rfl (by decide) rfl dX9_cheapestSet_71 ?_
          refine z_goto hX 20 (by decide) dX9_cheapestSet_74 ?_
          refine z_sub [1, 2, 3, 0] rfl ?_
          exact hrc7 (j10, u4.2 + 1)
        · refine z_iteB ?_
          refine z_if_lt hX 71 (by decide) dX9_cheapestSet_38 (fun _ => ?_) (fun _ => ?_)
          · refine z_pure ?_
            refine z_sub [0, 1, 2, 3] rfl ?_
            exact kj10 u4.1
          · refine z_iload_n hX 2 rfl rfl dX9_cheapestSet_41 ?_
            refine z_jlB (C' := 0) (S' := 0) 58 (fun (j11 : Unit) => [(0, .ref v0), (1, .int v1), (2, .int u4.1), (3, .int u4.2)]) (fun (j11 : Unit) => []) (fun (j11 : Unit) => o2) (fun j11 => ?_) (fun j11f kj11 => ?_)
            · refine z_aload_n hX 0 rfl rfl dX9_cheapestSet_58 ?_
              refine z_iload_n hX 3 rfl rfl dX9_cheapestSet_59 ?_
              refine z_asc ?_
              refine z_asc2 ?_
              refine z_cVIp 9 [.int u4.2] hX (fun l hl o ho => c_X9_isPayable l hl o2 v0 u4.2 o ho) dX9_cheapestSet_60 (by decide) rfl rfl q_1747 okV_X9_isPayable rfl ⟨(Nat.le_of_ble_eq_true rfl), (Nat.le_of_ble_eq_true rfl)⟩ rfl (Nat.le_of_ble_eq_true rfl) rfl rfl ⟨(Nat.le_of_ble_eq_true rfl), (Nat.le_of_ble_eq_true rfl)⟩ (fun o12 => ?_)
              refine z_iteB ?_
              refine z_if_ne hX 69 (by decide) dX9_cheapestSet_63 (fun _ => ?_) (fun _ => ?_)
              · refine z_iload_n hX 3 rfl rfl dX9_cheapestSet_69 ?_
                refine z_istore_n hX [(2, .int u4.2), (0, .ref v0), (1, .int v1), (3, .int u4.2)] rfl (by decide) rfl dX9_cheapestSet_70 ?_
                refine z_pure ?_
                refine z_sub [1, 2, 0, 3] rfl ?_
                exact kj10 u4.2
              · refine z_goto hX 71 (by decide) dX9_cheapestSet_66 ?_
                refine z_pure ?_
                refine z_sub [0, 1, 2, 3] rfl ?_
                exact kj10 u4.1
            · refine z_iteB ?_
              refine z_if_lt hX 58 (by decide) dX9_cheapestSet_42 (fun _ => ?_) (fun _ => ?_)
              · refine z_sub [0, 1, 2, 3] rfl ?_
                exact kj11 ()
              · refine z_aload_n hX 0 rfl rfl dX9_cheapestSet_45 ?_
                refine z_iload_n hX 3 rfl rfl dX9_cheapestSet_46 ?_
                refine z_asc ?_
                refine z_asc2 ?_
                refine z_cVIp 9 [.int u4.2] hX (fun l hl o ho => c_X9_costsOf l hl o2 v0 u4.2 o ho) dX9_cheapestSet_47 (by decide) rfl rfl q_1743 okV_X9_costsOf rfl ⟨(Nat.le_of_ble_eq_true rfl), (Nat.le_of_ble_eq_true rfl)⟩ rfl (Nat.le_of_ble_eq_true rfl) rfl rfl ⟨(Nat.le_of_ble_eq_true rfl), (Nat.le_of_ble_eq_true rfl)⟩ (fun o13 => ?_)
                refine z_aload_n hX 0 rfl rfl dX9_cheapestSet_50 ?_
                refine z_iload_n hX 2 rfl rfl dX9_cheapestSet_51 ?_
                refine z_asc ?_
                refine z_asc2 ?_
                refine z_cVIp 9 [.int u4.1] hX (fun l hl o ho => c_X9_costsOf l hl o2 v0 u4.1 o ho) dX9_cheapestSet_52 (by decide) rfl rfl q_1743 okV_X9_costsOf rfl ⟨(Nat.le_of_ble_eq_true rfl), (Nat.le_of_ble_eq_true rfl)⟩ rfl (Nat.le_of_ble_eq_true rfl) rfl rfl ⟨(Nat.le_of_ble_eq_true rfl), (Nat.le_of_ble_eq_true rfl)⟩ (fun o14 => ?_)
                refine z_iteB ?_
                refine z_icmp_ge hX 71 (by decide) dX9_cheapestSet_55 (fun _ => ?_) (fun _ => ?_)
                · refine z_pure ?_
                  refine z_sub [0, 1, 2, 3] rfl ?_
                  exact kj10 u4.1
                · refine z_sub [0, 1, 2, 3] rfl ?_
                  exact kj11 ()
  · refine z_bipush (v := (-2)) hX (by decide) dX9_cheapestSet_9 ?_
    exact z_iretM hX dX9_cheapestSet_11 (Nat.le_of_ble_eq_true rfl) (Nat.le_of_ble_eq_true rfl)
theorem c_X9_cheapestSet (l : Launch) (hl : l.stackTraces = false) (M : Mem) (v0 : Nat) (v1 : Int32) (o : Int32 × Mem) (ho : f_X9_cheapestSet M v0 v1 = some o) : Ct l yX9_cheapestSet cX9_cheapestSet 4 (some .int) rm_X9_cheapestSet [.ref v0, .int v1] M (some (.int o.1)) o.2 :=
  Ct.of hl (by decide +kernel) (Nat.le_of_ble_eq_true rfl) rfl (fun X hX hin => z_X9_cheapestSet hX M v0 v1 o ho)
theorem okV_X9_cheapestSet : okV yX9_cheapestSet cX9_cheapestSet 4 (some .int) 1 := ⟨q_1916, q_1917, q_96, q_1918, by unfold okY; decide +kernel⟩
/-! ParticipatoryBudgetModel.districtWelfare(II)I -/
abbrev rm_X9_districtWelfare : Room := { frames := 8, cells := 0, slots := 0, locals := 186 }
set_option maxRecDepth 20000 in
set_option maxHeartbeats 4000000 in
theorem z_X9_districtWelfare {X : Cxt} (hX : okX X cX9_districtWelfare RX9 rm_X9_districtWelfare (some .int) 5) (M : Mem) (v0 : Nat) (v1 : Int32) (v2 : Int32) : Zj X (fun o : Int32 × Mem => Qr X rm_X9_districtWelfare.cells rm_X9_districtWelfare.slots (some (.int o.1)) o.2) 0 0 0 [(0, .ref v0), (1, .int v1), (2, .int v2)] [] M (f_X9_districtWelfare M v0 v1 v2) := by
  unfold f_X9_districtWelfare
  refine z_aload_n hX 0 rfl rfl dX9_districtWelfare_0 ?_
  refine z_aload_n hX 0 rfl rfl dX9_districtWelfare_1 ?_
  refine z_iload_n hX 2 rfl rfl dX9_districtWelfare_2 ?_
  refine z_cVIp 9 [.int v2] hX (fun l hl o ho => c_X9_isDistrict l hl M v0 v2 o ho) dX9_districtWelfare_3 (by decide) rfl rfl q_1583 okV_X9_isDistrict rfl ⟨(Nat.le_of_ble_eq_true rfl), (Nat.le_of_ble_eq_true rfl)⟩ rfl (Nat.le_of_ble_eq_true rfl) rfl rfl ⟨(Nat.le_of_ble_eq_true rfl), (Nat.le_of_ble_eq_true rfl)⟩ (fun o1 => ?_)
  refine z_cVIm 9 [.int o1] hX (fun l hl o ho => c_X9_fails l hl M v0 o1 o ho) dX9_districtWelfare_6 (by decide) rfl rfl q_1587 okV_X9_fails rfl ⟨(Nat.le_of_ble_eq_true rfl), (Nat.le_of_ble_eq_true rfl)⟩ rfl (Nat.le_of_ble_eq_true rfl) rfl rfl ⟨(Nat.le_of_ble_eq_true rfl), (Nat.le_of_ble_eq_true rfl)⟩ (fun o2 => ?_)
  refine z_if_eq hX 14 (by decide) dX9_districtWelfare_9 (fun _ => ?_) (fun _ => ?_)
  · refine z_aload_n hX 0 rfl rfl dX9_districtWelfare_14 ?_
    refine z_iload_n hX 1 rfl rfl dX9_districtWelfare_15 ?_
    refine z_cVIm 9 [.int v1] hX (fun l hl o ho => c_X9_runs l hl o2.2 v0 v1 o ho) dX9_districtWelfare_16 (by decide) rfl rfl q_1679 okV_X9_runs rfl ⟨(Nat.le_of_ble_eq_true rfl), (Nat.le_of_ble_eq_true rfl)⟩ rfl (Nat.le_of_ble_eq_true rfl) rfl rfl ⟨(Nat.le_of_ble_eq_true rfl), (Nat.le_of_ble_eq_true rfl)⟩ (fun o3 => ?_)
    refine z_if_ne hX 25 (by decide) dX9_districtWelfare_19 (fun _ => ?_) (fun _ => ?_)
    · refine z_iconst (v := 0) hX (by decide) dX9_districtWelfare_25 ?_
      refine z_istore_n hX [(3, .int 0), (0, .ref v0), (1, .int v1), (2, .int v2)] rfl (by decide) rfl dX9_districtWelfare_26 ?_
      refine z_iconst (v := 0) hX (by decide) dX9_districtWelfare_27 ?_
      refine z_istore hX [(4, .int 0), (3, .int 0), (0, .ref v0), (1, .int v1), (2, .int v2)] (by decide) rfl dX9_districtWelfare_28 ?_
      refine z_sub [2, 4, 1, 0] rfl ?_
      refine z_lp (x0 := (0, 0)) (bd_X9_districtWelfare_30 v0 v2 o3) 30 75 (fun (u4 : Int32 × Int32) => [(0, .ref v0), (2, .int v2), (3, .int u4.1), (4, .int u4.2)]) (fun (e5 : Int32 × Int32) => [(3, .int e5.1)]) (fun (u4 : Int32 × Int32) => o3.2) ?_ ?_
      · intro e5
        refine z_iload_n hX 0 rfl rfl dX9_districtWelfare_75 ?_
        exact z_iretM hX dX9_districtWelfare_76 (Nat.le_of_ble_eq_true rfl) (Nat.le_of_ble_eq_true rfl)
      · intro kk6 rc7 hkk6 hrc7 u4
        unfold bd_X9_districtWelfare_30
        refine z_iload hX 3 rfl dX9_districtWelfare_30 ?_
        refine z_aload_n hX 0 rfl rfl dX9_districtWelfare_32 ?_
        refine z_gFI 9 7 hX (by decide) rfl (by decide) rfl q_1318 dX9_districtWelfare_33 (fun x8 => ?_)
        refine z_icmp_ge hX 75 (by decide) dX9_districtWelfare_36 (fun _ => ?_) (fun _ => ?_)
        · refine z_sub [2] rfl ?_
          exact hkk6 (u4.1, u4.2)
        · refine z_iload_n hX 2 rfl rfl dX9_districtWelfare_39 ?_
          refine z_aload_n hX 0 rfl rfl dX9_districtWelfare_40 ?_
          refine z_gFR 9 0 hX (by decide) rfl (by decide) rfl q_1311 dX9_districtWelfare_41 (fun r9 => ?_)
          refine z_bipush (v := 44) hX (by decide) dX9_districtWelfare_44 ?_
          refine z_iload hX 3 rfl dX9_districtWelfare_46 ?_
          refine z_iadd hX dX9_districtWelfare_48 ?_
          refine z_aI hX dX9_districtWelfare_49 (fun x10 => ?_)
          refine z_iload_n hX 1 rfl rfl dX9_districtWelfare_50 ?_
          refine z_cSIp [.int x10, .int v2] hX (fun l hl o ho => c_X9_has l hl o3.2 x10 v2 o ho) dX9_districtWelfare_51 q_1537 okS_X9_has rfl ⟨(Nat.le_of_ble_eq_true rfl), (Nat.le_of_ble_eq_true rfl)⟩ rfl (Nat.le_of_ble_eq_true rfl) rfl rfl ⟨(Nat.le_of_ble_eq_true rfl), (Nat.le_of_ble_eq_true rfl)⟩ (fun o11 => ?_)
          refine z_jn (C' := 0) (S' := 0) 67 (fun (j12 : Int32) => [(0, .ref v0), (2, .int v2), (4, .int u4.2)]) (fun (j12 : Int32) => [.int j12, .int u4.1]) (fun (j12 : Int32) => o3.2) (fun j12 => ?_) (fun kj12 => ?_)
          · refine z_iadd hX dX9_districtWelfare_67 ?_
            refine z_ltI (fun x13 => ?_)
            refine z_istore_n hX [(3, .int x13), (0, .ref v0), (2, .int v2), (4, .int u4.2)] rfl (by decide) rfl dX9_districtWelfare_68 ?_
            refine z_iinc hX 3 [(4, .int (u4.2 + 1)), (3, .int x13), (0, .ref v0), (2, .int v2)] rfl rfl (by decide) rfl dX9_districtWelfare_69 ?_
            refine z_goto hX 30 (by decide) dX9_districtWelfare_72 ?_
            refine z_sub [2, 3, 1, 0] rfl ?_
            exact hrc7 (x13, u4.2 + 1)
          · refine z_iteB ?_
            refine z_if_eq hX 66 (by decide) dX9_districtWelfare_54 (fun _ => ?_) (fun _ => ?_)
            · refine z_iconst (v := 0) hX (by decide) dX9_districtWelfare_66 ?_
              refine z_pure ?_
              refine z_sub [0, 1, 3] rfl ?_
              exact kj12 0
            · refine z_aload_n hX 0 rfl rfl dX9_districtWelfare_57 ?_
              refine z_iload hX 3 rfl dX9_districtWelfare_58 ?_
              refine z_asc ?_
              refine z_asc2 ?_
              refine z_cVIp 9 [.int u4.2] hX (fun l hl o ho => c_X9_joyOf l hl o3.2 v0 u4.2 o ho) dX9_districtWelfare_60 (by decide) rfl rfl q_1808 okV_X9_joyOf rfl ⟨(Nat.le_of_ble_eq_true rfl), (Nat.le_of_ble_eq_true rfl)⟩ rfl (Nat.le_of_ble_eq_true rfl) rfl rfl ⟨(Nat.le_of_ble_eq_true rfl), (Nat.le_of_ble_eq_true rfl)⟩ (fun o14 => ?_)
              refine z_goto hX 67 (by decide) dX9_districtWelfare_63 ?_
              refine z_pure ?_
              refine z_sub [0, 1, 3] rfl ?_
              exact kj12 o14
    · refine z_bipush (v := (-2)) hX (by decide) dX9_districtWelfare_22 ?_
      exact z_iretM hX dX9_districtWelfare_24 (Nat.le_of_ble_eq_true rfl) (Nat.le_of_ble_eq_true rfl)
  · refine z_iconst (v := 0) hX (by decide) dX9_districtWelfare_12 ?_
    exact z_iretM hX dX9_districtWelfare_13 (Nat.le_of_ble_eq_true rfl) (Nat.le_of_ble_eq_true rfl)
theorem c_X9_districtWelfare (l : Launch) (hl : l.stackTraces = false) (M : Mem) (v0 : Nat) (v1 : Int32) (v2 : Int32) (o : Int32 × Mem) (ho : f_X9_districtWelfare M v0 v1 v2 = some o) : Ct l yX9_districtWelfare cX9_districtWelfare 5 (some .int) rm_X9_districtWelfare [.ref v0, .int v1, .int v2] M (some (.int o.1)) o.2 :=
  Ct.of hl (by decide +kernel) (Nat.le_of_ble_eq_true rfl) rfl (fun X hX hin => z_X9_districtWelfare hX M v0 v1 v2 o ho)
theorem okV_X9_districtWelfare : okV yX9_districtWelfare cX9_districtWelfare 5 (some .int) 2 := ⟨q_1920, q_1921, q_96, q_1922, by unfold okY; decide +kernel⟩
/-! ParticipatoryBudgetModel.rankOf(II)I -/
abbrev rm_X9_rankOf : Room := { frames := 8, cells := 0, slots := 0, locals := 186 }
set_option maxRecDepth 20000 in
set_option maxHeartbeats 4000000 in
theorem z_X9_rankOf {X : Cxt} (hX : okX X cX9_rankOf RX9 rm_X9_rankOf (some .int) 5) (M : Mem) (v0 : Nat) (v1 : Int32) (v2 : Int32) : Zj X (fun o : Int32 × Mem => Qr X rm_X9_rankOf.cells rm_X9_rankOf.slots (some (.int o.1)) o.2) 0 0 0 [(0, .ref v0), (1, .int v1), (2, .int v2)] [] M (f_X9_rankOf M v0 v1 v2) := by
  unfold f_X9_rankOf
  refine z_aload_n hX 0 rfl rfl dX9_rankOf_0 ?_
  refine z_aload_n hX 0 rfl rfl dX9_rankOf_1 ?_
  refine z_iload_n hX 2 rfl rfl dX9_rankOf_2 ?_
  refine z_cVIp 9 [.int v2] hX (fun l hl o ho => c_X9_isVoter l hl M v0 v2 o ho) dX9_rankOf_3 (by decide) rfl rfl q_1607 okV_X9_isVoter rfl ⟨(Nat.le_of_ble_eq_true rfl), (Nat.le_of_ble_eq_true rfl)⟩ rfl (Nat.le_of_ble_eq_true rfl) rfl rfl ⟨(Nat.le_of_ble_eq_true rfl), (Nat.le_of_ble_eq_true rfl)⟩ (fun o1 => ?_)
  refine z_cVIm 9 [.int o1] hX (fun l hl o ho => c_X9_fails l hl M v0 o1 o ho) dX9_rankOf_6 (by decide) rfl rfl q_1587 okV_X9_fails rfl ⟨(Nat.le_of_ble_eq_true rfl), (Nat.le_of_ble_eq_true rfl)⟩ rfl (Nat.le_of_ble_eq_true rfl) rfl rfl ⟨(Nat.le_of_ble_eq_true rfl), (Nat.le_of_ble_eq_true rfl)⟩ (fun o2 => ?_)
  refine z_if_eq hX 14 (by decide) dX9_rankOf_9 (fun _ => ?_) (fun _ => ?_)
  · refine z_aload_n hX 0 rfl rfl dX9_rankOf_14 ?_
    refine z_iload_n hX 1 rfl rfl dX9_rankOf_15 ?_
    refine z_cVIm 9 [.int v1] hX (fun l hl o ho => c_X9_runs l hl o2.2 v0 v1 o ho) dX9_rankOf_16 (by decide) rfl rfl q_1679 okV_X9_runs rfl ⟨(Nat.le_of_ble_eq_true rfl), (Nat.le_of_ble_eq_true rfl)⟩ rfl (Nat.le_of_ble_eq_true rfl) rfl rfl ⟨(Nat.le_of_ble_eq_true rfl), (Nat.le_of_ble_eq_true rfl)⟩ (fun o3 => ?_)
    refine z_if_ne hX 25 (by decide) dX9_rankOf_19 (fun _ => ?_) (fun _ => ?_)
    · refine z_iconst (v := 0) hX (by decide) dX9_rankOf_25 ?_
      refine z_istore_n hX [(3, .int 0), (0, .ref v0), (1, .int v1), (2, .int v2)] rfl (by decide) rfl dX9_rankOf_26 ?_
      refine z_iconst (v := 0) hX (by decide) dX9_rankOf_27 ?_
      refine z_istore hX [(4, .int 0), (3, .int 0), (0, .ref v0), (1, .int v1), (2, .int v2)] (by decide) rfl dX9_rankOf_28 ?_
      refine z_sub [2, 4, 1, 0] rfl ?_
      refine z_lp (x0 := (0, 0)) (bd_X9_rankOf_30 v0 v2 o3) 30 87 (fun (u4 : Int32 × Int32) => [(0, .ref v0), (2, .int v2), (3, .int u4.1), (4, .int u4.2)]) (fun (e5 : Int32 × Int32) => [(3, .int e5.1)]) (fun (u4 : Int32 × Int32) => o3.2) ?_ ?_
      · intro e5
        refine z_iload_n hX 0 rfl rfl dX9_rankOf_87 ?_
        exact z_iretM hX dX9_rankOf_88 (Nat.le_of_ble_eq_true rfl) (Nat.le_of_ble_eq_true rfl)
      · intro kk6 rc7 hkk6 hrc7 u4
        unfold bd_X9_rankOf_30
        refine z_iload hX 3 rfl dX9_rankOf_30 ?_
        refine z_aload_n hX 0 rfl rfl dX9_rankOf_32 ?_
        refine z_gFI 9 7 hX (by decide) rfl (by decide) rfl q_1318 dX9_rankOf_33 (fun x8 => ?_)
        refine z_icmp_ge hX 87 (by decide) dX9_rankOf_36 (fun _ => ?_) (fun _ => ?_)
        · refine z_sub [2] rfl ?_
          exact hkk6 (u4.1, u4.2)
        · refine z_iload_n hX 2 rfl rfl dX9_rankOf_39 ?_
          refine z_aload_n hX 0 rfl rfl dX9_rankOf_40 ?_
          refine z_iload hX 3 rfl dX9_rankOf_41 ?_
          refine z_cVIp 9 [.int u4.2] hX (fun l hl o ho => c_X9_joyOf l hl o3.2 v0 u4.2 o ho) dX9_rankOf_43 (by decide) rfl rfl q_1808 okV_X9_joyOf rfl ⟨(Nat.le_of_ble_eq_true rfl), (Nat.le_of_ble_eq_true rfl)⟩ rfl (Nat.le_of_ble_eq_true rfl) rfl rfl ⟨(Nat.le_of_ble_eq_true rfl), (Nat.le_of_ble_eq_true rfl)⟩ (fun o9 => ?_)
          refine z_aload_n hX 0 rfl rfl dX9_rankOf_46 ?_
          refine z_iload_n hX 1 rfl rfl dX9_rankOf_47 ?_
          refine z_cVIp 9 [.int v2] hX (fun l hl o ho => c_X9_joyOf l hl o3.2 v0 v2 o ho) dX9_rankOf_48 (by decide) rfl rfl q_1808 okV_X9_joyOf rfl ⟨(Nat.le_of_ble_eq_true rfl), (Nat.le_of_ble_eq_true rfl)⟩ rfl (Nat.le_of_ble_eq_true rfl) rfl rfl ⟨(Nat.le_of_ble_eq_true rfl), (Nat.le_of_ble_eq_true rfl)⟩ (fun o10 => ?_)
          refine z_jn (C' := 0) (S' := 0) 79 (fun (j11 : Int32) => [(0, .ref v0), (2, .int v2), (4, .int u4.2)]) (fun (j11 : Int32) => [.int j11, .int u4.1]) (fun (j11 : Int32) => o3.2) (fun j11 => ?_) (fun kj11 => ?_)
          · refine z_iadd hX dX9_rankOf_79 ?_
            refine z_ltI (fun x12 => ?_)
            refine z_istore_n hX [(3, .int x12), (0, .ref v0), (2, .int v2), (4, .int u4.2)] rfl (by decide) rfl dX9_rankOf_80 ?_
            refine z_iinc hX 3 [(4, .int (u4.2 + 1)), (3, .int x12), (0, .ref v0), (2, .int v2)] rfl rfl (by decide) rfl dX9_rankOf_81 ?_
            refine z_goto hX 30 (by decide) dX9_rankOf_84 ?_
            refine z_sub [2, 3, 1, 0] rfl ?_
            exact hrc7 (x12, u4.2 + 1)
          · refine z_iteB ?_
            refine z_icmp_gt hX 74 (by decide) dX9_rankOf_51 (fun _ => ?_) (fun _ => ?_)
            · refine z_iconst (v := 1) hX (by decide) dX9_rankOf_74 ?_
              refine z_goto hX 79 (by decide) dX9_rankOf_75 ?_
              refine z_pure ?_
              refine z_sub [0, 1, 3] rfl ?_
              exact kj11 1
            · refine z_aload_n hX 0 rfl rfl dX9_rankOf_54 ?_
              refine z_iload hX 3 rfl dX9_rankOf_55 ?_
              refine z_asc ?_
              refine z_asc2 ?_
              refine z_cVIp 9 [.int u4.2] hX (fun l hl o ho => c_X9_joyOf l hl o3.2 v0 u4.2 o ho) dX9_rankOf_57 (by decide) rfl rfl q_1808 okV_X9_joyOf rfl ⟨(Nat.le_of_ble_eq_true rfl), (Nat.le_of_ble_eq_true rfl)⟩ rfl (Nat.le_of_ble_eq_true rfl) rfl rfl ⟨(Nat.le_of_ble_eq_true rfl), (Nat.le_of_ble_eq_true rfl)⟩ (fun o13 => ?_)
              refine z_aload_n hX 0 rfl rfl dX9_rankOf_60 ?_
              refine z_iload_n hX 1 rfl rfl dX9_rankOf_61 ?_
              refine z_asc ?_
              refine z_asc2 ?_
              refine z_cVIp 9 [.int v2] hX (fun l hl o ho => c_X9_joyOf l hl o3.2 v0 v2 o ho) dX9_rankOf_62 (by decide) rfl rfl q_1808 okV_X9_joyOf rfl ⟨(Nat.le_of_ble_eq_true rfl), (Nat.le_of_ble_eq_true rfl)⟩ rfl (Nat.le_of_ble_eq_true rfl) rfl rfl ⟨(Nat.le_of_ble_eq_true rfl), (Nat.le_of_ble_eq_true rfl)⟩ (fun o14 => ?_)
              refine z_iteB ?_
              refine z_icmp_ne hX 78 (by decide) dX9_rankOf_65 (fun _ => ?_) (fun _ => ?_)
              · refine z_iconst (v := 0) hX (by decide) dX9_rankOf_78 ?_
                refine z_pure ?_
                refine z_sub [0, 1, 3] rfl ?_
                exact kj11 0
              · refine z_iload hX 3 rfl dX9_rankOf_68 ?_
                refine z_iload_n hX 1 rfl rfl dX9_rankOf_70 ?_
                refine z_iteB ?_
                refine z_icmp_ge hX 78 (by decide) dX9_rankOf_71 (fun _ => ?_) (fun _ => ?_)
                · refine z_iconst (v := 0) hX (by decide) dX9_rankOf_78 ?_
                  refine z_pure ?_
                  refine z_sub [0, 1, 3] rfl ?_
                  exact kj11 0
                · refine z_iconst (v := 1) hX (by decide) dX9_rankOf_74 ?_
                  refine z_goto hX 79 (by decide) dX9_rankOf_75 ?_
                  refine z_pure ?_
                  refine z_sub [0, 1, 3] rfl ?_
                  exact kj11 1
    · refine z_bipush (v := (-2)) hX (by decide) dX9_rankOf_22 ?_
      exact z_iretM hX dX9_rankOf_24 (Nat.le_of_ble_eq_true rfl) (Nat.le_of_ble_eq_true rfl)
  · refine z_iconst (v := 0) hX (by decide) dX9_rankOf_12 ?_
    exact z_iretM hX dX9_rankOf_13 (Nat.le_of_ble_eq_true rfl) (Nat.le_of_ble_eq_true rfl)
theorem c_X9_rankOf (l : Launch) (hl : l.stackTraces = false) (M : Mem) (v0 : Nat) (v1 : Int32) (v2 : Int32) (o : Int32 × Mem) (ho : f_X9_rankOf M v0 v1 v2 = some o) : Ct l yX9_rankOf cX9_rankOf 5 (some .int) rm_X9_rankOf [.ref v0, .int v1, .int v2] M (some (.int o.1)) o.2 :=
  Ct.of hl (by decide +kernel) (Nat.le_of_ble_eq_true rfl) rfl (fun X hX hin => z_X9_rankOf hX M v0 v1 v2 o ho)
theorem okV_X9_rankOf : okV yX9_rankOf cX9_rankOf 5 (some .int) 2 := ⟨q_1924, q_1925, q_96, q_1926, by unfold okY; decide +kernel⟩
/-! ParticipatoryBudgetModel.heldBy(I)I -/
abbrev rm_X9_heldBy : Room := { frames := 0, cells := 0, slots := 0, locals := 0 }
set_option maxRecDepth 20000 in
set_option maxHeartbeats 4000000 in
theorem z_X9_heldBy {X : Cxt} (hX : okX X cX9_heldBy RX9 rm_X9_heldBy (some .int) 4) (M : Mem) (v0 : Nat) (v1 : Int32) : Zj X (fun o : Int32 => Qr X rm_X9_heldBy.cells rm_X9_heldBy.slots (some (.int o)) M) 0 0 0 [(0, .ref v0), (1, .int v1)] [] M (f_X9_heldBy M v0 v1) := by
  unfold f_X9_heldBy
  refine z_iconst (v := 0) hX (by decide) dX9_heldBy_0 ?_
  refine z_istore_n hX [(2, .int 0), (0, .ref v0), (1, .int v1)] rfl (by decide) rfl dX9_heldBy_1 ?_
  refine z_iconst (v := 0) hX (by decide) dX9_heldBy_2 ?_
  refine z_istore_n hX [(3, .int 0), (2, .int 0), (0, .ref v0), (1, .int v1)] rfl (by decide) rfl dX9_heldBy_3 ?_
  refine z_sub [2, 3, 1, 0] rfl ?_
  refine z_lp (x0 := (0, 0)) (bd_X9_heldBy_4 M v0 v1) 4 31 (fun (u1 : Int32 × Int32) => [(0, .ref v0), (1, .int v1), (2, .int u1.1), (3, .int u1.2)]) (fun (e2 : Int32 × Int32) => [(2, .int e2.1)]) (fun (u1 : Int32 × Int32) => M) ?_ ?_
  · intro e2
    refine z_iload_n hX 0 rfl rfl dX9_heldBy_31 ?_
    exact z_iretP hX dX9_heldBy_32 (Nat.le_of_ble_eq_true rfl) (Nat.le_of_ble_eq_true rfl)
  · intro kk3 rc4 hkk3 hrc4 u1
    unfold bd_X9_heldBy_4
    refine z_iload_n hX 3 rfl rfl dX9_heldBy_4 ?_
    refine z_aload_n hX 0 rfl rfl dX9_heldBy_5 ?_
    refine z_gFI 9 5 hX (by decide) rfl (by decide) rfl q_1316 dX9_heldBy_6 (fun x5 => ?_)
    refine z_icmp_ge hX 31 (by decide) dX9_heldBy_9 (fun _ => ?_) (fun _ => ?_)
    · refine z_sub [2] rfl ?_
      exact hkk3 (u1.1, u1.2)
    · refine z_iload_n hX 2 rfl rfl dX9_heldBy_12 ?_
      refine z_aload_n hX 0 rfl rfl dX9_heldBy_13 ?_
      refine z_gFR 9 29 hX (by decide) rfl (by decide) rfl q_1340 dX9_heldBy_14 (fun r6 => ?_)
      refine z_iconst (v := 4) hX (by decide) dX9_heldBy_17 ?_
      refine z_iload_n hX 1 rfl rfl dX9_heldBy_18 ?_
      refine z_imul hX dX9_heldBy_19 ?_
      refine z_iload_n hX 3 rfl rfl dX9_heldBy_20 ?_
      refine z_iadd hX dX9_heldBy_21 ?_
      refine z_aI hX dX9_heldBy_22 (fun x7 => ?_)
      refine z_iadd hX dX9_heldBy_23 ?_
      refine z_ltI (fun x8 => ?_)
      refine z_istore_n hX [(2, .int x8), (0, .ref v0), (1, .int v1), (3, .int u1.2)] rfl (by decide) rfl dX9_heldBy_24 ?_
      refine z_iinc hX 3 [(3, .int (u1.2 + 1)), (2, .int x8), (0, .ref v0), (1, .int v1)] rfl rfl (by decide) rfl dX9_heldBy_25 ?_
      refine z_goto hX 4 (by decide) dX9_heldBy_28 ?_
      refine z_sub [2, 3, 1, 0] rfl ?_
      exact hrc4 (x8, u1.2 + 1)
theorem c_X9_heldBy (l : Launch) (hl : l.stackTraces = false) (M : Mem) (v0 : Nat) (v1 : Int32) (o : Int32) (ho : f_X9_heldBy M v0 v1 = some o) : Ct l yX9_heldBy cX9_heldBy 4 (some .int) rm_X9_heldBy [.ref v0, .int v1] M (some (.int o)) M :=
  Ct.of hl (by decide +kernel) (Nat.le_of_ble_eq_true rfl) rfl (fun X hX hin => z_X9_heldBy hX M v0 v1 o ho)
theorem okV_X9_heldBy : okV yX9_heldBy cX9_heldBy 4 (some .int) 1 := ⟨q_1933, q_82, q_96, q_1934, by unfold okY; decide +kernel⟩
/-! ParticipatoryBudgetModel.richest()I -/
abbrev rm_X9_richest : Room := { frames := 7, cells := 0, slots := 0, locals := 165 }
set_option maxRecDepth 20000 in
set_option maxHeartbeats 4000000 in
theorem z_X9_richest {X : Cxt} (hX : okX X cX9_richest RX9 rm_X9_richest (some .int) 3) (M : Mem) (v0 : Nat) : Zj X (fun o : Int32 × Mem => Qr X rm_X9_richest.cells rm_X9_richest.slots (some (.int o.1)) o.2) 0 0 0 [(0, .ref v0)] [] M (f_X9_richest M v0) := by
  unfold f_X9_richest
  refine z_aload_n hX 0 rfl rfl dX9_richest_0 ?_
  refine z_iconst (v := 0) hX (by decide) dX9_richest_1 ?_
  refine z_pFI 9 4 hX (by decide) rfl (by decide) rfl q_1315 rfl pd_1 rfl rfl dX9_richest_2 (fun M1 => ?_)
  refine z_aload_n hX 0 rfl rfl dX9_richest_5 ?_
  refine z_cVVm 9 [] hX (fun l hl o ho => c_X9_equal l hl M1 v0 o ho) dX9_richest_6 (by decide) rfl rfl q_1683 okV_X9_equal rfl ⟨(Nat.le_of_ble_eq_true rfl), (Nat.le_of_ble_eq_true rfl)⟩ rfl (Nat.le_of_ble_eq_true rfl) rfl rfl ⟨(Nat.le_of_ble_eq_true rfl), (Nat.le_of_ble_eq_true rfl)⟩ (fun o2 => ?_)
  refine z_iconst (v := (-1)) hX (by decide) dX9_richest_9 ?_
  refine z_ltI (fun x3 => ?_)
  refine z_istore_n hX [(1, .int x3), (0, .ref v0)] rfl (by decide) rfl dX9_richest_10 ?_
  refine z_iconst (v := 0) hX (by decide) dX9_richest_11 ?_
  refine z_istore_n hX [(2, .int 0), (1, .int x3), (0, .ref v0)] rfl (by decide) rfl dX9_richest_12 ?_
  refine z_sub [2, 1, 0] rfl ?_
  refine z_lp (x0 := (x3, 0)) (bd_X9_richest_13 v0 o2) 13 46 (fun (u4 : Int32 × Int32) => [(0, .ref v0), (1, .int u4.1), (2, .int u4.2)]) (fun (e5 : Int32 × Int32) => [(1, .int e5.1)]) (fun (u4 : Int32 × Int32) => o2) ?_ ?_
  · intro e5
    refine z_iload_n hX 0 rfl rfl dX9_richest_46 ?_
    exact z_iretM hX dX9_richest_47 (Nat.le_of_ble_eq_true rfl) (Nat.le_of_ble_eq_true rfl)
  · intro kk6 rc7 hkk6 hrc7 u4
    unfold bd_X9_richest_13
    refine z_iload_n hX 2 rfl rfl dX9_richest_13 ?_
    refine z_aload_n hX 0 rfl rfl dX9_richest_14 ?_
    refine z_gFI 9 7 hX (by decide) rfl (by decide) rfl q_1318 dX9_richest_15 (fun x8 => ?_)
    refine z_icmp_ge hX 46 (by decide) dX9_richest_18 (fun _ => ?_) (fun _ => ?_)
    · refine z_sub [1] rfl ?_
      exact hkk6 (u4.1, u4.2)
    · refine z_iload_n hX 1 rfl rfl dX9_richest_21 ?_
      refine z_jn (C' := 0) (S' := 0) 40 (fun (j9 : Int32) => [(0, .ref v0), (1, .int j9), (2, .int u4.2)]) (fun (j9 : Int32) => []) (fun (j9 : Int32) => o2) (fun j9 => ?_) (fun kj9 => ?_)
      · refine z_iinc hX 2 [(2, .int (u4.2 + 1)), (0, .ref v0), (1, .int j9)] rfl rfl (by decide) rfl dX9_richest_40 ?_
        refine z_goto hX 13 (by decide) dX9_richest_43 ?_
        refine z_sub [1, 2, 0] rfl ?_
        exact hrc7 (j9, u4.2 + 1)
      · refine z_iteB ?_
        refine z_if_lt hX 38 (by decide) dX9_richest_22 (fun _ => ?_) (fun _ => ?_)
        · refine z_iload_n hX 2 rfl rfl dX9_richest_38 ?_
          refine z_istore_n hX [(1, .int u4.2), (0, .ref v0), (2, .int u4.2)] rfl (by decide) rfl dX9_richest_39 ?_
          refine z_pure ?_
          refine z_sub [1, 0, 2] rfl ?_
          exact kj9 u4.2
        · refine z_aload_n hX 0 rfl rfl dX9_richest_25 ?_
          refine z_iload_n hX 2 rfl rfl dX9_richest_26 ?_
          refine z_asc ?_
          refine z_asc2 ?_
          refine z_cVIp 9 [.int u4.2] hX (fun l hl o ho => c_X9_heldBy l hl o2 v0 u4.2 o ho) dX9_richest_27 (by decide) rfl rfl q_1931 okV_X9_heldBy rfl ⟨(Nat.le_of_ble_eq_true rfl), (Nat.le_of_ble_eq_true rfl)⟩ rfl (Nat.le_of_ble_eq_true rfl) rfl rfl ⟨(Nat.le_of_ble_eq_true rfl), (Nat.le_of_ble_eq_true rfl)⟩ (fun o10 => ?_)
          refine z_aload_n hX 0 rfl rfl dX9_richest_30 ?_
          refine z_iload_n hX 1 rfl rfl dX9_richest_31 ?_
          refine z_asc ?_
          refine z_asc2 ?_
          refine z_cVIp 9 [.int u4.1] hX (fun l hl o ho => c_X9_heldBy l hl o2 v0 u4.1 o ho) dX9_richest_32 (by decide) rfl rfl q_1931 okV_X9_heldBy rfl ⟨(Nat.le_of_ble_eq_true rfl), (Nat.le_of_ble_eq_true rfl)⟩ rfl (Nat.le_of_ble_eq_true rfl) rfl rfl ⟨(Nat.le_of_ble_eq_true rfl), (Nat.le_of_ble_eq_true rfl)⟩ (fun o11 => ?_)
          refine z_iteB ?_
          refine z_icmp_le hX 40 (by decide) dX9_richest_35 (fun _ => ?_) (fun _ => ?_)
          · refine z_pure ?_
            refine z_sub [0, 1, 2] rfl ?_
            exact kj9 u4.1
          · refine z_iload_n hX 2 rfl rfl dX9_richest_38 ?_
            refine z_istore_n hX [(1, .int u4.2), (0, .ref v0), (2, .int u4.2)] rfl (by decide) rfl dX9_richest_39 ?_
            refine z_pure ?_
            refine z_sub [1, 0, 2] rfl ?_
            exact kj9 u4.2
theorem c_X9_richest (l : Launch) (hl : l.stackTraces = false) (M : Mem) (v0 : Nat) (o : Int32 × Mem) (ho : f_X9_richest M v0 = some o) : Ct l yX9_richest cX9_richest 3 (some .int) rm_X9_richest [.ref v0] M (some (.int o.1)) o.2 :=
  Ct.of hl (by decide +kernel) (Nat.le_of_ble_eq_true rfl) rfl (fun X hX hin => z_X9_richest hX M v0 o ho)
theorem okV_X9_richest : okV yX9_richest cX9_richest 3 (some .int) 0 := ⟨q_1928, q_1929, q_96, q_1930, by unfold okY; decide +kernel⟩
/-! ParticipatoryBudgetModel.change(II)I -/
abbrev rm_X9_change : Room := { frames := 1, cells := 0, slots := 0, locals := 21 }
set_option maxRecDepth 20000 in
set_option maxHeartbeats 4000000 in
theorem z_X9_change {X : Cxt} (hX : okX X cX9_change RX9 rm_X9_change (some .int) 4) (M : Mem) (v0 : Nat) (v1 : Int32) (v2 : Int32) : Zj X (fun o : Int32 × Mem => Qr X rm_X9_change.cells rm_X9_change.slots (some (.int o.1)) o.2) 0 0 0 [(0, .ref v0), (1, .int v1), (2, .int v2)] [] M (f_X9_change M v0 v1 v2) := by
  unfold f_X9_change
  refine z_aload_n hX 0 rfl rfl dX9_change_0 ?_
  refine z_cVVm 9 [] hX (fun l hl o ho => c_X9_remember l hl M v0 o ho) dX9_change_1 (by decide) rfl rfl q_1943 okV_X9_remember rfl ⟨(Nat.le_of_ble_eq_true rfl), (Nat.le_of_ble_eq_true rfl)⟩ rfl (Nat.le_of_ble_eq_true rfl) rfl rfl ⟨(Nat.le_of_ble_eq_true rfl), (Nat.le_of_ble_eq_true rfl)⟩ (fun o1 => ?_)
  refine z_aload_n hX 0 rfl rfl dX9_change_4 ?_
  refine z_gFR 9 0 hX (by decide) rfl (by decide) rfl q_1311 dX9_change_5 (fun r2 => ?_)
  refine z_iload_n hX 1 rfl rfl dX9_change_8 ?_
  refine z_aI hX dX9_change_9 (fun x3 => ?_)
  refine z_istore_n hX [(3, .int x3), (0, .ref v0), (1, .int v1), (2, .int v2)] rfl (by decide) rfl dX9_change_10 ?_
  refine z_aload_n hX 1 rfl rfl dX9_change_11 ?_
  refine z_gFR 9 0 hX (by decide) rfl (by decide) rfl q_1311 dX9_change_12 (fun r4 => ?_)
  refine z_iload_n hX 2 rfl rfl dX9_change_15 ?_
  refine z_iload_n hX 3 rfl rfl dX9_change_16 ?_
  refine z_wI hX dX9_change_17 (fun M5 => ?_)
  refine z_iload_n hX 0 rfl rfl dX9_change_18 ?_
  exact z_iretM hX dX9_change_19 (Nat.le_of_ble_eq_true rfl) (Nat.le_of_ble_eq_true rfl)
theorem c_X9_change (l : Launch) (hl : l.stackTraces = false) (M : Mem) (v0 : Nat) (v1 : Int32) (v2 : Int32) (o : Int32 × Mem) (ho : f_X9_change M v0 v1 v2 = some o) : Ct l yX9_change cX9_change 4 (some .int) rm_X9_change [.ref v0, .int v1, .int v2] M (some (.int o.1)) o.2 :=
  Ct.of hl (by decide +kernel) (Nat.le_of_ble_eq_true rfl) rfl (fun X hX hin => z_X9_change hX M v0 v1 v2 o ho)
theorem okV_X9_change : okV yX9_change cX9_change 4 (some .int) 2 := ⟨q_1941, q_83, q_96, q_1942, by unfold okY; decide +kernel⟩
/-! ParticipatoryBudgetModel.setBudget(II)I -/
abbrev rm_X9_setBudget : Room := { frames := 2, cells := 0, slots := 0, locals := 44 }
set_option maxRecDepth 20000 in
set_option maxHeartbeats 4000000 in
theorem z_X9_setBudget {X : Cxt} (hX : okX X cX9_setBudget RX9 rm_X9_setBudget (some .int) 3) (M : Mem) (v0 : Nat) (v1 : Int32) (v2 : Int32) : Zj X (fun o : Int32 × Mem => Qr X rm_X9_setBudget.cells rm_X9_setBudget.slots (some (.int o.1)) o.2) 0 0 0 [(0, .ref v0), (1, .int v1), (2, .int v2)] [] M (f_X9_setBudget M v0 v1 v2) := by
  unfold f_X9_setBudget
  refine z_aload_n hX 0 rfl rfl dX9_setBudget_0 ?_
  refine z_iconst (v := 0) hX (by decide) dX9_setBudget_1 ?_
  refine z_pFI 9 4 hX (by decide) rfl (by decide) rfl q_1315 rfl pd_1 rfl rfl dX9_setBudget_2 (fun M1 => ?_)
  refine z_aload_n hX 0 rfl rfl dX9_setBudget_5 ?_
  refine z_iload_n hX 1 rfl rfl dX9_setBudget_6 ?_
  refine z_cVIp 9 [.int v1] hX (fun l hl o ho => c_X9_isDistrict l hl M1 v0 v1 o ho) dX9_setBudget_7 (by decide) rfl rfl q_1583 okV_X9_isDistrict rfl ⟨(Nat.le_of_ble_eq_true rfl), (Nat.le_of_ble_eq_true rfl)⟩ rfl (Nat.le_of_ble_eq_true rfl) rfl rfl ⟨(Nat.le_of_ble_eq_true rfl), (Nat.le_of_ble_eq_true rfl)⟩ (fun o2 => ?_)
  refine z_if_ne hX 15 (by decide) dX9_setBudget_10 (fun _ => ?_) (fun _ => ?_)
  · refine z_iload_n hX 2 rfl rfl dX9_setBudget_15 ?_
    refine z_iconst (v := 0) hX (by decide) dX9_setBudget_16 ?_
    refine z_ldc (v := 100000) hX q_1523 dX9_setBudget_17 ?_
    refine z_cSIp [.int v2, .int 0, .int 100000] hX (fun l hl o ho => c_X9_inRange l hl M1 v2 0 100000 o ho) dX9_setBudget_19 q_1467 okS_X9_inRange rfl ⟨(Nat.le_of_ble_eq_true rfl), (Nat.le_of_ble_eq_true rfl)⟩ rfl (Nat.le_of_ble_eq_true rfl) rfl rfl ⟨(Nat.le_of_ble_eq_true rfl), (Nat.le_of_ble_eq_true rfl)⟩ (fun o3 => ?_)
    refine z_jn (C' := 0) (S' := 0) 38 (fun (j4 : Int32 × Mem) => []) (fun (j4 : Int32 × Mem) => [.int j4.1]) (fun (j4 : Int32 × Mem) => j4.2) (fun j4 => ?_) (fun kj4 => ?_)
    · exact z_iretM hX dX9_setBudget_38 (Nat.le_of_ble_eq_true rfl) (Nat.le_of_ble_eq_true rfl)
    · refine z_iteB ?_
      refine z_if_eq hX 36 (by decide) dX9_setBudget_22 (fun _ => ?_) (fun _ => ?_)
      · refine z_bipush (v := (-2)) hX (by decide) dX9_setBudget_36 ?_
        refine z_pure ?_
        refine z_sub [] rfl ?_
        exact kj4 ((-2), M1)
      · refine z_aload_n hX 0 rfl rfl dX9_setBudget_25 ?_
        refine z_iconst (v := 4) hX (by decide) dX9_setBudget_26 ?_
        refine z_iload_n hX 1 rfl rfl dX9_setBudget_27 ?_
        refine z_iadd hX dX9_setBudget_28 ?_
        refine z_iload_n hX 2 rfl rfl dX9_setBudget_29 ?_
        refine z_asc ?_
        refine z_asc2 ?_
        refine z_cVIm 9 [.int (4 + v1), .int v2] hX (fun l hl o ho => c_X9_change l hl M1 v0 (4 + v1) v2 o ho) dX9_setBudget_30 (by decide) rfl rfl q_1939 okV_X9_change rfl ⟨(Nat.le_of_ble_eq_true rfl), (Nat.le_of_ble_eq_true rfl)⟩ rfl (Nat.le_of_ble_eq_true rfl) rfl rfl ⟨(Nat.le_of_ble_eq_true rfl), (Nat.le_of_ble_eq_true rfl)⟩ (fun o5 => ?_)
        refine z_goto hX 38 (by decide) dX9_setBudget_33 ?_
        refine z_pure ?_
        refine z_sub [] rfl ?_
        exact kj4 (o5.1, o5.2)
  · refine z_iconst (v := (-1)) hX (by decide) dX9_setBudget_13 ?_
    exact z_iretM hX dX9_setBudget_14 (Nat.le_of_ble_eq_true rfl) (Nat.le_of_ble_eq_true rfl)
theorem c_X9_setBudget (l : Launch) (hl : l.stackTraces = false) (M : Mem) (v0 : Nat) (v1 : Int32) (v2 : Int32) (o : Int32 × Mem) (ho : f_X9_setBudget M v0 v1 v2 = some o) : Ct l yX9_setBudget cX9_setBudget 3 (some .int) rm_X9_setBudget [.ref v0, .int v1, .int v2] M (some (.int o.1)) o.2 :=
  Ct.of hl (by decide +kernel) (Nat.le_of_ble_eq_true rfl) rfl (fun X hX hin => z_X9_setBudget hX M v0 v1 v2 o ho)
theorem okV_X9_setBudget : okV yX9_setBudget cX9_setBudget 3 (some .int) 2 := ⟨q_1936, q_1937, q_96, q_1938, by unfold okY; decide +kernel⟩
/-! ParticipatoryBudgetModel.setCost(II)I -/
abbrev rm_X9_setCost : Room := { frames := 2, cells := 0, slots := 0, locals := 44 }
set_option maxRecDepth 20000 in
set_option maxHeartbeats 4000000 in
theorem z_X9_setCost {X : Cxt} (hX : okX X cX9_setCost RX9 rm_X9_setCost (some .int) 3) (M : Mem) (v0 : Nat) (v1 : Int32) (v2 : Int32) : Zj X (fun o : Int32 × Mem => Qr X rm_X9_setCost.cells rm_X9_setCost.slots (some (.int o.1)) o.2) 0 0 0 [(0, .ref v0), (1, .int v1), (2, .int v2)] [] M (f_X9_setCost M v0 v1 v2) := by
  unfold f_X9_setCost
  refine z_aload_n hX 0 rfl rfl dX9_setCost_0 ?_
  refine z_iconst (v := 0) hX (by decide) dX9_setCost_1 ?_
  refine z_pFI 9 4 hX (by decide) rfl (by decide) rfl q_1315 rfl pd_1 rfl rfl dX9_setCost_2 (fun M1 => ?_)
  refine z_aload_n hX 0 rfl rfl dX9_setCost_5 ?_
  refine z_iload_n hX 1 rfl rfl dX9_setCost_6 ?_
  refine z_cVIp 9 [.int v1] hX (fun l hl o ho => c_X9_isProject l hl M1 v0 v1 o ho) dX9_setCost_7 (by decide) rfl rfl q_1595 okV_X9_isProject rfl ⟨(Nat.le_of_ble_eq_true rfl), (Nat.le_of_ble_eq_true rfl)⟩ rfl (Nat.le_of_ble_eq_true rfl) rfl rfl ⟨(Nat.le_of_ble_eq_true rfl), (Nat.le_of_ble_eq_true rfl)⟩ (fun o2 => ?_)
  refine z_if_ne hX 15 (by decide) dX9_setCost_10 (fun _ => ?_) (fun _ => ?_)
  · refine z_iload_n hX 2 rfl rfl dX9_setCost_15 ?_
    refine z_iconst (v := 1) hX (by decide) dX9_setCost_16 ?_
    refine z_ldc (v := 100000) hX q_1523 dX9_setCost_17 ?_
    refine z_cSIp [.int v2, .int 1, .int 100000] hX (fun l hl o ho => c_X9_inRange l hl M1 v2 1 100000 o ho) dX9_setCost_19 q_1467 okS_X9_inRange rfl ⟨(Nat.le_of_ble_eq_true rfl), (Nat.le_of_ble_eq_true rfl)⟩ rfl (Nat.le_of_ble_eq_true rfl) rfl rfl ⟨(Nat.le_of_ble_eq_true rfl), (Nat.le_of_ble_eq_true rfl)⟩ (fun o3 => ?_)
    refine z_jn (C' := 0) (S' := 0) 39 (fun (j4 : Int32 × Mem) => []) (fun (j4 : Int32 × Mem) => [.int j4.1]) (fun (j4 : Int32 × Mem) => j4.2) (fun j4 => ?_) (fun kj4 => ?_)
    · exact z_iretM hX dX9_setCost_39 (Nat.le_of_ble_eq_true rfl) (Nat.le_of_ble_eq_true rfl)
    · refine z_iteB ?_
      refine z_if_eq hX 37 (by decide) dX9_setCost_22 (fun _ => ?_) (fun _ => ?_)
      · refine z_bipush (v := (-2)) hX (by decide) dX9_setCost_37 ?_
        refine z_pure ?_
        refine z_sub [] rfl ?_
        exact kj4 ((-2), M1)
      · refine z_aload_n hX 0 rfl rfl dX9_setCost_25 ?_
        refine z_bipush (v := 8) hX (by decide) dX9_setCost_26 ?_
        refine z_iload_n hX 1 rfl rfl dX9_setCost_28 ?_
        refine z_iadd hX dX9_setCost_29 ?_
        refine z_iload_n hX 2 rfl rfl dX9_setCost_30 ?_
        refine z_asc ?_
        refine z_asc2 ?_
        refine z_cVIm 9 [.int (8 + v1), .int v2] hX (fun l hl o ho => c_X9_change l hl M1 v0 (8 + v1) v2 o ho) dX9_setCost_31 (by decide) rfl rfl q_1939 okV_X9_change rfl ⟨(Nat.le_of_ble_eq_true rfl), (Nat.le_of_ble_eq_true rfl)⟩ rfl (Nat.le_of_ble_eq_true rfl) rfl rfl ⟨(Nat.le_of_ble_eq_true rfl), (Nat.le_of_ble_eq_true rfl)⟩ (fun o5 => ?_)
        refine z_goto hX 39 (by decide) dX9_setCost_34 ?_
        refine z_pure ?_
        refine z_sub [] rfl ?_
        exact kj4 (o5.1, o5.2)
  · refine z_iconst (v := (-1)) hX (by decide) dX9_setCost_13 ?_
    exact z_iretM hX dX9_setCost_14 (Nat.le_of_ble_eq_true rfl) (Nat.le_of_ble_eq_true rfl)
theorem c_X9_setCost (l : Launch) (hl : l.stackTraces = false) (M : Mem) (v0 : Nat) (v1 : Int32) (v2 : Int32) (o : Int32 × Mem) (ho : f_X9_setCost M v0 v1 v2 = some o) : Ct l yX9_setCost cX9_setCost 3 (some .int) rm_X9_setCost [.ref v0, .int v1, .int v2] M (some (.int o.1)) o.2 :=
  Ct.of hl (by decide +kernel) (Nat.le_of_ble_eq_true rfl) rfl (fun X hX hin => z_X9_setCost hX M v0 v1 v2 o ho)
theorem okV_X9_setCost : okV yX9_setCost cX9_setCost 3 (some .int) 2 := ⟨q_1948, q_1949, q_96, q_1950, by unfold okY; decide +kernel⟩
/-! ParticipatoryBudgetModel.setWeight(II)I -/
abbrev rm_X9_setWeight : Room := { frames := 2, cells := 0, slots := 0, locals := 44 }
set_option maxRecDepth 20000 in
set_option maxHeartbeats 4000000 in
theorem z_X9_setWeight {X : Cxt} (hX : okX X cX9_setWeight RX9 rm_X9_setWeight (some .int) 3) (M : Mem) (v0 : Nat) (v1 : Int32) (v2 : Int32) : Zj X (fun o : Int32 × Mem => Qr X rm_X9_setWeight.cells rm_X9_setWeight.slots (some (.int o.1)) o.2) 0 0 0 [(0, .ref v0), (1, .int v1), (2, .int v2)] [] M (f_X9_setWeight M v0 v1 v2) := by
  unfold f_X9_setWeight
  refine z_aload_n hX 0 rfl rfl dX9_setWeight_0 ?_
  refine z_iconst (v := 0) hX (by decide) dX9_setWeight_1 ?_
  refine z_pFI 9 4 hX (by decide) rfl (by decide) rfl q_1315 rfl pd_1 rfl rfl dX9_setWeight_2 (fun M1 => ?_)
  refine z_aload_n hX 0 rfl rfl dX9_setWeight_5 ?_
  refine z_iload_n hX 1 rfl rfl dX9_setWeight_6 ?_
  refine z_cVIp 9 [.int v1] hX (fun l hl o ho => c_X9_isVoter l hl M1 v0 v1 o ho) dX9_setWeight_7 (by decide) rfl rfl q_1607 okV_X9_isVoter rfl ⟨(Nat.le_of_ble_eq_true rfl), (Nat.le_of_ble_eq_true rfl)⟩ rfl (Nat.le_of_ble_eq_true rfl) rfl rfl ⟨(Nat.le_of_ble_eq_true rfl), (Nat.le_of_ble_eq_true rfl)⟩ (fun o2 => ?_)
  refine z_if_ne hX 15 (by decide) dX9_setWeight_10 (fun _ => ?_) (fun _ => ?_)
  · refine z_iload_n hX 2 rfl rfl dX9_setWeight_15 ?_
    refine z_iconst (v := 1) hX (by decide) dX9_setWeight_16 ?_
    refine z_bipush (v := 9) hX (by decide) dX9_setWeight_17 ?_
    refine z_cSIp [.int v2, .int 1, .int 9] hX (fun l hl o ho => c_X9_inRange l hl M1 v2 1 9 o ho) dX9_setWeight_19 q_1467 okS_X9_inRange rfl ⟨(Nat.le_of_ble_eq_true rfl), (Nat.le_of_ble_eq_true rfl)⟩ rfl (Nat.le_of_ble_eq_true rfl) rfl rfl ⟨(Nat.le_of_ble_eq_true rfl), (Nat.le_of_ble_eq_true rfl)⟩ (fun o3 => ?_)
    refine z_jn (C' := 0) (S' := 0) 39 (fun (j4 : Int32 × Mem) => []) (fun (j4 : Int32 × Mem) => [.int j4.1]) (fun (j4 : Int32 × Mem) => j4.2) (fun j4 => ?_) (fun kj4 => ?_)
    · exact z_iretM hX dX9_setWeight_39 (Nat.le_of_ble_eq_true rfl) (Nat.le_of_ble_eq_true rfl)
    · refine z_iteB ?_
      refine z_if_eq hX 37 (by decide) dX9_setWeight_22 (fun _ => ?_) (fun _ => ?_)
      · refine z_bipush (v := (-2)) hX (by decide) dX9_setWeight_37 ?_
        refine z_pure ?_
        refine z_sub [] rfl ?_
        exact kj4 ((-2), M1)
      · refine z_aload_n hX 0 rfl rfl dX9_setWeight_25 ?_
        refine z_bipush (v := 20) hX (by decide) dX9_setWeight_26 ?_
        refine z_iload_n hX 1 rfl rfl dX9_setWeight_28 ?_
        refine z_iadd hX dX9_setWeight_29 ?_
        refine z_iload_n hX 2 rfl rfl dX9_setWeight_30 ?_
        refine z_asc ?_
        refine z_asc2 ?_
        refine z_cVIm 9 [.int (20 + v1), .int v2] hX (fun l hl o ho => c_X9_change l hl M1 v0 (20 + v1) v2 o ho) dX9_setWeight_31 (by decide) rfl rfl q_1939 okV_X9_change rfl ⟨(Nat.le_of_ble_eq_true rfl), (Nat.le_of_ble_eq_true rfl)⟩ rfl (Nat.le_of_ble_eq_true rfl) rfl rfl ⟨(Nat.le_of_ble_eq_true rfl), (Nat.le_of_ble_eq_true rfl)⟩ (fun o5 => ?_)
        refine z_goto hX 39 (by decide) dX9_setWeight_34 ?_
        refine z_pure ?_
        refine z_sub [] rfl ?_
        exact kj4 (o5.1, o5.2)
  · refine z_iconst (v := (-1)) hX (by decide) dX9_setWeight_13 ?_
    exact z_iretM hX dX9_setWeight_14 (Nat.le_of_ble_eq_true rfl) (Nat.le_of_ble_eq_true rfl)
theorem c_X9_setWeight (l : Launch) (hl : l.stackTraces = false) (M : Mem) (v0 : Nat) (v1 : Int32) (v2 : Int32) (o : Int32 × Mem) (ho : f_X9_setWeight M v0 v1 v2 = some o) : Ct l yX9_setWeight cX9_setWeight 3 (some .int) rm_X9_setWeight [.ref v0, .int v1, .int v2] M (some (.int o.1)) o.2 :=
  Ct.of hl (by decide +kernel) (Nat.le_of_ble_eq_true rfl) rfl (fun X hX hin => z_X9_setWeight hX M v0 v1 v2 o ho)
theorem okV_X9_setWeight : okV yX9_setWeight cX9_setWeight 3 (some .int) 2 := ⟨q_1952, q_1953, q_96, q_1954, by unfold okY; decide +kernel⟩
/-! ParticipatoryBudgetModel.setMember(IIZ)I -/
abbrev rm_X9_setMember : Room := { frames := 2, cells := 0, slots := 0, locals := 44 }
set_option maxRecDepth 20000 in
set_option maxHeartbeats 4000000 in
theorem z_X9_setMember {X : Cxt} (hX : okX X cX9_setMember RX9 rm_X9_setMember (some .int) 5) (M : Mem) (v0 : Nat) (v1 : Int32) (v2 : Int32) (v3 : Int32) : Zj X (fun o : Int32 × Mem => Qr X rm_X9_setMember.cells rm_X9_setMember.slots (some (.int o.1)) o.2) 0 0 0 [(0, .ref v0), (1, .int v1), (2, .int v2), (3, .int v3)] [] M (f_X9_setMember M v0 v1 v2 v3) := by
  unfold f_X9_setMember
  refine z_aload_n hX 0 rfl rfl dX9_setMember_0 ?_
  refine z_iconst (v := 0) hX (by decide) dX9_setMember_1 ?_
  refine z_pFI 9 4 hX (by decide) rfl (by decide) rfl q_1315 rfl pd_1 rfl rfl dX9_setMember_2 (fun M1 => ?_)
  refine z_aload_n hX 0 rfl rfl dX9_setMember_5 ?_
  refine z_iload_n hX 1 rfl rfl dX9_setMember_6 ?_
  refine z_cVIp 9 [.int v1] hX (fun l hl o ho => c_X9_isVoter l hl M1 v0 v1 o ho) dX9_setMember_7 (by decide) rfl rfl q_1607 okV_X9_isVoter rfl ⟨(Nat.le_of_ble_eq_true rfl), (Nat.le_of_ble_eq_true rfl)⟩ rfl (Nat.le_of_ble_eq_true rfl) rfl rfl ⟨(Nat.le_of_ble_eq_true rfl), (Nat.le_of_ble_eq_true rfl)⟩ (fun o2 => ?_)
  refine z_if_eq hX 21 (by decide) dX9_setMember_10 (fun _ => ?_) (fun _ => ?_)
  · refine z_iconst (v := (-1)) hX (by decide) dX9_setMember_21 ?_
    exact z_iretM hX dX9_setMember_22 (Nat.le_of_ble_eq_true rfl) (Nat.le_of_ble_eq_true rfl)
  · refine z_aload_n hX 0 rfl rfl dX9_setMember_13 ?_
    refine z_iload_n hX 2 rfl rfl dX9_setMember_14 ?_
    refine z_cVIp 9 [.int v2] hX (fun l hl o ho => c_X9_isDistrict l hl M1 v0 v2 o ho) dX9_setMember_15 (by decide) rfl rfl q_1583 okV_X9_isDistrict rfl ⟨(Nat.le_of_ble_eq_true rfl), (Nat.le_of_ble_eq_true rfl)⟩ rfl (Nat.le_of_ble_eq_true rfl) rfl rfl ⟨(Nat.le_of_ble_eq_true rfl), (Nat.le_of_ble_eq_true rfl)⟩ (fun o3 => ?_)
    refine z_if_ne hX 23 (by decide) dX9_setMember_18 (fun _ => ?_) (fun _ => ?_)
    · refine z_aload_n hX 0 rfl rfl dX9_setMember_23 ?_
      refine z_bipush (v := 44) hX (by decide) dX9_setMember_24 ?_
      refine z_iload_n hX 1 rfl rfl dX9_setMember_26 ?_
      refine z_iadd hX dX9_setMember_27 ?_
      refine z_aload_n hX 0 rfl rfl dX9_setMember_28 ?_
      refine z_gFR 9 0 hX (by decide) rfl (by decide) rfl q_1311 dX9_setMember_29 (fun r4 => ?_)
      refine z_bipush (v := 44) hX (by decide) dX9_setMember_32 ?_
      refine z_iload_n hX 1 rfl rfl dX9_setMember_34 ?_
      refine z_iadd hX dX9_setMember_35 ?_
      refine z_aI hX dX9_setMember_36 (fun x5 => ?_)
      refine z_iload_n hX 2 rfl rfl dX9_setMember_37 ?_
      refine z_iload_n hX 3 rfl rfl dX9_setMember_38 ?_
      refine z_cSIp [.int x5, .int v2, .int v3] hX (fun l hl o ho => c_X9_with l hl M1 x5 v2 v3 o ho) dX9_setMember_39 q_1912 okS_X9_with rfl ⟨(Nat.le_of_ble_eq_true rfl), (Nat.le_of_ble_eq_true rfl)⟩ rfl (Nat.le_of_ble_eq_true rfl) rfl rfl ⟨(Nat.le_of_ble_eq_true rfl), (Nat.le_of_ble_eq_true rfl)⟩ (fun o6 => ?_)
      refine z_cVIm 9 [.int (44 + v1), .int o6] hX (fun l hl o ho => c_X9_change l hl M1 v0 (44 + v1) o6 o ho) dX9_setMember_42 (by decide) rfl rfl q_1939 okV_X9_change rfl ⟨(Nat.le_of_ble_eq_true rfl), (Nat.le_of_ble_eq_true rfl)⟩ rfl (Nat.le_of_ble_eq_true rfl) rfl rfl ⟨(Nat.le_of_ble_eq_true rfl), (Nat.le_of_ble_eq_true rfl)⟩ (fun o7 => ?_)
      refine z_istore hX [(4, .int o7.1), (0, .ref v0), (1, .int v1), (2, .int v2), (3, .int v3)] (by decide) rfl dX9_setMember_45 ?_
      refine z_iload hX 0 rfl dX9_setMember_47 ?_
      refine z_iload_n hX 3 rfl rfl dX9_setMember_49 ?_
      refine z_iload_n hX 4 rfl rfl dX9_setMember_50 ?_
      refine z_cSIp [.int o7.1, .int v2, .int v3] hX (fun l hl o ho => c_X9_with l hl o7.2 o7.1 v2 v3 o ho) dX9_setMember_51 q_1912 okS_X9_with rfl ⟨(Nat.le_of_ble_eq_true rfl), (Nat.le_of_ble_eq_true rfl)⟩ rfl (Nat.le_of_ble_eq_true rfl) rfl rfl ⟨(Nat.le_of_ble_eq_true rfl), (Nat.le_of_ble_eq_true rfl)⟩ (fun o8 => ?_)
      exact z_iretM hX dX9_setMember_54 (Nat.le_of_ble_eq_true rfl) (Nat.le_of_ble_eq_true rfl)
    · refine z_iconst (v := (-1)) hX (by decide) dX9_setMember_21 ?_
      exact z_iretM hX dX9_setMember_22 (Nat.le_of_ble_eq_true rfl) (Nat.le_of_ble_eq_true rfl)
theorem c_X9_setMember (l : Launch) (hl : l.stackTraces = false) (M : Mem) (v0 : Nat) (v1 : Int32) (v2 : Int32) (v3 : Int32) (o : Int32 × Mem) (ho : f_X9_setMember M v0 v1 v2 v3 = some o) : Ct l yX9_setMember cX9_setMember 5 (some .int) rm_X9_setMember [.ref v0, .int v1, .int v2, .int v3] M (some (.int o.1)) o.2 :=
  Ct.of hl (by decide +kernel) (Nat.le_of_ble_eq_true rfl) rfl (fun X hX hin => z_X9_setMember hX M v0 v1 v2 v3 o ho)
theorem okV_X9_setMember : okV yX9_setMember cX9_setMember 5 (some .int) 3 := ⟨q_1956, q_1957, q_96, q_1958, by unfold okY; decide +kernel⟩
/-! ParticipatoryBudgetModel.setApproval(IIZ)I -/
abbrev rm_X9_setApproval : Room := { frames := 3, cells := 0, slots := 0, locals := 66 }
set_option maxRecDepth 20000 in
set_option maxHeartbeats 4000000 in
theorem z_X9_setApproval {X : Cxt} (hX : okX X cX9_setApproval RX9 rm_X9_setApproval (some .int) 5) (M : Mem) (v0 : Nat) (v1 : Int32) (v2 : Int32) (v3 : Int32) : Zj X (fun o : Int32 × Mem => Qr X rm_X9_setApproval.cells rm_X9_setApproval.slots (some (.int o.1)) o.2) 0 0 0 [(0, .ref v0), (1, .int v1), (2, .int v2), (3, .int v3)] [] M (f_X9_setApproval M v0 v1 v2 v3) := by
  unfold f_X9_setApproval
  refine z_aload_n hX 0 rfl rfl dX9_setApproval_0 ?_
  refine z_iconst (v := 0) hX (by decide) dX9_setApproval_1 ?_
  refine z_pFI 9 4 hX (by decide) rfl (by decide) rfl q_1315 rfl pd_1 rfl rfl dX9_setApproval_2 (fun M1 => ?_)
  refine z_aload_n hX 0 rfl rfl dX9_setApproval_5 ?_
  refine z_iload_n hX 1 rfl rfl dX9_setApproval_6 ?_
  refine z_cVIp 9 [.int v1] hX (fun l hl o ho => c_X9_isVoter l hl M1 v0 v1 o ho) dX9_setApproval_7 (by decide) rfl rfl q_1607 okV_X9_isVoter rfl ⟨(Nat.le_of_ble_eq_true rfl), (Nat.le_of_ble_eq_true rfl)⟩ rfl (Nat.le_of_ble_eq_true rfl) rfl rfl ⟨(Nat.le_of_ble_eq_true rfl), (Nat.le_of_ble_eq_true rfl)⟩ (fun o2 => ?_)
  refine z_if_eq hX 21 (by decide) dX9_setApproval_10 (fun _ => ?_) (fun _ => ?_)
  · refine z_iconst (v := (-1)) hX (by decide) dX9_setApproval_21 ?_
    exact z_iretM hX dX9_setApproval_22 (Nat.le_of_ble_eq_true rfl) (Nat.le_of_ble_eq_true rfl)
  · refine z_aload_n hX 0 rfl rfl dX9_setApproval_13 ?_
    refine z_iload_n hX 2 rfl rfl dX9_setApproval_14 ?_
    refine z_cVIp 9 [.int v2] hX (fun l hl o ho => c_X9_isProject l hl M1 v0 v2 o ho) dX9_setApproval_15 (by decide) rfl rfl q_1595 okV_X9_isProject rfl ⟨(Nat.le_of_ble_eq_true rfl), (Nat.le_of_ble_eq_true rfl)⟩ rfl (Nat.le_of_ble_eq_true rfl) rfl rfl ⟨(Nat.le_of_ble_eq_true rfl), (Nat.le_of_ble_eq_true rfl)⟩ (fun o3 => ?_)
    refine z_if_ne hX 23 (by decide) dX9_setApproval_18 (fun _ => ?_) (fun _ => ?_)
    · refine z_aload_n hX 0 rfl rfl dX9_setApproval_23 ?_
      refine z_bipush (v := 68) hX (by decide) dX9_setApproval_24 ?_
      refine z_iload_n hX 1 rfl rfl dX9_setApproval_26 ?_
      refine z_iadd hX dX9_setApproval_27 ?_
      refine z_aload_n hX 0 rfl rfl dX9_setApproval_28 ?_
      refine z_gFR 9 0 hX (by decide) rfl (by decide) rfl q_1311 dX9_setApproval_29 (fun r4 => ?_)
      refine z_bipush (v := 68) hX (by decide) dX9_setApproval_32 ?_
      refine z_iload_n hX 1 rfl rfl dX9_setApproval_34 ?_
      refine z_iadd hX dX9_setApproval_35 ?_
      refine z_aI hX dX9_setApproval_36 (fun x5 => ?_)
      refine z_iload_n hX 2 rfl rfl dX9_setApproval_37 ?_
      refine z_iload_n hX 3 rfl rfl dX9_setApproval_38 ?_
      refine z_cSIp [.int x5, .int v2, .int v3] hX (fun l hl o ho => c_X9_with l hl M1 x5 v2 v3 o ho) dX9_setApproval_39 q_1912 okS_X9_with rfl ⟨(Nat.le_of_ble_eq_true rfl), (Nat.le_of_ble_eq_true rfl)⟩ rfl (Nat.le_of_ble_eq_true rfl) rfl rfl ⟨(Nat.le_of_ble_eq_true rfl), (Nat.le_of_ble_eq_true rfl)⟩ (fun o6 => ?_)
      refine z_cVIm 9 [.int (68 + v1), .int o6] hX (fun l hl o ho => c_X9_change l hl M1 v0 (68 + v1) o6 o ho) dX9_setApproval_42 (by decide) rfl rfl q_1939 okV_X9_change rfl ⟨(Nat.le_of_ble_eq_true rfl), (Nat.le_of_ble_eq_true rfl)⟩ rfl (Nat.le_of_ble_eq_true rfl) rfl rfl ⟨(Nat.le_of_ble_eq_true rfl), (Nat.le_of_ble_eq_true rfl)⟩ (fun o7 => ?_)
      refine z_istore hX [(4, .int o7.1), (0, .ref v0), (1, .int v1), (2, .int v2), (3, .int v3)] (by decide) rfl dX9_setApproval_45 ?_
      refine z_iload hX 0 rfl dX9_setApproval_47 ?_
      refine z_jn (C' := 0) (S' := 0) 61 (fun (j8 : Int32) => []) (fun (j8 : Int32) => [.int j8]) (fun (j8 : Int32) => o7.2) (fun j8 => ?_) (fun kj8 => ?_)
      · exact z_iretM hX dX9_setApproval_61 (Nat.le_of_ble_eq_true rfl) (Nat.le_of_ble_eq_true rfl)
      · refine z_iteB ?_
        refine z_if_ge hX 56 (by decide) dX9_setApproval_49 (fun _ => ?_) (fun _ => ?_)
        · refine z_aload_n hX 1 rfl rfl dX9_setApproval_56 ?_
          refine z_iload_n hX 3 rfl rfl dX9_setApproval_57 ?_
          refine z_asc ?_
          refine z_asc2 ?_
          refine z_cVIp 9 [.int v2] hX (fun l hl o ho => c_X9_votesOf l hl o7.2 v0 v2 o ho) dX9_setApproval_58 (by decide) rfl rfl q_1635 okV_X9_votesOf rfl ⟨(Nat.le_of_ble_eq_true rfl), (Nat.le_of_ble_eq_true rfl)⟩ rfl (Nat.le_of_ble_eq_true rfl) rfl rfl ⟨(Nat.le_of_ble_eq_true rfl), (Nat.le_of_ble_eq_true rfl)⟩ (fun o9 => ?_)
          refine z_pure ?_
          refine z_sub [] rfl ?_
          exact kj8 o9
        · refine z_iconst (v := (-1)) hX (by decide) dX9_setApproval_52 ?_
          refine z_goto hX 61 (by decide) dX9_setApproval_53 ?_
          refine z_pure ?_
          refine z_sub [] rfl ?_
          exact kj8 (-1)
    · refine z_iconst (v := (-1)) hX (by decide) dX9_setApproval_21 ?_
      exact z_iretM hX dX9_setApproval_22 (Nat.le_of_ble_eq_true rfl) (Nat.le_of_ble_eq_true rfl)
theorem c_X9_setApproval (l : Launch) (hl : l.stackTraces = false) (M : Mem) (v0 : Nat) (v1 : Int32) (v2 : Int32) (v3 : Int32) (o : Int32 × Mem) (ho : f_X9_setApproval M v0 v1 v2 v3 = some o) : Ct l yX9_setApproval cX9_setApproval 5 (some .int) rm_X9_setApproval [.ref v0, .int v1, .int v2, .int v3] M (some (.int o.1)) o.2 :=
  Ct.of hl (by decide +kernel) (Nat.le_of_ble_eq_true rfl) rfl (fun X hX hin => z_X9_setApproval hX M v0 v1 v2 v3 o ho)
theorem okV_X9_setApproval : okV yX9_setApproval cX9_setApproval 5 (some .int) 3 := ⟨q_1960, q_1961, q_96, q_1962, by unfold okY; decide +kernel⟩
/-! ParticipatoryBudgetModel.setSetting(II)I -/
abbrev rm_X9_setSetting : Room := { frames := 2, cells := 0, slots := 0, locals := 44 }
set_option maxRecDepth 20000 in
set_option maxHeartbeats 4000000 in
theorem z_X9_setSetting {X : Cxt} (hX : okX X cX9_setSetting RX9 rm_X9_setSetting (some .int) 3) (M : Mem) (v0 : Nat) (v1 : Int32) (v2 : Int32) : Zj X (fun o : Int32 × Mem => Qr X rm_X9_setSetting.cells rm_X9_setSetting.slots (some (.int o.1)) o.2) 0 0 0 [(0, .ref v0), (1, .int v1), (2, .int v2)] [] M (f_X9_setSetting M v0 v1 v2) := by
  unfold f_X9_setSetting
  refine z_aload_n hX 0 rfl rfl dX9_setSetting_0 ?_
  refine z_iconst (v := 0) hX (by decide) dX9_setSetting_1 ?_
  refine z_pFI 9 4 hX (by decide) rfl (by decide) rfl q_1315 rfl pd_1 rfl rfl dX9_setSetting_2 (fun M1 => ?_)
  refine z_iload_n hX 1 rfl rfl dX9_setSetting_5 ?_
  refine z_iconst (v := 0) hX (by decide) dX9_setSetting_6 ?_
  refine z_iconst (v := 3) hX (by decide) dX9_setSetting_7 ?_
  refine z_cSIp [.int v1, .int 0, .int 3] hX (fun l hl o ho => c_X9_inRange l hl M1 v1 0 3 o ho) dX9_setSetting_8 q_1467 okS_X9_inRange rfl ⟨(Nat.le_of_ble_eq_true rfl), (Nat.le_of_ble_eq_true rfl)⟩ rfl (Nat.le_of_ble_eq_true rfl) rfl rfl ⟨(Nat.le_of_ble_eq_true rfl), (Nat.le_of_ble_eq_true rfl)⟩ (fun o2 => ?_)
  refine z_if_eq hX 29 (by decide) dX9_setSetting_11 (fun _ => ?_) (fun _ => ?_)
  · refine z_bipush (v := (-2)) hX (by decide) dX9_setSetting_29 ?_
    exact z_iretM hX dX9_setSetting_31 (Nat.le_of_ble_eq_true rfl) (Nat.le_of_ble_eq_true rfl)
  · refine z_iload_n hX 2 rfl rfl dX9_setSetting_14 ?_
    refine z_iload_n hX 1 rfl rfl dX9_setSetting_15 ?_
    refine z_cSIp [.int v1] hX (fun l hl o ho => c_X9_leastOf l hl M1 v1 o ho) dX9_setSetting_16 q_1553 okS_X9_leastOf rfl ⟨(Nat.le_of_ble_eq_true rfl), (Nat.le_of_ble_eq_true rfl)⟩ rfl (Nat.le_of_ble_eq_true rfl) rfl rfl ⟨(Nat.le_of_ble_eq_true rfl), (Nat.le_of_ble_eq_true rfl)⟩ (fun o3 => ?_)
    refine z_iload_n hX 1 rfl rfl dX9_setSetting_19 ?_
    refine z_cSIp [.int v1] hX (fun l hl o ho => c_X9_mostOf l hl M1 v1 o ho) dX9_setSetting_20 q_1556 okS_X9_mostOf rfl ⟨(Nat.le_of_ble_eq_true rfl), (Nat.le_of_ble_eq_true rfl)⟩ rfl (Nat.le_of_ble_eq_true rfl) rfl rfl ⟨(Nat.le_of_ble_eq_true rfl), (Nat.le_of_ble_eq_true rfl)⟩ (fun o4 => ?_)
    refine z_cSIp [.int v2, .int o3, .int o4] hX (fun l hl o ho => c_X9_inRange l hl M1 v2 o3 o4 o ho) dX9_setSetting_23 q_1467 okS_X9_inRange rfl ⟨(Nat.le_of_ble_eq_true rfl), (Nat.le_of_ble_eq_true rfl)⟩ rfl (Nat.le_of_ble_eq_true rfl) rfl rfl ⟨(Nat.le_of_ble_eq_true rfl), (Nat.le_of_ble_eq_true rfl)⟩ (fun o5 => ?_)
    refine z_if_ne hX 32 (by decide) dX9_setSetting_26 (fun _ => ?_) (fun _ => ?_)
    · refine z_aload_n hX 0 rfl rfl dX9_setSetting_32 ?_
      refine z_iload_n hX 1 rfl rfl dX9_setSetting_33 ?_
      refine z_iload_n hX 2 rfl rfl dX9_setSetting_34 ?_
      refine z_cVIm 9 [.int v1, .int v2] hX (fun l hl o ho => c_X9_change l hl M1 v0 v1 v2 o ho) dX9_setSetting_35 (by decide) rfl rfl q_1939 okV_X9_change rfl ⟨(Nat.le_of_ble_eq_true rfl), (Nat.le_of_ble_eq_true rfl)⟩ rfl (Nat.le_of_ble_eq_true rfl) rfl rfl ⟨(Nat.le_of_ble_eq_true rfl), (Nat.le_of_ble_eq_true rfl)⟩ (fun o6 => ?_)
      exact z_iretM hX dX9_setSetting_38 (Nat.le_of_ble_eq_true rfl) (Nat.le_of_ble_eq_true rfl)
    · refine z_bipush (v := (-2)) hX (by decide) dX9_setSetting_29 ?_
      exact z_iretM hX dX9_setSetting_31 (Nat.le_of_ble_eq_true rfl) (Nat.le_of_ble_eq_true rfl)
theorem c_X9_setSetting (l : Launch) (hl : l.stackTraces = false) (M : Mem) (v0 : Nat) (v1 : Int32) (v2 : Int32) (o : Int32 × Mem) (ho : f_X9_setSetting M v0 v1 v2 = some o) : Ct l yX9_setSetting cX9_setSetting 3 (some .int) rm_X9_setSetting [.ref v0, .int v1, .int v2] M (some (.int o.1)) o.2 :=
  Ct.of hl (by decide +kernel) (Nat.le_of_ble_eq_true rfl) rfl (fun X hX hin => z_X9_setSetting hX M v0 v1 v2 o ho)
theorem okV_X9_setSetting : okV yX9_setSetting cX9_setSetting 3 (some .int) 2 := ⟨q_1964, q_1965, q_96, q_1966, by unfold okY; decide +kernel⟩
