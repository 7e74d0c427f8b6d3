/-! ParticipatoryBudget.bestNow()I -/
abbrev rm_X8_bestNow : Room := { frames := 3, cells := 0, slots := 0, locals := 67 }
set_option maxRecDepth 20000 in
set_option maxHeartbeats 4000000 in
theorem z_X8_bestNow {X : Cxt} (hX : okX X cX8_bestNow RX8 rm_X8_bestNow (some .int) 1) (M : Mem) (v0 : Nat) : Zj X (fun o : Int32 × Mem => Qr X rm_X8_bestNow.cells rm_X8_bestNow.slots (some (.int o.1)) o.2) 0 0 0 [(0, .ref v0)] [] M (f_X8_bestNow M v0) := by
  unfold f_X8_bestNow
  refine z_aload_n hX 0 rfl rfl dX8_bestNow_0 ?_
  refine z_cVAm 8 [] hX (fun l hl o ho => c_X8_optimumNow l hl M v0 o ho) dX8_bestNow_1 (by decide) rfl rfl q_816 okV_X8_optimumNow rfl ⟨(Nat.le_of_ble_eq_true rfl), (Nat.le_of_ble_eq_true rfl)⟩ rfl (Nat.le_of_ble_eq_true rfl) rfl rfl ⟨(Nat.le_of_ble_eq_true rfl), (Nat.le_of_ble_eq_true rfl)⟩ (fun o1 => ?_)
  refine z_pop hX rfl dX8_bestNow_4 ?_
  refine z_aload_n hX 0 rfl rfl dX8_bestNow_5 ?_
  refine z_gFI 8 11 hX (by decide) rfl (by decide) rfl q_428 dX8_bestNow_6 (fun x2 => ?_)
  exact z_iretM hX dX8_bestNow_9 (Nat.le_of_ble_eq_true rfl) (Nat.le_of_ble_eq_true rfl)
theorem c_X8_bestNow (l : Launch) (hl : l.stackTraces = false) (M : Mem) (v0 : Nat) (o : Int32 × Mem) (ho : f_X8_bestNow M v0 = some o) : Ct l yX8_bestNow cX8_bestNow 1 (some .int) rm_X8_bestNow [.ref v0] M (some (.int o.1)) o.2 :=
  Ct.of hl (by decide +kernel) (Nat.le_of_ble_eq_true rfl) rfl (fun X hX hin => z_X8_bestNow hX M v0 o ho)
theorem okV_X8_bestNow : okV yX8_bestNow cX8_bestNow 1 (some .int) 0 := ⟨q_814, q_19, q_86, q_815, by unfold okY; decide +kernel⟩
/-! ParticipatoryBudget.chosenBy(I)I -/
abbrev rm_X8_chosenBy : Room := { frames := 6, cells := 0, slots := 0, locals := 144 }
set_option maxRecDepth 20000 in
set_option maxHeartbeats 4000000 in
theorem z_X8_chosenBy {X : Cxt} (hX : okX X cX8_chosenBy RX8 rm_X8_chosenBy (some .int) 2) (M : Mem) (v0 : Nat) (v1 : Int32) : Zj X (fun o : Int32 × Mem => Qr X rm_X8_chosenBy.cells rm_X8_chosenBy.slots (some (.int o.1)) o.2) 0 0 0 [(0, .ref v0), (1, .int v1)] [] M (f_X8_chosenBy M v0 v1) := by
  unfold f_X8_chosenBy
  refine z_iload_n hX 1 rfl rfl dX8_chosenBy_0 ?_
  refine z_if_ne hX 12 (by decide) dX8_chosenBy_1 (fun _ => ?_) (fun _ => ?_)
  · refine z_iload_n hX 1 rfl rfl dX8_chosenBy_12 ?_
    refine z_iconst (v := 1) hX (by decide) dX8_chosenBy_13 ?_
    refine z_jn (C' := 0) (S' := 0) 31 (fun (j1 : Int32 × Mem) => []) (fun (j1 : Int32 × Mem) => [.int j1.1]) (fun (j1 : Int32 × Mem) => j1.2) (fun j1 => ?_) (fun kj1 => ?_)
    · exact z_iretM hX dX8_chosenBy_31 (Nat.le_of_ble_eq_true rfl) (Nat.le_of_ble_eq_true rfl)
    · refine z_iteB ?_
      refine z_icmp_ne hX 27 (by decide) dX8_chosenBy_14 (fun _ => ?_) (fun _ => ?_)
      · refine z_aload_n hX 0 rfl rfl dX8_chosenBy_27 ?_
        refine z_asc ?_
        refine z_asc2 ?_
        refine z_cVIm 8 [] hX (fun l hl o ho => c_X8_bestNow l hl M v0 o ho) dX8_chosenBy_28 (by decide) rfl rfl q_812 okV_X8_bestNow rfl ⟨(Nat.le_of_ble_eq_true rfl), (Nat.le_of_ble_eq_true rfl)⟩ rfl (Nat.le_of_ble_eq_true rfl) rfl rfl ⟨(Nat.le_of_ble_eq_true rfl), (Nat.le_of_ble_eq_true rfl)⟩ (fun o2 => ?_)
        refine z_pure ?_
        refine z_sub [] rfl ?_
        exact kj1 (o2.1, o2.2)
      · refine z_aload_n hX 0 rfl rfl dX8_chosenBy_17 ?_
        refine z_asc ?_
        refine z_asc2 ?_
        refine z_cVAm 8 [] hX (fun l hl o ho => c_X8_greedyNow l hl M v0 o ho) dX8_chosenBy_18 (by decide) rfl rfl q_801 okV_X8_greedyNow rfl ⟨(Nat.le_of_ble_eq_true rfl), (Nat.le_of_ble_eq_true rfl)⟩ rfl (Nat.le_of_ble_eq_true rfl) rfl rfl ⟨(Nat.le_of_ble_eq_true rfl), (Nat.le_of_ble_eq_true rfl)⟩ (fun o3 => ?_)
        refine z_asc ?_
        refine z_gFI 2 4 hX (by decide) rfl (by decide) rfl q_243 dX8_chosenBy_21 (fun x4 => ?_)
        refine z_goto hX 31 (by decide) dX8_chosenBy_24 ?_
        refine z_pure ?_
        refine z_sub [] rfl ?_
        exact kj1 (x4, o3.2)
  · refine z_aload_n hX 0 rfl rfl dX8_chosenBy_4 ?_
    refine z_cVAm 8 [] hX (fun l hl o ho => c_X8_equalNow l hl M v0 o ho) dX8_chosenBy_5 (by decide) rfl rfl q_662 okV_X8_equalNow rfl ⟨(Nat.le_of_ble_eq_true rfl), (Nat.le_of_ble_eq_true rfl)⟩ rfl (Nat.le_of_ble_eq_true rfl) rfl rfl ⟨(Nat.le_of_ble_eq_true rfl), (Nat.le_of_ble_eq_true rfl)⟩ (fun o5 => ?_)
    refine z_cVIp 1 [] hX (fun l hl o ho => c_X1_chosen l hl o5.2 o5.1 o ho) dX8_chosenBy_8 (by decide) rfl rfl q_780 okV_X1_chosen rfl ⟨(Nat.le_of_ble_eq_true rfl), (Nat.le_of_ble_eq_true rfl)⟩ rfl (Nat.le_of_ble_eq_true rfl) rfl rfl ⟨(Nat.le_of_ble_eq_true rfl), (Nat.le_of_ble_eq_true rfl)⟩ (fun o6 => ?_)
    exact z_iretM hX dX8_chosenBy_11 (Nat.le_of_ble_eq_true rfl) (Nat.le_of_ble_eq_true rfl)
theorem c_X8_chosenBy (l : Launch) (hl : l.stackTraces = false) (M : Mem) (v0 : Nat) (v1 : Int32) (o : Int32 × Mem) (ho : f_X8_chosenBy M v0 v1 = some o) : Ct l yX8_chosenBy cX8_chosenBy 2 (some .int) rm_X8_chosenBy [.ref v0, .int v1] M (some (.int o.1)) o.2 :=
  Ct.of hl (by decide +kernel) (Nat.le_of_ble_eq_true rfl) rfl (fun X hX hin => z_X8_chosenBy hX M v0 v1 o ho)
theorem okV_X8_chosenBy : okV yX8_chosenBy cX8_chosenBy 2 (some .int) 1 := ⟨q_799, q_17, q_86, q_800, by unfold okY; decide +kernel⟩
/-! ParticipatoryBudget.funded(I)I -/
abbrev rm_X8_funded : Room := { frames := 7, cells := 0, slots := 0, locals := 165 }
set_option maxRecDepth 20000 in
set_option maxHeartbeats 4000000 in
theorem z_X8_funded {X : Cxt} (hX : okX X cX8_funded RX8 rm_X8_funded (some .int) 2) (M : Mem) (v0 : Nat) (v1 : Int32) : Zj X (fun o : Int32 × Mem => Qr X rm_X8_funded.cells rm_X8_funded.slots (some (.int o.1)) o.2) 0 0 0 [(0, .ref v0), (1, .int v1)] [] M (f_X8_funded M v0 v1) := by
  unfold f_X8_funded
  refine z_iload_n hX 1 rfl rfl dX8_funded_0 ?_
  refine z_cSIp [.int v1] hX (fun l hl o ho => c_X8_isRule l hl M v1 o ho) dX8_funded_1 q_794 okS_X8_isRule rfl ⟨(Nat.le_of_ble_eq_true rfl), (Nat.le_of_ble_eq_true rfl)⟩ rfl (Nat.le_of_ble_eq_true rfl) rfl rfl ⟨(Nat.le_of_ble_eq_true rfl), (Nat.le_of_ble_eq_true rfl)⟩ (fun o1 => ?_)
  refine z_jn (C' := 0) (S' := 0) 17 (fun (j2 : Int32 × Mem) => []) (fun (j2 : Int32 × Mem) => [.int j2.1]) (fun (j2 : Int32 × Mem) => j2.2) (fun j2 => ?_) (fun kj2 => ?_)
  · exact z_iretM hX dX8_funded_17 (Nat.le_of_ble_eq_true rfl) (Nat.le_of_ble_eq_true rfl)
  · refine z_iteB ?_
    refine z_if_eq hX 15 (by decide) dX8_funded_4 (fun _ => ?_) (fun _ => ?_)
    · refine z_bipush (v := (-2)) hX (by decide) dX8_funded_15 ?_
      refine z_pure ?_
      refine z_sub [] rfl ?_
      exact kj2 ((-2), M)
    · refine z_aload_n hX 0 rfl rfl dX8_funded_7 ?_
      refine z_iload_n hX 1 rfl rfl dX8_funded_8 ?_
      refine z_asc ?_
      refine z_asc2 ?_
      refine z_cVIm 8 [.int v1] hX (fun l hl o ho => c_X8_chosenBy l hl M v0 v1 o ho) dX8_funded_9 (by decide) rfl rfl q_797 okV_X8_chosenBy rfl ⟨(Nat.le_of_ble_eq_true rfl), (Nat.le_of_ble_eq_true rfl)⟩ rfl (Nat.le_of_ble_eq_true rfl) rfl rfl ⟨(Nat.le_of_ble_eq_true rfl), (Nat.le_of_ble_eq_true rfl)⟩ (fun o3 => ?_)
      refine z_goto hX 17 (by decide) dX8_funded_12 ?_
      refine z_pure ?_
      refine z_sub [] rfl ?_
      exact kj2 (o3.1, o3.2)
theorem c_X8_funded (l : Launch) (hl : l.stackTraces = false) (M : Mem) (v0 : Nat) (v1 : Int32) (o : Int32 × Mem) (ho : f_X8_funded M v0 v1 = some o) : Ct l yX8_funded cX8_funded 2 (some .int) rm_X8_funded [.ref v0, .int v1] M (some (.int o.1)) o.2 :=
  Ct.of hl (by decide +kernel) (Nat.le_of_ble_eq_true rfl) rfl (fun X hX hin => z_X8_funded hX M v0 v1 o ho)
theorem okV_X8_funded : okV yX8_funded cX8_funded 2 (some .int) 1 := ⟨q_791, q_792, q_86, q_793, by unfold okY; decide +kernel⟩
/-! ParticipatoryBudget.elementAt(II)I -/
abbrev rm_X8_elementAt : Room := { frames := 1, cells := 0, slots := 0, locals := 21 }
set_option maxRecDepth 20000 in
set_option maxHeartbeats 4000000 in
theorem z_X8_elementAt {X : Cxt} (hX : okX X cX8_elementAt RX8 rm_X8_elementAt (some .int) 4) (M : Mem) (v0 : Int32) (v1 : Int32) : Zj X (fun o : Int32 => Qr X rm_X8_elementAt.cells rm_X8_elementAt.slots (some (.int o)) M) 0 0 0 [(0, .int v0), (1, .int v1)] [] M (f_X8_elementAt M v0 v1) := by
  unfold f_X8_elementAt
  refine z_iconst (v := 0) hX (by decide) dX8_elementAt_0 ?_
  refine z_istore_n hX [(2, .int 0), (0, .int v0), (1, .int v1)] rfl (by decide) rfl dX8_elementAt_1 ?_
  refine z_iconst (v := 0) hX (by decide) dX8_elementAt_2 ?_
  refine z_istore_n hX [(3, .int 0), (2, .int 0), (0, .int v0), (1, .int v1)] rfl (by decide) rfl dX8_elementAt_3 ?_
  refine z_sub [2, 3, 1, 0] rfl ?_
  refine z_lp (x0 := (0, 0)) (bd_X8_elementAt_4 M v0 v1) 4 34 (fun (u1 : Int32 × Int32) => [(0, .int v0), (1, .int v1), (2, .int u1.1), (3, .int u1.2)]) (fun (e2 : Int32 × Int32) => []) (fun (u1 : Int32 × Int32) => M) ?_ ?_
  · intro e2
    refine z_iconst (v := (-1)) hX (by decide) dX8_elementAt_34 ?_
    exact z_iretP hX dX8_elementAt_35 (Nat.le_of_ble_eq_true rfl) (Nat.le_of_ble_eq_true rfl)
  · intro kk3 rc4 hkk3 hrc4 u1
    unfold bd_X8_elementAt_4
    refine z_iload_n hX 3 rfl rfl dX8_elementAt_4 ?_
    refine z_bipush (v := 12) hX (by decide) dX8_elementAt_5 ?_
    refine z_icmp_ge hX 34 (by decide) dX8_elementAt_7 (fun _ => ?_) (fun _ => ?_)
    · refine z_sub [] rfl ?_
      exact hkk3 (u1.1, u1.2)
    · refine z_iload_n hX 0 rfl rfl dX8_elementAt_10 ?_
      refine z_iload_n hX 3 rfl rfl dX8_elementAt_11 ?_
      refine z_cSIp [.int v0, .int u1.2] hX (fun l hl o ho => c_X8_has l hl M v0 u1.2 o ho) dX8_elementAt_12 q_857 okS_X8_has rfl ⟨(Nat.le_of_ble_eq_true rfl), (Nat.le_of_ble_eq_true rfl)⟩ rfl (Nat.le_of_ble_eq_true rfl) rfl rfl ⟨(Nat.le_of_ble_eq_true rfl), (Nat.le_of_ble_eq_true rfl)⟩ (fun o5 => ?_)
      refine z_if_eq hX 28 (by decide) dX8_elementAt_15 (fun _ => ?_) (fun _ => ?_)
      · refine z_iinc hX 3 [(3, .int (u1.2 + 1)), (0, .int v0), (1, .int v1), (2, .int u1.1)] rfl rfl (by decide) rfl dX8_elementAt_28 ?_
        refine z_goto hX 4 (by decide) dX8_elementAt_31 ?_
        refine z_sub [1, 2, 3, 0] rfl ?_
        exact hrc4 (u1.1, u1.2 + 1)
      · refine z_iload_n hX 2 rfl rfl dX8_elementAt_18 ?_
        refine z_iload_n hX 1 rfl rfl dX8_elementAt_19 ?_
        refine z_icmp_ne hX 25 (by decide) dX8_elementAt_20 (fun _ => ?_) (fun _ => ?_)
        · refine z_iinc hX 2 [(2, .int (u1.1 + 1)), (0, .int v0), (1, .int v1), (3, .int u1.2)] rfl rfl (by decide) rfl dX8_elementAt_25 ?_
          refine z_iinc hX 3 [(3, .int (u1.2 + 1)), (2, .int (u1.1 + 1)), (0, .int v0), (1, .int v1)] rfl rfl (by decide) rfl dX8_elementAt_28 ?_
          refine z_goto hX 4 (by decide) dX8_elementAt_31 ?_
          refine z_sub [2, 3, 1, 0] rfl ?_
          exact hrc4 (u1.1 + 1, u1.2 + 1)
        · refine z_iload_n hX 3 rfl rfl dX8_elementAt_23 ?_
          exact z_iretP hX dX8_elementAt_24 (Nat.le_of_ble_eq_true rfl) (Nat.le_of_ble_eq_true rfl)
theorem c_X8_elementAt (l : Launch) (hl : l.stackTraces = false) (M : Mem) (v0 : Int32) (v1 : Int32) (o : Int32) (ho : f_X8_elementAt M v0 v1 = some o) : Ct l yX8_elementAt cX8_elementAt 4 (some .int) rm_X8_elementAt [.int v0, .int v1] M (some (.int o)) M :=
  Ct.of hl (by decide +kernel) (Nat.le_of_ble_eq_true rfl) rfl (fun X hX hin => z_X8_elementAt hX M v0 v1 o ho)
theorem okS_X8_elementAt : okS yX8_elementAt cX8_elementAt 4 (some .int) 2 := ⟨q_855, q_86, q_856, by unfold okY; decide +kernel⟩
/-! ParticipatoryBudget.fundedAt(II)I -/
abbrev rm_X8_fundedAt : Room := { frames := 6, cells := 0, slots := 0, locals := 144 }
set_option maxRecDepth 20000 in
set_option maxHeartbeats 4000000 in
theorem z_X8_fundedAt {X : Cxt} (hX : okX X cX8_fundedAt RX8 rm_X8_fundedAt (some .int) 3) (M : Mem) (v0 : Nat) (v1 : Int32) (v2 : Int32) : Zj X (fun o : Int32 × Mem => Qr X rm_X8_fundedAt.cells rm_X8_fundedAt.slots (some (.int o.1)) o.2) 0 0 0 [(0, .ref v0), (1, .int v1), (2, .int v2)] [] M (f_X8_fundedAt M v0 v1 v2) := by
  unfold f_X8_fundedAt
  refine z_iload_n hX 1 rfl rfl dX8_fundedAt_0 ?_
  refine z_tsw0 (fun hz1 => ?_)
  refine z_tswC hX 0 28 hz1 dX8_fundedAt_1 (by decide) (by decide) rfl (by decide) ?_ (fun hz8 => ?_)
  · refine z_aload_n hX 0 rfl rfl dX8_fundedAt_28 ?_
    refine z_cVAm 8 [] hX (fun l hl o ho => c_X8_equalNow l hl M v0 o ho) dX8_fundedAt_29 (by decide) rfl rfl q_662 okV_X8_equalNow rfl ⟨(Nat.le_of_ble_eq_true rfl), (Nat.le_of_ble_eq_true rfl)⟩ rfl (Nat.le_of_ble_eq_true rfl) rfl rfl ⟨(Nat.le_of_ble_eq_true rfl), (Nat.le_of_ble_eq_true rfl)⟩ (fun o2 => ?_)
    refine z_iload_n hX 2 rfl rfl dX8_fundedAt_32 ?_
    refine z_cVIp 1 [.int v2] hX (fun l hl o ho => c_X1_chosenAt l hl o2.2 o2.1 v2 o ho) dX8_fundedAt_33 (by decide) rfl rfl q_843 okV_X1_chosenAt rfl ⟨(Nat.le_of_ble_eq_true rfl), (Nat.le_of_ble_eq_true rfl)⟩ rfl (Nat.le_of_ble_eq_true rfl) rfl rfl ⟨(Nat.le_of_ble_eq_true rfl), (Nat.le_of_ble_eq_true rfl)⟩ (fun o3 => ?_)
    exact z_iretM hX dX8_fundedAt_36 (Nat.le_of_ble_eq_true rfl) (Nat.le_of_ble_eq_true rfl)
  refine z_tswC hX 1 37 hz8 dX8_fundedAt_1 (by decide) (by decide) rfl (by decide) ?_ (fun hz9 => ?_)
  · refine z_aload_n hX 0 rfl rfl dX8_fundedAt_37 ?_
    refine z_cVAm 8 [] hX (fun l hl o ho => c_X8_greedyNow l hl M v0 o ho) dX8_fundedAt_38 (by decide) rfl rfl q_801 okV_X8_greedyNow rfl ⟨(Nat.le_of_ble_eq_true rfl), (Nat.le_of_ble_eq_true rfl)⟩ rfl (Nat.le_of_ble_eq_true rfl) rfl rfl ⟨(Nat.le_of_ble_eq_true rfl), (Nat.le_of_ble_eq_true rfl)⟩ (fun o4 => ?_)
    refine z_iload_n hX 2 rfl rfl dX8_fundedAt_41 ?_
    refine z_cVIp 2 [.int v2] hX (fun l hl o ho => c_X2_chosenAt l hl o4.2 o4.1 v2 o ho) dX8_fundedAt_42 (by decide) rfl rfl q_853 okV_X2_chosenAt rfl ⟨(Nat.le_of_ble_eq_true rfl), (Nat.le_of_ble_eq_true rfl)⟩ rfl (Nat.le_of_ble_eq_true rfl) rfl rfl ⟨(Nat.le_of_ble_eq_true rfl), (Nat.le_of_ble_eq_true rfl)⟩ (fun o5 => ?_)
    exact z_iretM hX dX8_fundedAt_45 (Nat.le_of_ble_eq_true rfl) (Nat.le_of_ble_eq_true rfl)
  refine z_tswC hX 2 46 hz9 dX8_fundedAt_1 (by decide) (by decide) rfl (by decide) ?_ (fun hz10 => ?_)
  · refine z_aload_n hX 0 rfl rfl dX8_fundedAt_46 ?_
    refine z_cVIm 8 [] hX (fun l hl o ho => c_X8_bestNow l hl M v0 o ho) dX8_fundedAt_47 (by decide) rfl rfl q_812 okV_X8_bestNow rfl ⟨(Nat.le_of_ble_eq_true rfl), (Nat.le_of_ble_eq_true rfl)⟩ rfl (Nat.le_of_ble_eq_true rfl) rfl rfl ⟨(Nat.le_of_ble_eq_true rfl), (Nat.le_of_ble_eq_true rfl)⟩ (fun o6 => ?_)
    refine z_iload_n hX 2 rfl rfl dX8_fundedAt_50 ?_
    refine z_cSIp [.int o6.1, .int v2] hX (fun l hl o ho => c_X8_elementAt l hl o6.2 o6.1 v2 o ho) dX8_fundedAt_51 q_854 okS_X8_elementAt rfl ⟨(Nat.le_of_ble_eq_true rfl), (Nat.le_of_ble_eq_true rfl)⟩ rfl (Nat.le_of_ble_eq_true rfl) rfl rfl ⟨(Nat.le_of_ble_eq_true rfl), (Nat.le_of_ble_eq_true rfl)⟩ (fun o7 => ?_)
    exact z_iretM hX dX8_fundedAt_54 (Nat.le_of_ble_eq_true rfl) (Nat.le_of_ble_eq_true rfl)
  refine z_tswD hX 3 55 hz10 dX8_fundedAt_1 (by decide) (by decide) (by decide) ?_
  refine z_bipush (v := (-2)) hX (by decide) dX8_fundedAt_55 ?_
  exact z_iretM hX dX8_fundedAt_57 (Nat.le_of_ble_eq_true rfl) (Nat.le_of_ble_eq_true rfl)
theorem c_X8_fundedAt (l : Launch) (hl : l.stackTraces = false) (M : Mem) (v0 : Nat) (v1 : Int32) (v2 : Int32) (o : Int32 × Mem) (ho : f_X8_fundedAt M v0 v1 v2 = some o) : Ct l yX8_fundedAt cX8_fundedAt 3 (some .int) rm_X8_fundedAt [.ref v0, .int v1, .int v2] M (some (.int o.1)) o.2 :=
  Ct.of hl (by decide +kernel) (Nat.le_of_ble_eq_true rfl) rfl (fun X hX hin => z_X8_fundedAt hX M v0 v1 v2 o ho)
theorem okV_X8_fundedAt : okV yX8_fundedAt cX8_fundedAt 3 (some .int) 2 := ⟨q_840, q_841, q_86, q_842, by unfold okY; decide +kernel⟩
/-! ParticipatoryBudget.paidFrom(III)I -/
abbrev rm_X8_paidFrom : Room := { frames := 7, cells := 2, slots := 12, locals := 144 }
set_option maxRecDepth 20000 in
set_option maxHeartbeats 4000000 in
theorem z_X8_paidFrom {X : Cxt} (hX : okX X cX8_paidFrom RX8 rm_X8_paidFrom (some .int) 5) (hT : noT X) (M : Mem) (v0 : Nat) (v1 : Int32) (v2 : Int32) (v3 : Int32) : Zj X (fun o : Option Int32 × Mem => Qx X rm_X8_paidFrom.cells rm_X8_paidFrom.slots (o.1.map fun v => some (.int v)) o.2) 0 0 0 [(0, .ref v0), (1, .int v1), (2, .int v2), (3, .int v3)] [] M (f_X8_paidFrom M v0 v1 v2 v3) := by
  unfold f_X8_paidFrom
  refine z_iload_n hX 2 rfl rfl dX8_paidFrom_0 ?_
  refine z_aload_n hX 0 rfl rfl dX8_paidFrom_1 ?_
  refine z_gFR 8 8 hX (by decide) rfl (by decide) rfl q_425 dX8_paidFrom_2 (fun r1 => ?_)
  refine z_gFI 0 1 hX (by decide) rfl (by decide) rfl q_330 dX8_paidFrom_5 (fun x2 => ?_)
  refine z_cSx [.int v2, .int x2] hX hT (fun l hl o ho => c_X8_checkIndex l hl M v2 x2 o ho) dX8_paidFrom_8 q_1002 okS_X8_checkIndex.1 okS_X8_checkIndex.2.1 okS_X8_checkIndex.2.2.1 okS_X8_checkIndex.2.2.2 rfl ⟨(Nat.le_of_ble_eq_true rfl), (Nat.le_of_ble_eq_true rfl)⟩ rfl (Nat.le_of_ble_eq_true rfl) rfl rfl ⟨(Nat.le_of_ble_eq_true rfl), (Nat.le_of_ble_eq_true rfl)⟩ (Nat.le_of_ble_eq_true rfl) (Nat.le_of_ble_eq_true rfl) (fun M4 => ?_)
  refine z_iload_n hX 3 rfl rfl dX8_paidFrom_11 ?_
  refine z_aload_n hX 0 rfl rfl dX8_paidFrom_12 ?_
  refine z_gFR 8 8 hX (by decide) rfl (by decide) rfl q_425 dX8_paidFrom_13 (fun r5 => ?_)
  refine z_gFI 0 0 hX (by decide) rfl (by decide) rfl q_323 dX8_paidFrom_16 (fun x6 => ?_)
  refine z_cSx [.int v3, .int x6] hX hT (fun l hl o ho => c_X8_checkIndex l hl M4 v3 x6 o ho) dX8_paidFrom_19 q_1002 okS_X8_checkIndex.1 okS_X8_checkIndex.2.1 okS_X8_checkIndex.2.2.1 okS_X8_checkIndex.2.2.2 rfl ⟨(Nat.le_of_ble_eq_true rfl), (Nat.le_of_ble_eq_true rfl)⟩ rfl (Nat.le_of_ble_eq_true rfl) rfl rfl ⟨(Nat.le_of_ble_eq_true rfl), (Nat.le_of_ble_eq_true rfl)⟩ (Nat.le_of_ble_eq_true rfl) (Nat.le_of_ble_eq_true rfl) (fun M8 => ?_)
  refine z_iload_n hX 1 rfl rfl dX8_paidFrom_22 ?_
  refine z_if_ne hX 58 (by decide) dX8_paidFrom_23 (fun _ => ?_) (fun _ => ?_)
  · refine z_iload_n hX 1 rfl rfl dX8_paidFrom_58 ?_
    refine z_iconst (v := 1) hX (by decide) dX8_paidFrom_59 ?_
    refine z_jn (C' := 2) (S' := 12) 79 (fun (j9 : Int32 × Mem) => []) (fun (j9 : Int32 × Mem) => [.int j9.1]) (fun (j9 : Int32 × Mem) => j9.2) (fun j9 => ?_) (fun kj9 => ?_)
    · exact z_iretX hX dX8_paidFrom_79 (Nat.le_of_ble_eq_true rfl) (Nat.le_of_ble_eq_true rfl)
    · refine z_iteB ?_
      refine z_icmp_ne hX 77 (by decide) dX8_paidFrom_60 (fun _ => ?_) (fun _ => ?_)
      · refine z_bipush (v := (-2)) hX (by decide) dX8_paidFrom_77 ?_
        refine z_pure ?_
        refine z_sub [] rfl ?_
        exact kj9 ((-2), M8)
      · refine z_aload_n hX 0 rfl rfl dX8_paidFrom_63 ?_
        refine z_asc ?_
        refine z_asc2 ?_
        refine z_cVAm 8 [] hX (fun l hl o ho => c_X8_greedyNow l hl M8 v0 o ho) dX8_paidFrom_64 (by decide) rfl rfl q_801 okV_X8_greedyNow rfl ⟨(Nat.le_of_ble_eq_true rfl), (Nat.le_of_ble_eq_true rfl)⟩ rfl (Nat.le_of_ble_eq_true rfl) rfl rfl ⟨(Nat.le_of_ble_eq_true rfl), (Nat.le_of_ble_eq_true rfl)⟩ (fun o10 => ?_)
        refine z_asc ?_
        refine z_gFR 2 1 hX (by decide) rfl (by decide) rfl q_238 dX8_paidFrom_67 (fun r11 => ?_)
        refine z_iload_n hX 2 rfl rfl dX8_paidFrom_70 ?_
        refine z_asc ?_
        refine z_aR hX dX8_paidFrom_71 (fun r12 => ?_)
        refine z_iload_n hX 3 rfl rfl dX8_paidFrom_72 ?_
        refine z_asc ?_
        refine z_aI hX dX8_paidFrom_73 (fun x13 => ?_)
        refine z_goto hX 79 (by decide) dX8_paidFrom_74 ?_
        refine z_pure ?_
        refine z_sub [] rfl ?_
        exact kj9 (x13, o10.2)
  · refine z_aload_n hX 0 rfl rfl dX8_paidFrom_26 ?_
    refine z_cVAm 8 [] hX (fun l hl o ho => c_X8_equalNow l hl M8 v0 o ho) dX8_paidFrom_27 (by decide) rfl rfl q_662 okV_X8_equalNow rfl ⟨(Nat.le_of_ble_eq_true rfl), (Nat.le_of_ble_eq_true rfl)⟩ rfl (Nat.le_of_ble_eq_true rfl) rfl rfl ⟨(Nat.le_of_ble_eq_true rfl), (Nat.le_of_ble_eq_true rfl)⟩ (fun o14 => ?_)
    refine z_astore hX [(4, .ref o14.1), (0, .ref v0), (1, .int v1), (2, .int v2), (3, .int v3)] (by decide) rfl dX8_paidFrom_30 ?_
    refine z_aload hX 0 rfl dX8_paidFrom_32 ?_
    refine z_gFR 1 0 hX (by decide) rfl (by decide) rfl q_256 dX8_paidFrom_34 (fun r15 => ?_)
    refine z_gFR 6 2 hX (by decide) rfl (by decide) rfl q_195 dX8_paidFrom_37 (fun r16 => ?_)
    refine z_iload_n hX 3 rfl rfl dX8_paidFrom_40 ?_
    refine z_aR hX dX8_paidFrom_41 (fun r17 => ?_)
    refine z_iload_n hX 4 rfl rfl dX8_paidFrom_42 ?_
    refine z_aI hX dX8_paidFrom_43 (fun x18 => ?_)
    refine z_aload hX 0 rfl dX8_paidFrom_44 ?_
    refine z_gFR 1 2 hX (by decide) rfl (by decide) rfl q_259 dX8_paidFrom_46 (fun r19 => ?_)
    refine z_gFR 2 1 hX (by decide) rfl (by decide) rfl q_238 dX8_paidFrom_49 (fun r20 => ?_)
    refine z_iload_n hX 3 rfl rfl dX8_paidFrom_52 ?_
    refine z_aR hX dX8_paidFrom_53 (fun r21 => ?_)
    refine z_iload_n hX 4 rfl rfl dX8_paidFrom_54 ?_
    refine z_aI hX dX8_paidFrom_55 (fun x22 => ?_)
    refine z_iadd hX dX8_paidFrom_56 ?_
    exact z_iretX hX dX8_paidFrom_57 (Nat.le_of_ble_eq_true rfl) (Nat.le_of_ble_eq_true rfl)
theorem c_X8_paidFrom (l : Launch) (hl : l.stackTraces = false) (M : Mem) (v0 : Nat) (v1 : Int32) (v2 : Int32) (v3 : Int32) (o : Option Int32 × Mem) (ho : f_X8_paidFrom M v0 v1 v2 v3 = some o) : Cx l yX8_paidFrom cX8_paidFrom 5 (some .int) rm_X8_paidFrom [.ref v0, .int v1, .int v2, .int v3] M (o.1.map fun v => some (.int v)) o.2 :=
  Cx.of hl (by decide +kernel) (Nat.le_of_ble_eq_true rfl) rfl (fun X hX hT => z_X8_paidFrom hX hT M v0 v1 v2 v3 o ho)
theorem okV_X8_paidFrom : okV yX8_paidFrom cX8_paidFrom 5 (some .int) 3 := ⟨q_1152, q_1153, q_86, q_1154, by unfold okY; decide +kernel⟩
/-! ParticipatoryBudget.leftOf(II)I -/
abbrev rm_X8_leftOf : Room := { frames := 7, cells := 1, slots := 6, locals := 144 }
set_option maxRecDepth 20000 in
set_option maxHeartbeats 4000000 in
theorem z_X8_leftOf {X : Cxt} (hX : okX X cX8_leftOf RX8 rm_X8_leftOf (some .int) 3) (hT : noT X) (M : Mem) (v0 : Nat) (v1 : Int32) (v2 : Int32) : Zj X (fun o : Option Int32 × Mem => Qx X rm_X8_leftOf.cells rm_X8_leftOf.slots (o.1.map fun v => some (.int v)) o.2) 0 0 0 [(0, .ref v0), (1, .int v1), (2, .int v2)] [] M (f_X8_leftOf M v0 v1 v2) := by
  unfold f_X8_leftOf
  refine z_iload_n hX 2 rfl rfl dX8_leftOf_0 ?_
  refine z_aload_n hX 0 rfl rfl dX8_leftOf_1 ?_
  refine z_gFR 8 8 hX (by decide) rfl (by decide) rfl q_425 dX8_leftOf_2 (fun r1 => ?_)
  refine z_gFI 0 0 hX (by decide) rfl (by decide) rfl q_323 dX8_leftOf_5 (fun x2 => ?_)
  refine z_cSx [.int v2, .int x2] hX hT (fun l hl o ho => c_X8_checkIndex l hl M v2 x2 o ho) dX8_leftOf_8 q_1002 okS_X8_checkIndex.1 okS_X8_checkIndex.2.1 okS_X8_checkIndex.2.2.1 okS_X8_checkIndex.2.2.2 rfl ⟨(Nat.le_of_ble_eq_true rfl), (Nat.le_of_ble_eq_true rfl)⟩ rfl (Nat.le_of_ble_eq_true rfl) rfl rfl ⟨(Nat.le_of_ble_eq_true rfl), (Nat.le_of_ble_eq_true rfl)⟩ (Nat.le_of_ble_eq_true rfl) (Nat.le_of_ble_eq_true rfl) (fun M4 => ?_)
  refine z_iload_n hX 1 rfl rfl dX8_leftOf_11 ?_
  refine z_if_ne hX 28 (by decide) dX8_leftOf_12 (fun _ => ?_) (fun _ => ?_)
  · refine z_iload_n hX 1 rfl rfl dX8_leftOf_28 ?_
    refine z_iconst (v := 1) hX (by decide) dX8_leftOf_29 ?_
    refine z_jn (C' := 1) (S' := 6) 47 (fun (j5 : Int32 × Mem) => []) (fun (j5 : Int32 × Mem) => [.int j5.1]) (fun (j5 : Int32 × Mem) => j5.2) (fun j5 => ?_) (fun kj5 => ?_)
    · exact z_iretX hX dX8_leftOf_47 (Nat.le_of_ble_eq_true rfl) (Nat.le_of_ble_eq_true rfl)
    · refine z_iteB ?_
      refine z_icmp_ne hX 45 (by decide) dX8_leftOf_30 (fun _ => ?_) (fun _ => ?_)
      · refine z_bipush (v := (-2)) hX (by decide) dX8_leftOf_45 ?_
        refine z_pure ?_
        refine z_sub [] rfl ?_
        exact kj5 ((-2), M4)
      · refine z_aload_n hX 0 rfl rfl dX8_leftOf_33 ?_
        refine z_asc ?_
        refine z_asc2 ?_
        refine z_cVAm 8 [] hX (fun l hl o ho => c_X8_greedyNow l hl M4 v0 o ho) dX8_leftOf_34 (by decide) rfl rfl q_801 okV_X8_greedyNow rfl ⟨(Nat.le_of_ble_eq_true rfl), (Nat.le_of_ble_eq_true rfl)⟩ rfl (Nat.le_of_ble_eq_true rfl) rfl rfl ⟨(Nat.le_of_ble_eq_true rfl), (Nat.le_of_ble_eq_true rfl)⟩ (fun o6 => ?_)
        refine z_asc ?_
        refine z_gFR 2 0 hX (by decide) rfl (by decide) rfl q_236 dX8_leftOf_37 (fun r7 => ?_)
        refine z_iload_n hX 2 rfl rfl dX8_leftOf_40 ?_
        refine z_asc ?_
        refine z_aI hX dX8_leftOf_41 (fun x8 => ?_)
        refine z_goto hX 47 (by decide) dX8_leftOf_42 ?_
        refine z_pure ?_
        refine z_sub [] rfl ?_
        exact kj5 (x8, o6.2)
  · refine z_aload_n hX 0 rfl rfl dX8_leftOf_15 ?_
    refine z_cVAm 8 [] hX (fun l hl o ho => c_X8_equalNow l hl M4 v0 o ho) dX8_leftOf_16 (by decide) rfl rfl q_662 okV_X8_equalNow rfl ⟨(Nat.le_of_ble_eq_true rfl), (Nat.le_of_ble_eq_true rfl)⟩ rfl (Nat.le_of_ble_eq_true rfl) rfl rfl ⟨(Nat.le_of_ble_eq_true rfl), (Nat.le_of_ble_eq_true rfl)⟩ (fun o9 => ?_)
    refine z_gFR 1 2 hX (by decide) rfl (by decide) rfl q_259 dX8_leftOf_19 (fun r10 => ?_)
    refine z_gFR 2 0 hX (by decide) rfl (by decide) rfl q_236 dX8_leftOf_22 (fun r11 => ?_)
    refine z_iload_n hX 2 rfl rfl dX8_leftOf_25 ?_
    refine z_aI hX dX8_leftOf_26 (fun x12 => ?_)
    exact z_iretX hX dX8_leftOf_27 (Nat.le_of_ble_eq_true rfl) (Nat.le_of_ble_eq_true rfl)
theorem c_X8_leftOf (l : Launch) (hl : l.stackTraces = false) (M : Mem) (v0 : Nat) (v1 : Int32) (v2 : Int32) (o : Option Int32 × Mem) (ho : f_X8_leftOf M v0 v1 v2 = some o) : Cx l yX8_leftOf cX8_leftOf 3 (some .int) rm_X8_leftOf [.ref v0, .int v1, .int v2] M (o.1.map fun v => some (.int v)) o.2 :=
  Cx.of hl (by decide +kernel) (Nat.le_of_ble_eq_true rfl) rfl (fun X hX hT => z_X8_leftOf hX hT M v0 v1 v2 o ho)
theorem okV_X8_leftOf : okV yX8_leftOf cX8_leftOf 3 (some .int) 2 := ⟨q_1159, q_1160, q_86, q_1161, by unfold okY; decide +kernel⟩
/-! ParticipatoryBudget.totalCost(I)I -/
abbrev rm_X8_totalCost : Room := { frames := 7, cells := 0, slots := 0, locals := 165 }
set_option maxRecDepth 20000 in
set_option maxHeartbeats 4000000 in
theorem z_X8_totalCost {X : Cxt} (hX : okX X cX8_totalCost RX8 rm_X8_totalCost (some .int) 2) (M : Mem) (v0 : Nat) (v1 : Int32) : Zj X (fun o : Int32 × Mem => Qr X rm_X8_totalCost.cells rm_X8_totalCost.slots (some (.int o.1)) o.2) 0 0 0 [(0, .ref v0), (1, .int v1)] [] M (f_X8_totalCost M v0 v1) := by
  unfold f_X8_totalCost
  refine z_iload_n hX 1 rfl rfl dX8_totalCost_0 ?_
  refine z_cSIp [.int v1] hX (fun l hl o ho => c_X8_isRule l hl M v1 o ho) dX8_totalCost_1 q_794 okS_X8_isRule rfl ⟨(Nat.le_of_ble_eq_true rfl), (Nat.le_of_ble_eq_true rfl)⟩ rfl (Nat.le_of_ble_eq_true rfl) rfl rfl ⟨(Nat.le_of_ble_eq_true rfl), (Nat.le_of_ble_eq_true rfl)⟩ (fun o1 => ?_)
  refine z_jn (C' := 0) (S' := 0) 24 (fun (j2 : Int32 × Mem) => []) (fun (j2 : Int32 × Mem) => [.int j2.1]) (fun (j2 : Int32 × Mem) => j2.2) (fun j2 => ?_) (fun kj2 => ?_)
  · exact z_iretM hX dX8_totalCost_24 (Nat.le_of_ble_eq_true rfl) (Nat.le_of_ble_eq_true rfl)
  · refine z_iteB ?_
    refine z_if_eq hX 22 (by decide) dX8_totalCost_4 (fun _ => ?_) (fun _ => ?_)
    · refine z_bipush (v := (-2)) hX (by decide) dX8_totalCost_22 ?_
      refine z_pure ?_
      refine z_sub [] rfl ?_
      exact kj2 ((-2), M)
    · refine z_aload_n hX 0 rfl rfl dX8_totalCost_7 ?_
      refine z_asc ?_
      refine z_gFR 8 8 hX (by decide) rfl (by decide) rfl q_425 dX8_totalCost_8 (fun r3 => ?_)
      refine z_aload_n hX 0 rfl rfl dX8_totalCost_11 ?_
      refine z_iload_n hX 1 rfl rfl dX8_totalCost_12 ?_
      refine z_asc ?_
      refine z_asc2 ?_
      refine z_cVIm 8 [.int v1] hX (fun l hl o ho => c_X8_chosenBy l hl M v0 v1 o ho) dX8_totalCost_13 (by decide) rfl rfl q_797 okV_X8_chosenBy rfl ⟨(Nat.le_of_ble_eq_true rfl), (Nat.le_of_ble_eq_true rfl)⟩ rfl (Nat.le_of_ble_eq_true rfl) rfl rfl ⟨(Nat.le_of_ble_eq_true rfl), (Nat.le_of_ble_eq_true rfl)⟩ (fun o4 => ?_)
      refine z_asc ?_
      refine z_asc2 ?_
      refine z_cVIp 0 [.int o4.1] hX (fun l hl o ho => c_X0_costTogether l hl o4.2 r3 o4.1 o ho) dX8_totalCost_16 (by decide) rfl rfl q_862 okV_X0_costTogether rfl ⟨(Nat.le_of_ble_eq_true rfl), (Nat.le_of_ble_eq_true rfl)⟩ rfl (Nat.le_of_ble_eq_true rfl) rfl rfl ⟨(Nat.le_of_ble_eq_true rfl), (Nat.le_of_ble_eq_true rfl)⟩ (fun o5 => ?_)
      refine z_goto hX 24 (by decide) dX8_totalCost_19 ?_
      refine z_pure ?_
      refine z_sub [] rfl ?_
      exact kj2 (o5, o4.2)
theorem c_X8_totalCost (l : Launch) (hl : l.stackTraces = false) (M : Mem) (v0 : Nat) (v1 : Int32) (o : Int32 × Mem) (ho : f_X8_totalCost M v0 v1 = some o) : Ct l yX8_totalCost cX8_totalCost 2 (some .int) rm_X8_totalCost [.ref v0, .int v1] M (some (.int o.1)) o.2 :=
  Ct.of hl (by decide +kernel) (Nat.le_of_ble_eq_true rfl) rfl (fun X hX hin => z_X8_totalCost hX M v0 v1 o ho)
theorem okV_X8_totalCost : okV yX8_totalCost cX8_totalCost 2 (some .int) 1 := ⟨q_859, q_860, q_86, q_861, by unfold okY; decide +kernel⟩
/-! ParticipatoryBudget.welfare(I)J -/
abbrev rm_X8_welfare : Room := { frames := 7, cells := 0, slots := 0, locals := 165 }
set_option maxRecDepth 20000 in
set_option maxHeartbeats 4000000 in
theorem z_X8_welfare {X : Cxt} (hX : okX X cX8_welfare RX8 rm_X8_welfare (some .long) 2) (M : Mem) (v0 : Nat) (v1 : Int32) : Zj X (fun o : Int64 × Mem => Qr X rm_X8_welfare.cells rm_X8_welfare.slots (some (.long o.1)) o.2) 0 0 0 [(0, .ref v0), (1, .int v1)] [] M (f_X8_welfare M v0 v1) := by
  unfold f_X8_welfare
  refine z_iload_n hX 1 rfl rfl dX8_welfare_0 ?_
  refine z_cSIp [.int v1] hX (fun l hl o ho => c_X8_isRule l hl M v1 o ho) dX8_welfare_1 q_794 okS_X8_isRule rfl ⟨(Nat.le_of_ble_eq_true rfl), (Nat.le_of_ble_eq_true rfl)⟩ rfl (Nat.le_of_ble_eq_true rfl) rfl rfl ⟨(Nat.le_of_ble_eq_true rfl), (Nat.le_of_ble_eq_true rfl)⟩ (fun o1 => ?_)
  refine z_jn (C' := 0) (S' := 0) 26 (fun (j2 : Int64 × Mem) => []) (fun (j2 : Int64 × Mem) => [.long j2.1]) (fun (j2 : Int64 × Mem) => j2.2) (fun j2 => ?_) (fun kj2 => ?_)
  · exact z_lretM hX dX8_welfare_26 (Nat.le_of_ble_eq_true rfl) (Nat.le_of_ble_eq_true rfl)
  · refine z_iteB ?_
    refine z_if_eq hX 23 (by decide) dX8_welfare_4 (fun _ => ?_) (fun _ => ?_)
    · refine z_ldc2 (v := (-2)) hX q_875 dX8_welfare_23 ?_
      refine z_pure ?_
      refine z_sub [] rfl ?_
      exact kj2 ((-2), M)
    · refine z_aload_n hX 0 rfl rfl dX8_welfare_7 ?_
      refine z_asc ?_
      refine z_gFR 8 8 hX (by decide) rfl (by decide) rfl q_425 dX8_welfare_8 (fun r3 => ?_)
      refine z_aload_n hX 0 rfl rfl dX8_welfare_11 ?_
      refine z_iload_n hX 1 rfl rfl dX8_welfare_12 ?_
      refine z_asc ?_
      refine z_asc2 ?_
      refine z_cVIm 8 [.int v1] hX (fun l hl o ho => c_X8_chosenBy l hl M v0 v1 o ho) dX8_welfare_13 (by decide) rfl rfl q_797 okV_X8_chosenBy rfl ⟨(Nat.le_of_ble_eq_true rfl), (Nat.le_of_ble_eq_true rfl)⟩ rfl (Nat.le_of_ble_eq_true rfl) rfl rfl ⟨(Nat.le_of_ble_eq_true rfl), (Nat.le_of_ble_eq_true rfl)⟩ (fun o4 => ?_)
      refine z_asc ?_
      refine z_asc2 ?_
      refine z_cVIp 0 [.int o4.1] hX (fun l hl o ho => c_X0_valueTogether l hl o4.2 r3 o4.1 o ho) dX8_welfare_16 (by decide) rfl rfl q_870 okV_X0_valueTogether rfl ⟨(Nat.le_of_ble_eq_true rfl), (Nat.le_of_ble_eq_true rfl)⟩ rfl (Nat.le_of_ble_eq_true rfl) rfl rfl ⟨(Nat.le_of_ble_eq_true rfl), (Nat.le_of_ble_eq_true rfl)⟩ (fun o5 => ?_)
      refine z_i2l hX rfl dX8_welfare_19 ?_
      refine z_goto hX 26 (by decide) dX8_welfare_20 ?_
      refine z_pure ?_
      refine z_sub [] rfl ?_
      exact kj2 ((o5 : Int32).toInt64, o4.2)
theorem c_X8_welfare (l : Launch) (hl : l.stackTraces = false) (M : Mem) (v0 : Nat) (v1 : Int32) (o : Int64 × Mem) (ho : f_X8_welfare M v0 v1 = some o) : Ct l yX8_welfare cX8_welfare 2 (some .long) rm_X8_welfare [.ref v0, .int v1] M (some (.long o.1)) o.2 :=
  Ct.of hl (by decide +kernel) (Nat.le_of_ble_eq_true rfl) rfl (fun X hX hin => z_X8_welfare hX M v0 v1 o ho)
theorem okV_X8_welfare : okV yX8_welfare cX8_welfare 2 (some .long) 1 := ⟨q_867, q_868, q_86, q_869, by unfold okY; decide +kernel⟩
/-! ParticipatoryBudget.common(II)I -/
abbrev rm_X8_common : Room := { frames := 7, cells := 0, slots := 0, locals := 165 }
set_option maxRecDepth 20000 in
set_option maxHeartbeats 4000000 in
theorem z_X8_common {X : Cxt} (hX : okX X cX8_common RX8 rm_X8_common (some .int) 3) (M : Mem) (v0 : Nat) (v1 : Int32) (v2 : Int32) : Zj X (fun o : Int32 × Mem => Qr X rm_X8_common.cells rm_X8_common.slots (some (.int o.1)) o.2) 0 0 0 [(0, .ref v0), (1, .int v1), (2, .int v2)] [] M (f_X8_common M v0 v1 v2) := by
  unfold f_X8_common
  refine z_iload_n hX 1 rfl rfl dX8_common_0 ?_
  refine z_cSIp [.int v1] hX (fun l hl o ho => c_X8_isRule l hl M v1 o ho) dX8_common_1 q_794 okS_X8_isRule rfl ⟨(Nat.le_of_ble_eq_true rfl), (Nat.le_of_ble_eq_true rfl)⟩ rfl (Nat.le_of_ble_eq_true rfl) rfl rfl ⟨(Nat.le_of_ble_eq_true rfl), (Nat.le_of_ble_eq_true rfl)⟩ (fun o1 => ?_)
  refine z_jn (C' := 0) (S' := 0) 30 (fun (j2 : Int32 × Mem) => []) (fun (j2 : Int32 × Mem) => [.int j2.1]) (fun (j2 : Int32 × Mem) => j2.2) (fun j2 => ?_) (fun kj2 => ?_)
  · exact z_iretM hX dX8_common_30 (Nat.le_of_ble_eq_true rfl) (Nat.le_of_ble_eq_true rfl)
  · refine z_iteB ?_
    refine z_if_eq hX 28 (by decide) dX8_common_4 (fun _ => ?_) (fun _ => ?_)
    · refine z_bipush (v := (-2)) hX (by decide) dX8_common_28 ?_
      refine z_pure ?_
      refine z_sub [] rfl ?_
      exact kj2 ((-2), M)
    · refine z_iload_n hX 2 rfl rfl dX8_common_7 ?_
      refine z_asc ?_
      refine z_cSIp [.int v2] hX (fun l hl o ho => c_X8_isRule l hl M v2 o ho) dX8_common_8 q_794 okS_X8_isRule rfl ⟨(Nat.le_of_ble_eq_true rfl), (Nat.le_of_ble_eq_true rfl)⟩ rfl (Nat.le_of_ble_eq_true rfl) rfl rfl ⟨(Nat.le_of_ble_eq_true rfl), (Nat.le_of_ble_eq_true rfl)⟩ (fun o3 => ?_)
      refine z_iteB ?_
      refine z_if_eq hX 28 (by decide) dX8_common_11 (fun _ => ?_) (fun _ => ?_)
      · refine z_bipush (v := (-2)) hX (by decide) dX8_common_28 ?_
        refine z_pure ?_
        refine z_sub [] rfl ?_
        exact kj2 ((-2), M)
      · refine z_aload_n hX 0 rfl rfl dX8_common_14 ?_
        refine z_iload_n hX 1 rfl rfl dX8_common_15 ?_
        refine z_asc ?_
        refine z_asc2 ?_
        refine z_cVIm 8 [.int v1] hX (fun l hl o ho => c_X8_chosenBy l hl M v0 v1 o ho) dX8_common_16 (by decide) rfl rfl q_797 okV_X8_chosenBy rfl ⟨(Nat.le_of_ble_eq_true rfl), (Nat.le_of_ble_eq_true rfl)⟩ rfl (Nat.le_of_ble_eq_true rfl) rfl rfl ⟨(Nat.le_of_ble_eq_true rfl), (Nat.le_of_ble_eq_true rfl)⟩ (fun o4 => ?_)
        refine z_aload_n hX 0 rfl rfl dX8_common_19 ?_
        refine z_iload_n hX 2 rfl rfl dX8_common_20 ?_
        refine z_asc ?_
        refine z_asc2 ?_
        refine z_cVIm 8 [.int v2] hX (fun l hl o ho => c_X8_chosenBy l hl o4.2 v0 v2 o ho) dX8_common_21 (by decide) rfl rfl q_797 okV_X8_chosenBy rfl ⟨(Nat.le_of_ble_eq_true rfl), (Nat.le_of_ble_eq_true rfl)⟩ rfl (Nat.le_of_ble_eq_true rfl) rfl rfl ⟨(Nat.le_of_ble_eq_true rfl), (Nat.le_of_ble_eq_true rfl)⟩ (fun o5 => ?_)
        refine z_iand hX dX8_common_24 ?_
        refine z_goto hX 30 (by decide) dX8_common_25 ?_
        refine z_pure ?_
        refine z_sub [] rfl ?_
        exact kj2 (o4.1 &&& o5.1, o5.2)
theorem c_X8_common (l : Launch) (hl : l.stackTraces = false) (M : Mem) (v0 : Nat) (v1 : Int32) (v2 : Int32) (o : Int32 × Mem) (ho : f_X8_common M v0 v1 v2 = some o) : Ct l yX8_common cX8_common 3 (some .int) rm_X8_common [.ref v0, .int v1, .int v2] M (some (.int o.1)) o.2 :=
  Ct.of hl (by decide +kernel) (Nat.le_of_ble_eq_true rfl) rfl (fun X hX hin => z_X8_common hX M v0 v1 v2 o ho)
theorem okV_X8_common : okV yX8_common cX8_common 3 (some .int) 2 := ⟨q_877, q_878, q_86, q_879, by unfold okY; decide +kernel⟩
/-! ParticipatoryBudget.loss(I)J -/
abbrev rm_X8_loss : Room := { frames := 7, cells := 0, slots := 0, locals := 165 }
set_option maxRecDepth 20000 in
set_option maxHeartbeats 4000000 in
theorem z_X8_loss {X : Cxt} (hX : okX X cX8_loss RX8 rm_X8_loss (some .long) 2) (M : Mem) (v0 : Nat) (v1 : Int32) : Zj X (fun o : Int64 × Mem => Qr X rm_X8_loss.cells rm_X8_loss.slots (some (.long o.1)) o.2) 0 0 0 [(0, .ref v0), (1, .int v1)] [] M (f_X8_loss M v0 v1) := by
  unfold f_X8_loss
  refine z_iload_n hX 1 rfl rfl dX8_loss_0 ?_
  refine z_cSIp [.int v1] hX (fun l hl o ho => c_X8_isRule l hl M v1 o ho) dX8_loss_1 q_794 okS_X8_isRule rfl ⟨(Nat.le_of_ble_eq_true rfl), (Nat.le_of_ble_eq_true rfl)⟩ rfl (Nat.le_of_ble_eq_true rfl) rfl rfl ⟨(Nat.le_of_ble_eq_true rfl), (Nat.le_of_ble_eq_true rfl)⟩ (fun o1 => ?_)
  refine z_if_ne hX 11 (by decide) dX8_loss_4 (fun _ => ?_) (fun _ => ?_)
  · refine z_aload_n hX 0 rfl rfl dX8_loss_11 ?_
    refine z_gFR 8 8 hX (by decide) rfl (by decide) rfl q_425 dX8_loss_12 (fun r2 => ?_)
    refine z_aload_n hX 0 rfl rfl dX8_loss_15 ?_
    refine z_cVIm 8 [] hX (fun l hl o ho => c_X8_bestNow l hl M v0 o ho) dX8_loss_16 (by decide) rfl rfl q_812 okV_X8_bestNow rfl ⟨(Nat.le_of_ble_eq_true rfl), (Nat.le_of_ble_eq_true rfl)⟩ rfl (Nat.le_of_ble_eq_true rfl) rfl rfl ⟨(Nat.le_of_ble_eq_true rfl), (Nat.le_of_ble_eq_true rfl)⟩ (fun o3 => ?_)
    refine z_cVIp 0 [.int o3.1] hX (fun l hl o ho => c_X0_valueTogether l hl o3.2 r2 o3.1 o ho) dX8_loss_19 (by decide) rfl rfl q_870 okV_X0_valueTogether rfl ⟨(Nat.le_of_ble_eq_true rfl), (Nat.le_of_ble_eq_true rfl)⟩ rfl (Nat.le_of_ble_eq_true rfl) rfl rfl ⟨(Nat.le_of_ble_eq_true rfl), (Nat.le_of_ble_eq_true rfl)⟩ (fun o4 => ?_)
    refine z_i2l hX rfl dX8_loss_22 ?_
    refine z_aload_n hX 0 rfl rfl dX8_loss_23 ?_
    refine z_gFR 8 8 hX (by decide) rfl (by decide) rfl q_425 dX8_loss_24 (fun r5 => ?_)
    refine z_aload_n hX 0 rfl rfl dX8_loss_27 ?_
    refine z_iload_n hX 1 rfl rfl dX8_loss_28 ?_
    refine z_cVIm 8 [.int v1] hX (fun l hl o ho => c_X8_chosenBy l hl o3.2 v0 v1 o ho) dX8_loss_29 (by decide) rfl rfl q_797 okV_X8_chosenBy rfl ⟨(Nat.le_of_ble_eq_true rfl), (Nat.le_of_ble_eq_true rfl)⟩ rfl (Nat.le_of_ble_eq_true rfl) rfl rfl ⟨(Nat.le_of_ble_eq_true rfl), (Nat.le_of_ble_eq_true rfl)⟩ (fun o6 => ?_)
    refine z_cVIp 0 [.int o6.1] hX (fun l hl o ho => c_X0_valueTogether l hl o6.2 r5 o6.1 o ho) dX8_loss_32 (by decide) rfl rfl q_870 okV_X0_valueTogether rfl ⟨(Nat.le_of_ble_eq_true rfl), (Nat.le_of_ble_eq_true rfl)⟩ rfl (Nat.le_of_ble_eq_true rfl) rfl rfl ⟨(Nat.le_of_ble_eq_true rfl), (Nat.le_of_ble_eq_true rfl)⟩ (fun o7 => ?_)
    refine z_i2l hX rfl dX8_loss_35 ?_
    refine z_lsub hX dX8_loss_36 ?_
    exact z_lretM hX dX8_loss_37 (Nat.le_of_ble_eq_true rfl) (Nat.le_of_ble_eq_true rfl)
  · refine z_ldc2 (v := (-2)) hX q_875 dX8_loss_7 ?_
    exact z_lretM hX dX8_loss_10 (Nat.le_of_ble_eq_true rfl) (Nat.le_of_ble_eq_true rfl)
theorem c_X8_loss (l : Launch) (hl : l.stackTraces = false) (M : Mem) (v0 : Nat) (v1 : Int32) (o : Int64 × Mem) (ho : f_X8_loss M v0 v1 = some o) : Ct l yX8_loss cX8_loss 2 (some .long) rm_X8_loss [.ref v0, .int v1] M (some (.long o.1)) o.2 :=
  Ct.of hl (by decide +kernel) (Nat.le_of_ble_eq_true rfl) rfl (fun X hX hin => z_X8_loss hX M v0 v1 o ho)
theorem okV_X8_loss : okV yX8_loss cX8_loss 2 (some .long) 1 := ⟨q_881, q_882, q_86, q_883, by unfold okY; decide +kernel⟩
/-! ParticipatoryBudget.satisfaction(II)I -/
abbrev rm_X8_satisfaction : Room := { frames := 7, cells := 1, slots := 6, locals := 165 }
set_option maxRecDepth 20000 in
set_option maxHeartbeats 4000000 in
theorem z_X8_satisfaction {X : Cxt} (hX : okX X cX8_satisfaction RX8 rm_X8_satisfaction (some .int) 3) (hT : noT X) (M : Mem) (v0 : Nat) (v1 : Int32) (v2 : Int32) : Zj X (fun o : Option Int32 × Mem => Qx X rm_X8_satisfaction.cells rm_X8_satisfaction.slots (o.1.map fun v => some (.int v)) o.2) 0 0 0 [(0, .ref v0), (1, .int v1), (2, .int v2)] [] M (f_X8_satisfaction M v0 v1 v2) := by
  unfold f_X8_satisfaction
  refine z_iload_n hX 2 rfl rfl dX8_satisfaction_0 ?_
  refine z_aload_n hX 0 rfl rfl dX8_satisfaction_1 ?_
  refine z_gFR 8 8 hX (by decide) rfl (by decide) rfl q_425 dX8_satisfaction_2 (fun r1 => ?_)
  refine z_gFI 0 2 hX (by decide) rfl (by decide) rfl q_334 dX8_satisfaction_5 (fun x2 => ?_)
  refine z_cSx [.int v2, .int x2] hX hT (fun l hl o ho => c_X8_checkIndex l hl M v2 x2 o ho) dX8_satisfaction_8 q_1002 okS_X8_checkIndex.1 okS_X8_checkIndex.2.1 okS_X8_checkIndex.2.2.1 okS_X8_checkIndex.2.2.2 rfl ⟨(Nat.le_of_ble_eq_true rfl), (Nat.le_of_ble_eq_true rfl)⟩ rfl (Nat.le_of_ble_eq_true rfl) rfl rfl ⟨(Nat.le_of_ble_eq_true rfl), (Nat.le_of_ble_eq_true rfl)⟩ (Nat.le_of_ble_eq_true rfl) (Nat.le_of_ble_eq_true rfl) (fun M4 => ?_)
  refine z_iload_n hX 1 rfl rfl dX8_satisfaction_11 ?_
  refine z_cSIp [.int v1] hX (fun l hl o ho => c_X8_isRule l hl M4 v1 o ho) dX8_satisfaction_12 q_794 okS_X8_isRule rfl ⟨(Nat.le_of_ble_eq_true rfl), (Nat.le_of_ble_eq_true rfl)⟩ rfl (Nat.le_of_ble_eq_true rfl) rfl rfl ⟨(Nat.le_of_ble_eq_true rfl), (Nat.le_of_ble_eq_true rfl)⟩ (fun o5 => ?_)
  refine z_jn (C' := 1) (S' := 6) 36 (fun (j6 : Int32 × Mem) => []) (fun (j6 : Int32 × Mem) => [.int j6.1]) (fun (j6 : Int32 × Mem) => j6.2) (fun j6 => ?_) (fun kj6 => ?_)
  · exact z_iretX hX dX8_satisfaction_36 (Nat.le_of_ble_eq_true rfl) (Nat.le_of_ble_eq_true rfl)
  · refine z_iteB ?_
    refine z_if_eq hX 34 (by decide) dX8_satisfaction_15 (fun _ => ?_) (fun _ => ?_)
    · refine z_bipush (v := (-2)) hX (by decide) dX8_satisfaction_34 ?_
      refine z_pure ?_
      refine z_sub [] rfl ?_
      exact kj6 ((-2), M4)
    · refine z_aload_n hX 0 rfl rfl dX8_satisfaction_18 ?_
      refine z_asc ?_
      refine z_gFR 8 8 hX (by decide) rfl (by decide) rfl q_425 dX8_satisfaction_19 (fun r7 => ?_)
      refine z_aload_n hX 0 rfl rfl dX8_satisfaction_22 ?_
      refine z_iload_n hX 1 rfl rfl dX8_satisfaction_23 ?_
      refine z_asc ?_
      refine z_asc2 ?_
      refine z_cVIm 8 [.int v1] hX (fun l hl o ho => c_X8_chosenBy l hl M4 v0 v1 o ho) dX8_satisfaction_24 (by decide) rfl rfl q_797 okV_X8_chosenBy rfl ⟨(Nat.le_of_ble_eq_true rfl), (Nat.le_of_ble_eq_true rfl)⟩ rfl (Nat.le_of_ble_eq_true rfl) rfl rfl ⟨(Nat.le_of_ble_eq_true rfl), (Nat.le_of_ble_eq_true rfl)⟩ (fun o8 => ?_)
      refine z_iload_n hX 2 rfl rfl dX8_satisfaction_27 ?_
      refine z_asc ?_
      refine z_asc2 ?_
      refine z_cVIp 0 [.int o8.1, .int v2] hX (fun l hl o ho => c_X0_joy l hl o8.2 r7 o8.1 v2 o ho) dX8_satisfaction_28 (by decide) rfl rfl q_888 okV_X0_joy rfl ⟨(Nat.le_of_ble_eq_true rfl), (Nat.le_of_ble_eq_true rfl)⟩ rfl (Nat.le_of_ble_eq_true rfl) rfl rfl ⟨(Nat.le_of_ble_eq_true rfl), (Nat.le_of_ble_eq_true rfl)⟩ (fun o9 => ?_)
      refine z_goto hX 36 (by decide) dX8_satisfaction_31 ?_
      refine z_pure ?_
      refine z_sub [] rfl ?_
      exact kj6 (o9, o8.2)
theorem c_X8_satisfaction (l : Launch) (hl : l.stackTraces = false) (M : Mem) (v0 : Nat) (v1 : Int32) (v2 : Int32) (o : Option Int32 × Mem) (ho : f_X8_satisfaction M v0 v1 v2 = some o) : Cx l yX8_satisfaction cX8_satisfaction 3 (some .int) rm_X8_satisfaction [.ref v0, .int v1, .int v2] M (o.1.map fun v => some (.int v)) o.2 :=
  Cx.of hl (by decide +kernel) (Nat.le_of_ble_eq_true rfl) rfl (fun X hX hT => z_X8_satisfaction hX hT M v0 v1 v2 o ho)
theorem okV_X8_satisfaction : okV yX8_satisfaction cX8_satisfaction 3 (some .int) 2 := ⟨q_1180, q_1181, q_86, q_1182, by unfold okY; decide +kernel⟩
/-! ParticipatoryBudget.worstOff(I)I -/
abbrev rm_X8_worstOff : Room := { frames := 7, cells := 0, slots := 0, locals := 165 }
set_option maxRecDepth 20000 in
set_option maxHeartbeats 4000000 in
theorem z_X8_worstOff {X : Cxt} (hX : okX X cX8_worstOff RX8 rm_X8_worstOff (some .int) 7) (M : Mem) (v0 : Nat) (v1 : Int32) : Zj X (fun o : Int32 × Mem => Qr X rm_X8_worstOff.cells rm_X8_worstOff.slots (some (.int o.1)) o.2) 0 0 0 [(0, .ref v0), (1, .int v1)] [] M (f_X8_worstOff M v0 v1) := by
  unfold f_X8_worstOff
  refine z_iload_n hX 1 rfl rfl dX8_worstOff_0 ?_
  refine z_cSIp [.int v1] hX (fun l hl o ho => c_X8_isRule l hl M v1 o ho) dX8_worstOff_1 q_794 okS_X8_isRule rfl ⟨(Nat.le_of_ble_eq_true rfl), (Nat.le_of_ble_eq_true rfl)⟩ rfl (Nat.le_of_ble_eq_true rfl) rfl rfl ⟨(Nat.le_of_ble_eq_true rfl), (Nat.le_of_ble_eq_true rfl)⟩ (fun o1 => ?_)
  refine z_if_ne hX 10 (by decide) dX8_worstOff_4 (fun _ => ?_) (fun _ => ?_)
  · refine z_aload_n hX 0 rfl rfl dX8_worstOff_10 ?_
    refine z_iload_n hX 1 rfl rfl dX8_worstOff_11 ?_
    refine z_cVIm 8 [.int v1] hX (fun l hl o ho => c_X8_chosenBy l hl M v0 v1 o ho) dX8_worstOff_12 (by decide) rfl rfl q_797 okV_X8_chosenBy rfl ⟨(Nat.le_of_ble_eq_true rfl), (Nat.le_of_ble_eq_true rfl)⟩ rfl (Nat.le_of_ble_eq_true rfl) rfl rfl ⟨(Nat.le_of_ble_eq_true rfl), (Nat.le_of_ble_eq_true rfl)⟩ (fun o2 => ?_)
    refine z_istore_n hX [(2, .int o2.1), (0, .ref v0), (1, .int v1)] rfl (by decide) rfl dX8_worstOff_15 ?_
    refine z_iconst (v := (-1)) hX (by decide) dX8_worstOff_16 ?_
    refine z_ltI (fun x3 => ?_)
    refine z_istore_n hX [(3, .int x3), (2, .int o2.1), (0, .ref v0), (1, .int v1)] rfl (by decide) rfl dX8_worstOff_17 ?_
    refine z_iconst (v := 0) hX (by decide) dX8_worstOff_18 ?_
    refine z_istore hX [(4, .int 0), (3, .int x3), (2, .int o2.1), (0, .ref v0), (1, .int v1)] (by decide) rfl dX8_worstOff_19 ?_
    refine z_iconst (v := 0) hX (by decide) dX8_worstOff_21 ?_
    refine z_istore hX [(5, .int 0), (4, .int 0), (3, .int x3), (2, .int o2.1), (0, .ref v0), (1, .int v1)] (by decide) rfl dX8_worstOff_22 ?_
    refine z_sub [4, 3, 2, 1, 0] rfl ?_
    refine z_lp (x0 := (x3, 0, 0)) (bd_X8_worstOff_24 v0 o2) 24 72 (fun (u4 : Int32 × Int32 × Int32) => [(0, .ref v0), (2, .int o2.1), (3, .int u4.1), (4, .int u4.2.1), (5, .int u4.2.2)]) (fun (e5 : Int32 × Int32 × Int32) => [(3, .int e5.1)]) (fun (u4 : Int32 × Int32 × Int32) => o2.2) ?_ ?_
    · intro e5
      refine z_iload_n hX 0 rfl rfl dX8_worstOff_72 ?_
      exact z_iretM hX dX8_worstOff_73 (Nat.le_of_ble_eq_true rfl) (Nat.le_of_ble_eq_true rfl)
    · intro kk6 rc7 hkk6 hrc7 u4
      unfold bd_X8_worstOff_24
      refine z_iload hX 4 rfl dX8_worstOff_24 ?_
      refine z_aload_n hX 0 rfl rfl dX8_worstOff_26 ?_
      refine z_gFR 8 8 hX (by decide) rfl (by decide) rfl q_425 dX8_worstOff_27 (fun r8 => ?_)
      refine z_gFI 0 2 hX (by decide) rfl (by decide) rfl q_334 dX8_worstOff_30 (fun x9 => ?_)
      refine z_icmp_ge hX 72 (by decide) dX8_worstOff_33 (fun _ => ?_) (fun _ => ?_)
      · refine z_sub [2] rfl ?_
        exact hkk6 (u4.1, u4.2.1, u4.2.2)
      · refine z_aload_n hX 0 rfl rfl dX8_worstOff_36 ?_
        refine z_gFR 8 8 hX (by decide) rfl (by decide) rfl q_425 dX8_worstOff_37 (fun r10 => ?_)
        refine z_iload_n hX 1 rfl rfl dX8_worstOff_40 ?_
        refine z_iload hX 4 rfl dX8_worstOff_41 ?_
        refine z_cVIp 0 [.int o2.1, .int u4.2.2] hX (fun l hl o ho => c_X0_joy l hl o2.2 r10 o2.1 u4.2.2 o ho) dX8_worstOff_43 (by decide) rfl rfl q_888 okV_X0_joy rfl ⟨(Nat.le_of_ble_eq_true rfl), (Nat.le_of_ble_eq_true rfl)⟩ rfl (Nat.le_of_ble_eq_true rfl) rfl rfl ⟨(Nat.le_of_ble_eq_true rfl), (Nat.le_of_ble_eq_true rfl)⟩ (fun o11 => ?_)
        refine z_istore hX [(6, .int o11), (0, .ref v0), (2, .int o2.1), (3, .int u4.1), (4, .int u4.2.1), (5, .int u4.2.2)] (by decide) rfl dX8_worstOff_46 ?_
        refine z_iload_n hX 3 rfl rfl dX8_worstOff_48 ?_
        refine z_jn (C' := 0) (S' := 0) 66 (fun (j12 : Int32 × Int32) => [(0, .ref v0), (2, .int o2.1), (3, .int j12.1), (4, .int j12.2), (5, .int u4.2.2)]) (fun (j12 : Int32 × Int32) => []) (fun (j12 : Int32 × Int32) => o2.2) (fun j12 => ?_) (fun kj12 => ?_)
        · refine z_iinc hX 4 [(5, .int (u4.2.2 + 1)), (0, .ref v0), (2, .int o2.1), (3, .int j12.1), (4, .int j12.2)] rfl rfl (by decide) rfl dX8_worstOff_66 ?_
          refine z_goto hX 24 (by decide) dX8_worstOff_69 ?_
          refine z_sub [1, 2, 3, 4, 0] rfl ?_
          exact hrc7 (j12.1, j12.2, u4.2.2 + 1)
        · refine z_iteB ?_
          refine z_if_lt hX 59 (by decide) dX8_worstOff_49 (fun _ => ?_) (fun _ => ?_)
          · refine z_iload hX 5 rfl dX8_worstOff_59 ?_
            refine z_istore_n hX [(3, .int u4.2.2), (6, .int o11), (0, .ref v0), (2, .int o2.1), (4, .int u4.2.1), (5, .int u4.2.2)] rfl (by decide) rfl dX8_worstOff_61 ?_
            refine z_iload hX 1 rfl dX8_worstOff_62 ?_
            refine z_istore hX [(4, .int o11), (3, .int u4.2.2), (6, .int o11), (0, .ref v0), (2, .int o2.1), (5, .int u4.2.2)] (by decide) rfl dX8_worstOff_64 ?_
            refine z_pure ?_
            refine z_sub [3, 4, 1, 0, 5] rfl ?_
            exact kj12 (u4.2.2, o11)
          · refine z_iload hX 0 rfl dX8_worstOff_52 ?_
            refine z_iload hX 4 rfl dX8_worstOff_54 ?_
            refine z_iteB ?_
            refine z_icmp_ge hX 66 (by decide) dX8_worstOff_56 (fun _ => ?_) (fun _ => ?_)
            · refine z_pure ?_
              refine z_sub [1, 2, 3, 4, 5] rfl ?_
              exact kj12 (u4.1, u4.2.1)
            · refine z_iload hX 5 rfl dX8_worstOff_59 ?_
              refine z_istore_n hX [(3, .int u4.2.2), (6, .int o11), (0, .ref v0), (2, .int o2.1), (4, .int u4.2.1), (5, .int u4.2.2)] rfl (by decide) rfl dX8_worstOff_61 ?_
              refine z_iload hX 1 rfl dX8_worstOff_62 ?_
              refine z_istore hX [(4, .int o11), (3, .int u4.2.2), (6, .int o11), (0, .ref v0), (2, .int o2.1), (5, .int u4.2.2)] (by decide) rfl dX8_worstOff_64 ?_
              refine z_pure ?_
              refine z_sub [3, 4, 1, 0, 5] rfl ?_
              exact kj12 (u4.2.2, o11)
  · refine z_bipush (v := (-2)) hX (by decide) dX8_worstOff_7 ?_
    exact z_iretM hX dX8_worstOff_9 (Nat.le_of_ble_eq_true rfl) (Nat.le_of_ble_eq_true rfl)
theorem c_X8_worstOff (l : Launch) (hl : l.stackTraces = false) (M : Mem) (v0 : Nat) (v1 : Int32) (o : Int32 × Mem) (ho : f_X8_worstOff M v0 v1 = some o) : Ct l yX8_worstOff cX8_worstOff 7 (some .int) rm_X8_worstOff [.ref v0, .int v1] M (some (.int o.1)) o.2 :=
  Ct.of hl (by decide +kernel) (Nat.le_of_ble_eq_true rfl) rfl (fun X hX hin => z_X8_worstOff hX M v0 v1 o ho)
theorem okV_X8_worstOff : okV yX8_worstOff cX8_worstOff 7 (some .int) 1 := ⟨q_885, q_886, q_86, q_887, by unfold okY; decide +kernel⟩
/-! ParticipatoryBudget.spread(I)I -/
abbrev rm_X8_spread : Room := { frames := 7, cells := 0, slots := 0, locals := 165 }
set_option maxRecDepth 20000 in
set_option maxHeartbeats 4000000 in
theorem z_X8_spread {X : Cxt} (hX : okX X cX8_spread RX8 rm_X8_spread (some .int) 7) (M : Mem) (v0 : Nat) (v1 : Int32) : Zj X (fun o : Int32 × Mem => Qr X rm_X8_spread.cells rm_X8_spread.slots (some (.int o.1)) o.2) 0 0 0 [(0, .ref v0), (1, .int v1)] [] M (f_X8_spread M v0 v1) := by
  unfold f_X8_spread
  refine z_iload_n hX 1 rfl rfl dX8_spread_0 ?_
  refine z_cSIp [.int v1] hX (fun l hl o ho => c_X8_isRule l hl M v1 o ho) dX8_spread_1 q_794 okS_X8_isRule rfl ⟨(Nat.le_of_ble_eq_true rfl), (Nat.le_of_ble_eq_true rfl)⟩ rfl (Nat.le_of_ble_eq_true rfl) rfl rfl ⟨(Nat.le_of_ble_eq_true rfl), (Nat.le_of_ble_eq_true rfl)⟩ (fun o1 => ?_)
  refine z_if_ne hX 10 (by decide) dX8_spread_4 (fun _ => ?_) (fun _ => ?_)
  · refine z_aload_n hX 0 rfl rfl dX8_spread_10 ?_
    refine z_iload_n hX 1 rfl rfl dX8_spread_11 ?_
    refine z_cVIm 8 [.int v1] hX (fun l hl o ho => c_X8_chosenBy l hl M v0 v1 o ho) dX8_spread_12 (by decide) rfl rfl q_797 okV_X8_chosenBy rfl ⟨(Nat.le_of_ble_eq_true rfl), (Nat.le_of_ble_eq_true rfl)⟩ rfl (Nat.le_of_ble_eq_true rfl) rfl rfl ⟨(Nat.le_of_ble_eq_true rfl), (Nat.le_of_ble_eq_true rfl)⟩ (fun o2 => ?_)
    refine z_istore_n hX [(2, .int o2.1), (0, .ref v0), (1, .int v1)] rfl (by decide) rfl dX8_spread_15 ?_
    refine z_iconst (v := 0) hX (by decide) dX8_spread_16 ?_
    refine z_istore_n hX [(3, .int 0), (2, .int o2.1), (0, .ref v0), (1, .int v1)] rfl (by decide) rfl dX8_spread_17 ?_
    refine z_iconst (v := 0) hX (by decide) dX8_spread_18 ?_
    refine z_istore hX [(4, .int 0), (3, .int 0), (2, .int o2.1), (0, .ref v0), (1, .int v1)] (by decide) rfl dX8_spread_19 ?_
    refine z_iconst (v := 0) hX (by decide) dX8_spread_21 ?_
    refine z_istore hX [(5, .int 0), (4, .int 0), (3, .int 0), (2, .int o2.1), (0, .ref v0), (1, .int v1)] (by decide) rfl dX8_spread_22 ?_
    refine z_sub [4, 3, 2, 1, 0] rfl ?_
    refine z_lp (x0 := (0, 0, 0)) (bd_X8_spread_24 v0 o2) 24 80 (fun (u3 : Int32 × Int32 × Int32) => [(0, .ref v0), (2, .int o2.1), (3, .int u3.1), (4, .int u3.2.1), (5, .int u3.2.2)]) (fun (e4 : Int32 × Int32 × Int32) => [(3, .int e4.1), (4, .int e4.2.1)]) (fun (u3 : Int32 × Int32 × Int32) => o2.2) ?_ ?_
    · intro e4
      refine z_iload hX 1 rfl dX8_spread_80 ?_
      refine z_iload_n hX 0 rfl rfl dX8_spread_82 ?_
      refine z_isub hX dX8_spread_83 ?_
      exact z_iretM hX dX8_spread_84 (Nat.le_of_ble_eq_true rfl) (Nat.le_of_ble_eq_true rfl)
    · intro kk5 rc6 hkk5 hrc6 u3
      unfold bd_X8_spread_24
      refine z_iload hX 4 rfl dX8_spread_24 ?_
      refine z_aload_n hX 0 rfl rfl dX8_spread_26 ?_
      refine z_gFR 8 8 hX (by decide) rfl (by decide) rfl q_425 dX8_spread_27 (fun r7 => ?_)
      refine z_gFI 0 2 hX (by decide) rfl (by decide) rfl q_334 dX8_spread_30 (fun x8 => ?_)
      refine z_icmp_ge hX 80 (by decide) dX8_spread_33 (fun _ => ?_) (fun _ => ?_)
      · refine z_sub [2, 3] rfl ?_
        exact hkk5 (u3.1, u3.2.1, u3.2.2)
      · refine z_aload_n hX 0 rfl rfl dX8_spread_36 ?_
        refine z_gFR 8 8 hX (by decide) rfl (by decide) rfl q_425 dX8_spread_37 (fun r9 => ?_)
        refine z_iload_n hX 1 rfl rfl dX8_spread_40 ?_
        refine z_iload hX 4 rfl dX8_spread_41 ?_
        refine z_cVIp 0 [.int o2.1, .int u3.2.2] hX (fun l hl o ho => c_X0_joy l hl o2.2 r9 o2.1 u3.2.2 o ho) dX8_spread_43 (by decide) rfl rfl q_888 okV_X0_joy rfl ⟨(Nat.le_of_ble_eq_true rfl), (Nat.le_of_ble_eq_true rfl)⟩ rfl (Nat.le_of_ble_eq_true rfl) rfl rfl ⟨(Nat.le_of_ble_eq_true rfl), (Nat.le_of_ble_eq_true rfl)⟩ (fun o10 => ?_)
        refine z_istore hX [(6, .int o10), (0, .ref v0), (2, .int o2.1), (3, .int u3.1), (4, .int u3.2.1), (5, .int u3.2.2)] (by decide) rfl dX8_spread_46 ?_
        refine z_iload hX 5 rfl dX8_spread_48 ?_
        refine z_jn (C' := 0) (S' := 0) 64 (fun (j11 : Int32) => [(0, .ref v0), (2, .int o2.1), (4, .int u3.2.1), (5, .int u3.2.2), (6, .int o10)]) (fun (j11 : Int32) => [.int j11]) (fun (j11 : Int32) => o2.2) (fun j11 => ?_) (fun kj11 => ?_)
        · refine z_istore_n hX [(3, .int j11), (0, .ref v0), (2, .int o2.1), (4, .int u3.2.1), (5, .int u3.2.2), (6, .int o10)] rfl (by decide) rfl dX8_spread_64 ?_
          refine z_iload hX 3 rfl dX8_spread_65 ?_
          refine z_iload hX 5 rfl dX8_spread_67 ?_
          refine z_max hX dX8_spread_69 q_897 q_898 q_97 q_899 (Nat.le_of_ble_eq_true rfl) (Nat.le_of_ble_eq_true rfl) ⟨(Nat.le_of_ble_eq_true rfl), (Nat.le_of_ble_eq_true rfl)⟩ ?_
          refine z_ltI (fun x12 => ?_)
          refine z_istore hX [(4, .int x12), (3, .int j11), (0, .ref v0), (2, .int o2.1), (5, .int u3.2.2), (6, .int o10)] (by decide) rfl dX8_spread_72 ?_
          refine z_iinc hX 4 [(5, .int (u3.2.2 + 1)), (4, .int x12), (3, .int j11), (0, .ref v0), (2, .int o2.1), (6, .int o10)] rfl rfl (by decide) rfl dX8_spread_74 ?_
          refine z_goto hX 24 (by decide) dX8_spread_77 ?_
          refine z_sub [3, 4, 2, 1, 0] rfl ?_
          exact hrc6 (j11, x12, u3.2.2 + 1)
        · refine z_iteB ?_
          refine z_if_ne hX 58 (by decide) dX8_spread_50 (fun _ => ?_) (fun _ => ?_)
          · refine z_iload_n hX 3 rfl rfl dX8_spread_58 ?_
            refine z_iload hX 0 rfl dX8_spread_59 ?_
            refine z_min hX dX8_spread_61 q_896 q_480 q_97 q_481 (Nat.le_of_ble_eq_true rfl) (Nat.le_of_ble_eq_true rfl) ⟨(Nat.le_of_ble_eq_true rfl), (Nat.le_of_ble_eq_true rfl)⟩ ?_
            refine z_pure ?_
            refine z_sub [1, 2, 4, 5, 0] rfl ?_
            exact kj11 (if o10 < u3.1 then o10 else u3.1)
          · refine z_iload hX 0 rfl dX8_spread_53 ?_
            refine z_goto hX 64 (by decide) dX8_spread_55 ?_
            refine z_pure ?_
            refine z_sub [1, 2, 4, 5, 0] rfl ?_
            exact kj11 o10
  · refine z_bipush (v := (-2)) hX (by decide) dX8_spread_7 ?_
    exact z_iretM hX dX8_spread_9 (Nat.le_of_ble_eq_true rfl) (Nat.le_of_ble_eq_true rfl)
theorem c_X8_spread (l : Launch) (hl : l.stackTraces = false) (M : Mem) (v0 : Nat) (v1 : Int32) (o : Int32 × Mem) (ho : f_X8_spread M v0 v1 = some o) : Ct l yX8_spread cX8_spread 7 (some .int) rm_X8_spread [.ref v0, .int v1] M (some (.int o.1)) o.2 :=
  Ct.of hl (by decide +kernel) (Nat.le_of_ble_eq_true rfl) rfl (fun X hX hin => z_X8_spread hX M v0 v1 o ho)
theorem okV_X8_spread : okV yX8_spread cX8_spread 7 (some .int) 1 := ⟨q_893, q_894, q_86, q_895, by unfold okY; decide +kernel⟩
/-! ParticipatoryBudget.rankOf(II)I -/
abbrev rm_X8_rankOf : Room := { frames := 7, cells := 1, slots := 6, locals := 165 }
set_option maxRecDepth 20000 in
set_option maxHeartbeats 4000000 in
theorem z_X8_rankOf {X : Cxt} (hX : okX X cX8_rankOf RX8 rm_X8_rankOf (some .int) 8) (hT : noT X) (M : Mem) (v0 : Nat) (v1 : Int32) (v2 : Int32) : Zj X (fun o : Option Int32 × Mem => Qx X rm_X8_rankOf.cells rm_X8_rankOf.slots (o.1.map fun v => some (.int v)) o.2) 0 0 0 [(0, .ref v0), (1, .int v1), (2, .int v2)] [] M (f_X8_rankOf M v0 v1 v2) := by
  unfold f_X8_rankOf
  refine z_iload_n hX 2 rfl rfl dX8_rankOf_0 ?_
  refine z_aload_n hX 0 rfl rfl dX8_rankOf_1 ?_
  refine z_gFR 8 8 hX (by decide) rfl (by decide) rfl q_425 dX8_rankOf_2 (fun r1 => ?_)
  refine z_gFI 0 2 hX (by decide) rfl (by decide) rfl q_334 dX8_rankOf_5 (fun x2 => ?_)
  refine z_cSx [.int v2, .int x2] hX hT (fun l hl o ho => c_X8_checkIndex l hl M v2 x2 o ho) dX8_rankOf_8 q_1002 okS_X8_checkIndex.1 okS_X8_checkIndex.2.1 okS_X8_checkIndex.2.2.1 okS_X8_checkIndex.2.2.2 rfl ⟨(Nat.le_of_ble_eq_true rfl), (Nat.le_of_ble_eq_true rfl)⟩ rfl (Nat.le_of_ble_eq_true rfl) rfl rfl ⟨(Nat.le_of_ble_eq_true rfl), (Nat.le_of_ble_eq_true rfl)⟩ (Nat.le_of_ble_eq_true rfl) (Nat.le_of_ble_eq_true rfl) (fun M4 => ?_)
  refine z_iload_n hX 1 rfl rfl dX8_rankOf_11 ?_
  refine z_cSIp [.int v1] hX (fun l hl o ho => c_X8_isRule l hl M4 v1 o ho) dX8_rankOf_12 q_794 okS_X8_isRule rfl ⟨(Nat.le_of_ble_eq_true rfl), (Nat.le_of_ble_eq_true rfl)⟩ rfl (Nat.le_of_ble_eq_true rfl) rfl rfl ⟨(Nat.le_of_ble_eq_true rfl), (Nat.le_of_ble_eq_true rfl)⟩ (fun o5 => ?_)
  refine z_if_ne hX 21 (by decide) dX8_rankOf_15 (fun _ => ?_) (fun _ => ?_)
  · refine z_aload_n hX 0 rfl rfl dX8_rankOf_21 ?_
    refine z_iload_n hX 1 rfl rfl dX8_rankOf_22 ?_
    refine z_cVIm 8 [.int v1] hX (fun l hl o ho => c_X8_chosenBy l hl M4 v0 v1 o ho) dX8_rankOf_23 (by decide) rfl rfl q_797 okV_X8_chosenBy rfl ⟨(Nat.le_of_ble_eq_true rfl), (Nat.le_of_ble_eq_true rfl)⟩ rfl (Nat.le_of_ble_eq_true rfl) rfl rfl ⟨(Nat.le_of_ble_eq_true rfl), (Nat.le_of_ble_eq_true rfl)⟩ (fun o6 => ?_)
    refine z_istore_n hX [(3, .int o6.1), (0, .ref v0), (1, .int v1), (2, .int v2)] rfl (by decide) rfl dX8_rankOf_26 ?_
    refine z_aload_n hX 1 rfl rfl dX8_rankOf_27 ?_
    refine z_gFR 8 8 hX (by decide) rfl (by decide) rfl q_425 dX8_rankOf_28 (fun r7 => ?_)
    refine z_iload_n hX 0 rfl rfl dX8_rankOf_31 ?_
    refine z_iload_n hX 3 rfl rfl dX8_rankOf_32 ?_
    refine z_cVIp 0 [.int o6.1, .int v2] hX (fun l hl o ho => c_X0_joy l hl o6.2 r7 o6.1 v2 o ho) dX8_rankOf_33 (by decide) rfl rfl q_888 okV_X0_joy rfl ⟨(Nat.le_of_ble_eq_true rfl), (Nat.le_of_ble_eq_true rfl)⟩ rfl (Nat.le_of_ble_eq_true rfl) rfl rfl ⟨(Nat.le_of_ble_eq_true rfl), (Nat.le_of_ble_eq_true rfl)⟩ (fun o8 => ?_)
    refine z_istore hX [(4, .int o8), (3, .int o6.1), (0, .ref v0), (1, .int v1), (2, .int v2)] (by decide) rfl dX8_rankOf_36 ?_
    refine z_iconst (v := 0) hX (by decide) dX8_rankOf_38 ?_
    refine z_istore hX [(5, .int 0), (4, .int o8), (3, .int o6.1), (0, .ref v0), (1, .int v1), (2, .int v2)] (by decide) rfl dX8_rankOf_39 ?_
    refine z_iconst (v := 0) hX (by decide) dX8_rankOf_41 ?_
    refine z_istore hX [(6, .int 0), (5, .int 0), (4, .int o8), (3, .int o6.1), (0, .ref v0), (1, .int v1), (2, .int v2)] (by decide) rfl dX8_rankOf_42 ?_
    refine z_sub [4, 6, 3, 2, 1, 0] rfl ?_
    refine z_lp (x0 := (0, 0)) (bd_X8_rankOf_44 v0 v2 o6 o8) 44 97 (fun (u9 : Int32 × Int32) => [(0, .ref v0), (2, .int v2), (3, .int o6.1), (4, .int o8), (5, .int u9.1), (6, .int u9.2)]) (fun (e10 : Int32 × Int32) => [(5, .int e10.1)]) (fun (u9 : Int32 × Int32) => o6.2) ?_ ?_
    · intro e10
      refine z_iload hX 0 rfl dX8_rankOf_97 ?_
      exact z_iretX hX dX8_rankOf_99 (Nat.le_of_ble_eq_true rfl) (Nat.le_of_ble_eq_true rfl)
    · intro kk11 rc12 hkk11 hrc12 u9
      unfold bd_X8_rankOf_44
      refine z_iload hX 5 rfl dX8_rankOf_44 ?_
      refine z_aload_n hX 0 rfl rfl dX8_rankOf_46 ?_
      refine z_gFR 8 8 hX (by decide) rfl (by decide) rfl q_425 dX8_rankOf_47 (fun r13 => ?_)
      refine z_gFI 0 2 hX (by decide) rfl (by decide) rfl q_334 dX8_rankOf_50 (fun x14 => ?_)
      refine z_icmp_ge hX 97 (by decide) dX8_rankOf_53 (fun _ => ?_) (fun _ => ?_)
      · refine z_sub [4] rfl ?_
        exact hkk11 (u9.1, u9.2)
      · refine z_aload_n hX 0 rfl rfl dX8_rankOf_56 ?_
        refine z_gFR 8 8 hX (by decide) rfl (by decide) rfl q_425 dX8_rankOf_57 (fun r15 => ?_)
        refine z_iload_n hX 2 rfl rfl dX8_rankOf_60 ?_
        refine z_iload hX 5 rfl dX8_rankOf_61 ?_
        refine z_cVIp 0 [.int o6.1, .int u9.2] hX (fun l hl o ho => c_X0_joy l hl o6.2 r15 o6.1 u9.2 o ho) dX8_rankOf_63 (by decide) rfl rfl q_888 okV_X0_joy rfl ⟨(Nat.le_of_ble_eq_true rfl), (Nat.le_of_ble_eq_true rfl)⟩ rfl (Nat.le_of_ble_eq_true rfl) rfl rfl ⟨(Nat.le_of_ble_eq_true rfl), (Nat.le_of_ble_eq_true rfl)⟩ (fun o16 => ?_)
        refine z_istore hX [(7, .int o16), (0, .ref v0), (2, .int v2), (3, .int o6.1), (4, .int o8), (5, .int u9.1), (6, .int u9.2)] (by decide) rfl dX8_rankOf_66 ?_
        refine z_iload hX 0 rfl dX8_rankOf_68 ?_
        refine z_iload hX 4 rfl dX8_rankOf_70 ?_
        refine z_jn (C' := 1) (S' := 6) 91 (fun (j17 : Int32) => [(0, .ref v0), (2, .int v2), (3, .int o6.1), (4, .int o8), (5, .int j17), (6, .int u9.2)]) (fun (j17 : Int32) => []) (fun (j17 : Int32) => o6.2) (fun j17 => ?_) (fun kj17 => ?_)
        · refine z_iinc hX 5 [(6, .int (u9.2 + 1)), (0, .ref v0), (2, .int v2), (3, .int o6.1), (4, .int o8), (5, .int j17)] rfl rfl (by decide) rfl dX8_rankOf_91 ?_
          refine z_goto hX 44 (by decide) dX8_rankOf_94 ?_
          refine z_sub [1, 2, 3, 4, 5, 0] rfl ?_
          exact hrc12 (j17, u9.2 + 1)
        · refine z_iteB ?_
          refine z_icmp_gt hX 88 (by decide) dX8_rankOf_72 (fun _ => ?_) (fun _ => ?_)
          · refine z_iinc hX 5 [(5, .int (u9.1 + 1)), (7, .int o16), (0, .ref v0), (2, .int v2), (3, .int o6.1), (4, .int o8), (6, .int u9.2)] rfl rfl (by decide) rfl dX8_rankOf_88 ?_
            refine z_pure ?_
            refine z_sub [2, 3, 4, 5, 0, 6] rfl ?_
            exact kj17 (u9.1 + 1)
          · refine z_iload hX 0 rfl dX8_rankOf_75 ?_
            refine z_iload hX 4 rfl dX8_rankOf_77 ?_
            refine z_iteB ?_
            refine z_icmp_ne hX 91 (by decide) dX8_rankOf_79 (fun _ => ?_) (fun _ => ?_)
            · refine z_pure ?_
              refine z_sub [1, 2, 3, 4, 5, 6] rfl ?_
              exact kj17 u9.1
            · refine z_iload hX 6 rfl dX8_rankOf_82 ?_
              refine z_iload_n hX 2 rfl rfl dX8_rankOf_84 ?_
              refine z_iteB ?_
              refine z_icmp_ge hX 91 (by decide) dX8_rankOf_85 (fun _ => ?_) (fun _ => ?_)
              · refine z_pure ?_
                refine z_sub [1, 2, 3, 4, 5, 6] rfl ?_
                exact kj17 u9.1
              · refine z_iinc hX 5 [(5, .int (u9.1 + 1)), (7, .int o16), (0, .ref v0), (2, .int v2), (3, .int o6.1), (4, .int o8), (6, .int u9.2)] rfl rfl (by decide) rfl dX8_rankOf_88 ?_
                refine z_pure ?_
                refine z_sub [2, 3, 4, 5, 0, 6] rfl ?_
                exact kj17 (u9.1 + 1)
  · refine z_bipush (v := (-2)) hX (by decide) dX8_rankOf_18 ?_
    exact z_iretX hX dX8_rankOf_20 (Nat.le_of_ble_eq_true rfl) (Nat.le_of_ble_eq_true rfl)
theorem c_X8_rankOf (l : Launch) (hl : l.stackTraces = false) (M : Mem) (v0 : Nat) (v1 : Int32) (v2 : Int32) (o : Option Int32 × Mem) (ho : f_X8_rankOf M v0 v1 v2 = some o) : Cx l yX8_rankOf cX8_rankOf 8 (some .int) rm_X8_rankOf [.ref v0, .int v1, .int v2] M (o.1.map fun v => some (.int v)) o.2 :=
  Cx.of hl (by decide +kernel) (Nat.le_of_ble_eq_true rfl) rfl (fun X hX hT => z_X8_rankOf hX hT M v0 v1 v2 o ho)
theorem okV_X8_rankOf : okV yX8_rankOf cX8_rankOf 8 (some .int) 2 := ⟨q_1299, q_1300, q_86, q_1301, by unfold okY; decide +kernel⟩
/-! ParticipatoryBudget.districtWelfare(II)I -/
abbrev rm_X8_districtWelfare : Room := { frames := 7, cells := 1, slots := 6, locals := 165 }
set_option maxRecDepth 20000 in
set_option maxHeartbeats 4000000 in
theorem z_X8_districtWelfare {X : Cxt} (hX : okX X cX8_districtWelfare RX8 rm_X8_districtWelfare (some .int) 6) (hT : noT X) (M : Mem) (v0 : Nat) (v1 : Int32) (v2 : Int32) : Zj X (fun o : Option Int32 × Mem => Qx X rm_X8_districtWelfare.cells rm_X8_districtWelfare.slots (o.1.map fun v => some (.int v)) o.2) 0 0 0 [(0, .ref v0), (1, .int v1), (2, .int v2)] [] M (f_X8_districtWelfare M v0 v1 v2) := by
  unfold f_X8_districtWelfare
  refine z_iload_n hX 2 rfl rfl dX8_districtWelfare_0 ?_
  refine z_aload_n hX 0 rfl rfl dX8_districtWelfare_1 ?_
  refine z_gFR 8 8 hX (by decide) rfl (by decide) rfl q_425 dX8_districtWelfare_2 (fun r1 => ?_)
  refine z_gFI 0 0 hX (by decide) rfl (by decide) rfl q_323 dX8_districtWelfare_5 (fun x2 => ?_)
  refine z_cSx [.int v2, .int x2] hX hT (fun l hl o ho => c_X8_checkIndex l hl M v2 x2 o ho) dX8_districtWelfare_8 q_1002 okS_X8_checkIndex.1 okS_X8_checkIndex.2.1 okS_X8_checkIndex.2.2.1 okS_X8_checkIndex.2.2.2 rfl ⟨(Nat.le_of_ble_eq_true rfl), (Nat.le_of_ble_eq_true rfl)⟩ rfl (Nat.le_of_ble_eq_true rfl) rfl rfl ⟨(Nat.le_of_ble_eq_true rfl), (Nat.le_of_ble_eq_true rfl)⟩ (Nat.le_of_ble_eq_true rfl) (Nat.le_of_ble_eq_true rfl) (fun M4 => ?_)
  refine z_iload_n hX 1 rfl rfl dX8_districtWelfare_11 ?_
  refine z_cSIp [.int v1] hX (fun l hl o ho => c_X8_isRule l hl M4 v1 o ho) dX8_districtWelfare_12 q_794 okS_X8_isRule rfl ⟨(Nat.le_of_ble_eq_true rfl), (Nat.le_of_ble_eq_true rfl)⟩ rfl (Nat.le_of_ble_eq_true rfl) rfl rfl ⟨(Nat.le_of_ble_eq_true rfl), (Nat.le_of_ble_eq_true rfl)⟩ (fun o5 => ?_)
  refine z_if_ne hX 21 (by decide) dX8_districtWelfare_15 (fun _ => ?_) (fun _ => ?_)
  · refine z_aload_n hX 0 rfl rfl dX8_districtWelfare_21 ?_
    refine z_iload_n hX 1 rfl rfl dX8_districtWelfare_22 ?_
    refine z_cVIm 8 [.int v1] hX (fun l hl o ho => c_X8_chosenBy l hl M4 v0 v1 o ho) dX8_districtWelfare_23 (by decide) rfl rfl q_797 okV_X8_chosenBy rfl ⟨(Nat.le_of_ble_eq_true rfl), (Nat.le_of_ble_eq_true rfl)⟩ rfl (Nat.le_of_ble_eq_true rfl) rfl rfl ⟨(Nat.le_of_ble_eq_true rfl), (Nat.le_of_ble_eq_true rfl)⟩ (fun o6 => ?_)
    refine z_istore_n hX [(3, .int o6.1), (0, .ref v0), (1, .int v1), (2, .int v2)] rfl (by decide) rfl dX8_districtWelfare_26 ?_
    refine z_iconst (v := 0) hX (by decide) dX8_districtWelfare_27 ?_
    refine z_istore hX [(4, .int 0), (3, .int o6.1), (0, .ref v0), (1, .int v1), (2, .int v2)] (by decide) rfl dX8_districtWelfare_28 ?_
    refine z_iconst (v := 0) hX (by decide) dX8_districtWelfare_30 ?_
    refine z_istore hX [(5, .int 0), (4, .int 0), (3, .int o6.1), (0, .ref v0), (1, .int v1), (2, .int v2)] (by decide) rfl dX8_districtWelfare_31 ?_
    refine z_sub [3, 5, 2, 1, 0] rfl ?_
    refine z_lp (x0 := (0, 0)) (bd_X8_districtWelfare_33 v0 v2 o6) 33 83 (fun (u7 : Int32 × Int32) => [(0, .ref v0), (2, .int v2), (3, .int o6.1), (4, .int u7.1), (5, .int u7.2)]) (fun (e8 : Int32 × Int32) => [(4, .int e8.1)]) (fun (u7 : Int32 × Int32) => o6.2) ?_ ?_
    · intro e8
      refine z_iload hX 0 rfl dX8_districtWelfare_83 ?_
      exact z_iretX hX dX8_districtWelfare_85 (Nat.le_of_ble_eq_true rfl) (Nat.le_of_ble_eq_true rfl)
    · intro kk9 rc10 hkk9 hrc10 u7
      unfold bd_X8_districtWelfare_33
      refine z_iload hX 4 rfl dX8_districtWelfare_33 ?_
      refine z_aload_n hX 0 rfl rfl dX8_districtWelfare_35 ?_
      refine z_gFR 8 8 hX (by decide) rfl (by decide) rfl q_425 dX8_districtWelfare_36 (fun r11 => ?_)
      refine z_gFI 0 2 hX (by decide) rfl (by decide) rfl q_334 dX8_districtWelfare_39 (fun x12 => ?_)
      refine z_icmp_ge hX 83 (by decide) dX8_districtWelfare_42 (fun _ => ?_) (fun _ => ?_)
      · refine z_sub [3] rfl ?_
        exact hkk9 (u7.1, u7.2)
      · refine z_aload_n hX 0 rfl rfl dX8_districtWelfare_45 ?_
        refine z_gFR 8 8 hX (by decide) rfl (by decide) rfl q_425 dX8_districtWelfare_46 (fun r13 => ?_)
        refine z_gFR 0 9 hX (by decide) rfl (by decide) rfl q_370 dX8_districtWelfare_49 (fun r14 => ?_)
        refine z_iload hX 4 rfl dX8_districtWelfare_52 ?_
        refine z_aI hX dX8_districtWelfare_54 (fun x15 => ?_)
        refine z_iload_n hX 1 rfl rfl dX8_districtWelfare_55 ?_
        refine z_cSIp [.int x15, .int v2] hX (fun l hl o ho => c_X8_has l hl o6.2 x15 v2 o ho) dX8_districtWelfare_56 q_857 okS_X8_has rfl ⟨(Nat.le_of_ble_eq_true rfl), (Nat.le_of_ble_eq_true rfl)⟩ rfl (Nat.le_of_ble_eq_true rfl) rfl rfl ⟨(Nat.le_of_ble_eq_true rfl), (Nat.le_of_ble_eq_true rfl)⟩ (fun o16 => ?_)
        refine z_jn (C' := 1) (S' := 6) 77 (fun (j17 : Int32) => [(0, .ref v0), (2, .int v2), (3, .int o6.1), (4, .int j17), (5, .int u7.2)]) (fun (j17 : Int32) => []) (fun (j17 : Int32) => o6.2) (fun j17 => ?_) (fun kj17 => ?_)
        · refine z_iinc hX 4 [(5, .int (u7.2 + 1)), (0, .ref v0), (2, .int v2), (3, .int o6.1), (4, .int j17)] rfl rfl (by decide) rfl dX8_districtWelfare_77 ?_
          refine z_goto hX 33 (by decide) dX8_districtWelfare_80 ?_
          refine z_sub [1, 2, 3, 4, 0] rfl ?_
          exact hrc10 (j17, u7.2 + 1)
        · refine z_iteB ?_
          refine z_if_eq hX 77 (by decide) dX8_districtWelfare_59 (fun _ => ?_) (fun _ => ?_)
          · refine z_pure ?_
            refine z_sub [0, 1, 2, 3, 4] rfl ?_
            exact kj17 u7.1
          · refine z_iload hX 3 rfl dX8_districtWelfare_62 ?_
            refine z_aload_n hX 0 rfl rfl dX8_districtWelfare_64 ?_
            refine z_asc ?_
            refine z_gFR 8 8 hX (by decide) rfl (by decide) rfl q_425 dX8_districtWelfare_65 (fun r18 => ?_)
            refine z_iload_n hX 2 rfl rfl dX8_districtWelfare_68 ?_
            refine z_iload hX 4 rfl dX8_districtWelfare_69 ?_
            refine z_asc ?_
            refine z_asc2 ?_
            refine z_cVIp 0 [.int o6.1, .int u7.2] hX (fun l hl o ho => c_X0_joy l hl o6.2 r18 o6.1 u7.2 o ho) dX8_districtWelfare_71 (by decide) rfl rfl q_888 okV_X0_joy rfl ⟨(Nat.le_of_ble_eq_true rfl), (Nat.le_of_ble_eq_true rfl)⟩ rfl (Nat.le_of_ble_eq_true rfl) rfl rfl ⟨(Nat.le_of_ble_eq_true rfl), (Nat.le_of_ble_eq_true rfl)⟩ (fun o19 => ?_)
            refine z_iadd hX dX8_districtWelfare_74 ?_
            refine z_ltB ?_
            refine z_ltI (fun x20 => ?_)
            refine z_istore hX [(4, .int x20), (0, .ref v0), (2, .int v2), (3, .int o6.1), (5, .int u7.2)] (by decide) rfl dX8_districtWelfare_75 ?_
            refine z_pure ?_
            refine z_sub [1, 2, 3, 0, 4] rfl ?_
            exact kj17 x20
  · refine z_bipush (v := (-2)) hX (by decide) dX8_districtWelfare_18 ?_
    exact z_iretX hX dX8_districtWelfare_20 (Nat.le_of_ble_eq_true rfl) (Nat.le_of_ble_eq_true rfl)
theorem c_X8_districtWelfare (l : Launch) (hl : l.stackTraces = false) (M : Mem) (v0 : Nat) (v1 : Int32) (v2 : Int32) (o : Option Int32 × Mem) (ho : f_X8_districtWelfare M v0 v1 v2 = some o) : Cx l yX8_districtWelfare cX8_districtWelfare 6 (some .int) rm_X8_districtWelfare [.ref v0, .int v1, .int v2] M (o.1.map fun v => some (.int v)) o.2 :=
  Cx.of hl (by decide +kernel) (Nat.le_of_ble_eq_true rfl) rfl (fun X hX hT => z_X8_districtWelfare hX hT M v0 v1 v2 o ho)
theorem okV_X8_districtWelfare : okV yX8_districtWelfare cX8_districtWelfare 6 (some .int) 2 := ⟨q_1292, q_1293, q_86, q_1294, by unfold okY; decide +kernel⟩
/-! ParticipatoryBudget.leftOut(I)I -/
abbrev rm_X8_leftOut : Room := { frames := 7, cells := 0, slots := 0, locals := 165 }
set_option maxRecDepth 20000 in
set_option maxHeartbeats 4000000 in
theorem z_X8_leftOut {X : Cxt} (hX : okX X cX8_leftOut RX8 rm_X8_leftOut (some .int) 2) (M : Mem) (v0 : Nat) (v1 : Int32) : Zj X (fun o : Int32 × Mem => Qr X rm_X8_leftOut.cells rm_X8_leftOut.slots (some (.int o.1)) o.2) 0 0 0 [(0, .ref v0), (1, .int v1)] [] M (f_X8_leftOut M v0 v1) := by
  unfold f_X8_leftOut
  refine z_iload_n hX 1 rfl rfl dX8_leftOut_0 ?_
  refine z_cSIp [.int v1] hX (fun l hl o ho => c_X8_isRule l hl M v1 o ho) dX8_leftOut_1 q_794 okS_X8_isRule rfl ⟨(Nat.le_of_ble_eq_true rfl), (Nat.le_of_ble_eq_true rfl)⟩ rfl (Nat.le_of_ble_eq_true rfl) rfl rfl ⟨(Nat.le_of_ble_eq_true rfl), (Nat.le_of_ble_eq_true rfl)⟩ (fun o1 => ?_)
  refine z_jn (C' := 0) (S' := 0) 24 (fun (j2 : Int32 × Mem) => []) (fun (j2 : Int32 × Mem) => [.int j2.1]) (fun (j2 : Int32 × Mem) => j2.2) (fun j2 => ?_) (fun kj2 => ?_)
  · exact z_iretM hX dX8_leftOut_24 (Nat.le_of_ble_eq_true rfl) (Nat.le_of_ble_eq_true rfl)
  · refine z_iteB ?_
    refine z_if_eq hX 22 (by decide) dX8_leftOut_4 (fun _ => ?_) (fun _ => ?_)
    · refine z_bipush (v := (-2)) hX (by decide) dX8_leftOut_22 ?_
      refine z_pure ?_
      refine z_sub [] rfl ?_
      exact kj2 ((-2), M)
    · refine z_aload_n hX 0 rfl rfl dX8_leftOut_7 ?_
      refine z_asc ?_
      refine z_gFR 8 8 hX (by decide) rfl (by decide) rfl q_425 dX8_leftOut_8 (fun r3 => ?_)
      refine z_aload_n hX 0 rfl rfl dX8_leftOut_11 ?_
      refine z_iload_n hX 1 rfl rfl dX8_leftOut_12 ?_
      refine z_asc ?_
      refine z_asc2 ?_
      refine z_cVIm 8 [.int v1] hX (fun l hl o ho => c_X8_chosenBy l hl M v0 v1 o ho) dX8_leftOut_13 (by decide) rfl rfl q_797 okV_X8_chosenBy rfl ⟨(Nat.le_of_ble_eq_true rfl), (Nat.le_of_ble_eq_true rfl)⟩ rfl (Nat.le_of_ble_eq_true rfl) rfl rfl ⟨(Nat.le_of_ble_eq_true rfl), (Nat.le_of_ble_eq_true rfl)⟩ (fun o4 => ?_)
      refine z_asc ?_
      refine z_asc2 ?_
      refine z_cVIp 0 [.int o4.1] hX (fun l hl o ho => c_X0_unserved l hl o4.2 r3 o4.1 o ho) dX8_leftOut_16 (by decide) rfl rfl q_904 okV_X0_unserved rfl ⟨(Nat.le_of_ble_eq_true rfl), (Nat.le_of_ble_eq_true rfl)⟩ rfl (Nat.le_of_ble_eq_true rfl) rfl rfl ⟨(Nat.le_of_ble_eq_true rfl), (Nat.le_of_ble_eq_true rfl)⟩ (fun o5 => ?_)
      refine z_goto hX 24 (by decide) dX8_leftOut_19 ?_
      refine z_pure ?_
      refine z_sub [] rfl ?_
      exact kj2 (o5, o4.2)
theorem c_X8_leftOut (l : Launch) (hl : l.stackTraces = false) (M : Mem) (v0 : Nat) (v1 : Int32) (o : Int32 × Mem) (ho : f_X8_leftOut M v0 v1 = some o) : Ct l yX8_leftOut cX8_leftOut 2 (some .int) rm_X8_leftOut [.ref v0, .int v1] M (some (.int o.1)) o.2 :=
  Ct.of hl (by decide +kernel) (Nat.le_of_ble_eq_true rfl) rfl (fun X hX hin => z_X8_leftOut hX M v0 v1 o ho)
theorem okV_X8_leftOut : okV yX8_leftOut cX8_leftOut 2 (some .int) 1 := ⟨q_901, q_902, q_86, q_903, by unfold okY; decide +kernel⟩
/-! ParticipatoryBudget.claimOf(II)I -/
abbrev rm_X8_claimOf : Room := { frames := 7, cells := 1, slots := 6, locals := 165 }
set_option maxRecDepth 20000 in
set_option maxHeartbeats 4000000 in
theorem z_X8_claimOf {X : Cxt} (hX : okX X cX8_claimOf RX8 rm_X8_claimOf (some .int) 3) (hT : noT X) (M : Mem) (v0 : Nat) (v1 : Int32) (v2 : Int32) : Zj X (fun o : Option Int32 × Mem => Qx X rm_X8_claimOf.cells rm_X8_claimOf.slots (o.1.map fun v => some (.int v)) o.2) 0 0 0 [(0, .ref v0), (1, .int v1), (2, .int v2)] [] M (f_X8_claimOf M v0 v1 v2) := by
  unfold f_X8_claimOf
  refine z_iload_n hX 2 rfl rfl dX8_claimOf_0 ?_
  refine z_aload_n hX 0 rfl rfl dX8_claimOf_1 ?_
  refine z_gFR 8 8 hX (by decide) rfl (by decide) rfl q_425 dX8_claimOf_2 (fun r1 => ?_)
  refine z_gFI 0 1 hX (by decide) rfl (by decide) rfl q_330 dX8_claimOf_5 (fun x2 => ?_)
  refine z_cSx [.int v2, .int x2] hX hT (fun l hl o ho => c_X8_checkIndex l hl M v2 x2 o ho) dX8_claimOf_8 q_1002 okS_X8_checkIndex.1 okS_X8_checkIndex.2.1 okS_X8_checkIndex.2.2.1 okS_X8_checkIndex.2.2.2 rfl ⟨(Nat.le_of_ble_eq_true rfl), (Nat.le_of_ble_eq_true rfl)⟩ rfl (Nat.le_of_ble_eq_true rfl) rfl rfl ⟨(Nat.le_of_ble_eq_true rfl), (Nat.le_of_ble_eq_true rfl)⟩ (Nat.le_of_ble_eq_true rfl) (Nat.le_of_ble_eq_true rfl) (fun M4 => ?_)
  refine z_iload_n hX 1 rfl rfl dX8_claimOf_11 ?_
  refine z_cSIp [.int v1] hX (fun l hl o ho => c_X8_isRule l hl M4 v1 o ho) dX8_claimOf_12 q_794 okS_X8_isRule rfl ⟨(Nat.le_of_ble_eq_true rfl), (Nat.le_of_ble_eq_true rfl)⟩ rfl (Nat.le_of_ble_eq_true rfl) rfl rfl ⟨(Nat.le_of_ble_eq_true rfl), (Nat.le_of_ble_eq_true rfl)⟩ (fun o5 => ?_)
  refine z_jn (C' := 1) (S' := 6) 36 (fun (j6 : Int32 × Mem) => []) (fun (j6 : Int32 × Mem) => [.int j6.1]) (fun (j6 : Int32 × Mem) => j6.2) (fun j6 => ?_) (fun kj6 => ?_)
  · exact z_iretX hX dX8_claimOf_36 (Nat.le_of_ble_eq_true rfl) (Nat.le_of_ble_eq_true rfl)
  · refine z_iteB ?_
    refine z_if_eq hX 34 (by decide) dX8_claimOf_15 (fun _ => ?_) (fun _ => ?_)
    · refine z_bipush (v := (-2)) hX (by decide) dX8_claimOf_34 ?_
      refine z_pure ?_
      refine z_sub [] rfl ?_
      exact kj6 ((-2), M4)
    · refine z_aload_n hX 0 rfl rfl dX8_claimOf_18 ?_
      refine z_asc ?_
      refine z_gFR 8 8 hX (by decide) rfl (by decide) rfl q_425 dX8_claimOf_19 (fun r7 => ?_)
      refine z_aload_n hX 0 rfl rfl dX8_claimOf_22 ?_
      refine z_iload_n hX 1 rfl rfl dX8_claimOf_23 ?_
      refine z_asc ?_
      refine z_asc2 ?_
      refine z_cVIm 8 [.int v1] hX (fun l hl o ho => c_X8_chosenBy l hl M4 v0 v1 o ho) dX8_claimOf_24 (by decide) rfl rfl q_797 okV_X8_chosenBy rfl ⟨(Nat.le_of_ble_eq_true rfl), (Nat.le_of_ble_eq_true rfl)⟩ rfl (Nat.le_of_ble_eq_true rfl) rfl rfl ⟨(Nat.le_of_ble_eq_true rfl), (Nat.le_of_ble_eq_true rfl)⟩ (fun o8 => ?_)
      refine z_iload_n hX 2 rfl rfl dX8_claimOf_27 ?_
      refine z_asc ?_
      refine z_asc2 ?_
      refine z_cVIp 0 [.int o8.1, .int v2] hX (fun l hl o ho => c_X0_claim l hl o8.2 r7 o8.1 v2 o ho) dX8_claimOf_28 (by decide) rfl rfl q_912 okV_X0_claim rfl ⟨(Nat.le_of_ble_eq_true rfl), (Nat.le_of_ble_eq_true rfl)⟩ rfl (Nat.le_of_ble_eq_true rfl) rfl rfl ⟨(Nat.le_of_ble_eq_true rfl), (Nat.le_of_ble_eq_true rfl)⟩ (fun o9 => ?_)
      refine z_goto hX 36 (by decide) dX8_claimOf_31 ?_
      refine z_pure ?_
      refine z_sub [] rfl ?_
      exact kj6 (o9, o8.2)
theorem c_X8_claimOf (l : Launch) (hl : l.stackTraces = false) (M : Mem) (v0 : Nat) (v1 : Int32) (v2 : Int32) (o : Option Int32 × Mem) (ho : f_X8_claimOf M v0 v1 v2 = some o) : Cx l yX8_claimOf cX8_claimOf 3 (some .int) rm_X8_claimOf [.ref v0, .int v1, .int v2] M (o.1.map fun v => some (.int v)) o.2 :=
  Cx.of hl (by decide +kernel) (Nat.le_of_ble_eq_true rfl) rfl (fun X hX hT => z_X8_claimOf hX hT M v0 v1 v2 o ho)
theorem okV_X8_claimOf : okV yX8_claimOf cX8_claimOf 3 (some .int) 2 := ⟨q_1187, q_1188, q_86, q_1189, by unfold okY; decide +kernel⟩
/-! ParticipatoryBudget.unjust(I)I -/
abbrev rm_X8_unjust : Room := { frames := 7, cells := 0, slots := 0, locals := 165 }
set_option maxRecDepth 20000 in
set_option maxHeartbeats 4000000 in
theorem z_X8_unjust {X : Cxt} (hX : okX X cX8_unjust RX8 rm_X8_unjust (some .int) 4) (M : Mem) (v0 : Nat) (v1 : Int32) : Zj X (fun o : Int32 × Mem => Qr X rm_X8_unjust.cells rm_X8_unjust.slots (some (.int o.1)) o.2) 0 0 0 [(0, .ref v0), (1, .int v1)] [] M (f_X8_unjust M v0 v1) := by
  unfold f_X8_unjust
  refine z_iload_n hX 1 rfl rfl dX8_unjust_0 ?_
  refine z_cSIp [.int v1] hX (fun l hl o ho => c_X8_isRule l hl M v1 o ho) dX8_unjust_1 q_794 okS_X8_isRule rfl ⟨(Nat.le_of_ble_eq_true rfl), (Nat.le_of_ble_eq_true rfl)⟩ rfl (Nat.le_of_ble_eq_true rfl) rfl rfl ⟨(Nat.le_of_ble_eq_true rfl), (Nat.le_of_ble_eq_true rfl)⟩ (fun o1 => ?_)
  refine z_if_ne hX 10 (by decide) dX8_unjust_4 (fun _ => ?_) (fun _ => ?_)
  · refine z_aload_n hX 0 rfl rfl dX8_unjust_10 ?_
    refine z_iload_n hX 1 rfl rfl dX8_unjust_11 ?_
    refine z_cVIm 8 [.int v1] hX (fun l hl o ho => c_X8_chosenBy l hl M v0 v1 o ho) dX8_unjust_12 (by decide) rfl rfl q_797 okV_X8_chosenBy rfl ⟨(Nat.le_of_ble_eq_true rfl), (Nat.le_of_ble_eq_true rfl)⟩ rfl (Nat.le_of_ble_eq_true rfl) rfl rfl ⟨(Nat.le_of_ble_eq_true rfl), (Nat.le_of_ble_eq_true rfl)⟩ (fun o2 => ?_)
    refine z_istore_n hX [(2, .int o2.1), (0, .ref v0), (1, .int v1)] rfl (by decide) rfl dX8_unjust_15 ?_
    refine z_iconst (v := 0) hX (by decide) dX8_unjust_16 ?_
    refine z_istore_n hX [(3, .int 0), (2, .int o2.1), (0, .ref v0), (1, .int v1)] rfl (by decide) rfl dX8_unjust_17 ?_
    refine z_sub [2, 1, 0] rfl ?_
    refine z_lp (x0 := 0) (bd_X8_unjust_18 v0 o2) 18 66 (fun (u3 : Int32) => [(0, .ref v0), (2, .int o2.1), (3, .int u3)]) (fun (e4 : Int32) => []) (fun (u3 : Int32) => o2.2) ?_ ?_
    · intro e4
      refine z_iconst (v := (-1)) hX (by decide) dX8_unjust_66 ?_
      exact z_iretM hX dX8_unjust_67 (Nat.le_of_ble_eq_true rfl) (Nat.le_of_ble_eq_true rfl)
    · intro kk5 rc6 hkk5 hrc6 u3
      unfold bd_X8_unjust_18
      refine z_iload_n hX 2 rfl rfl dX8_unjust_18 ?_
      refine z_aload_n hX 0 rfl rfl dX8_unjust_19 ?_
      refine z_gFR 8 8 hX (by decide) rfl (by decide) rfl q_425 dX8_unjust_20 (fun r7 => ?_)
      refine z_gFI 0 1 hX (by decide) rfl (by decide) rfl q_330 dX8_unjust_23 (fun x8 => ?_)
      refine z_icmp_ge hX 66 (by decide) dX8_unjust_26 (fun _ => ?_) (fun _ => ?_)
      · refine z_sub [] rfl ?_
        exact hkk5 u3
      · refine z_iload_n hX 1 rfl rfl dX8_unjust_29 ?_
        refine z_iload_n hX 2 rfl rfl dX8_unjust_30 ?_
        refine z_cSIp [.int o2.1, .int u3] hX (fun l hl o ho => c_X8_has l hl o2.2 o2.1 u3 o ho) dX8_unjust_31 q_857 okS_X8_has rfl ⟨(Nat.le_of_ble_eq_true rfl), (Nat.le_of_ble_eq_true rfl)⟩ rfl (Nat.le_of_ble_eq_true rfl) rfl rfl ⟨(Nat.le_of_ble_eq_true rfl), (Nat.le_of_ble_eq_true rfl)⟩ (fun o9 => ?_)
        refine z_if_ne hX 60 (by decide) dX8_unjust_34 (fun _ => ?_) (fun _ => ?_)
        · refine z_iinc hX 2 [(3, .int (u3 + 1)), (0, .ref v0), (2, .int o2.1)] rfl rfl (by decide) rfl dX8_unjust_60 ?_
          refine z_goto hX 18 (by decide) dX8_unjust_63 ?_
          refine z_sub [1, 2, 0] rfl ?_
          exact hrc6 (u3 + 1)
        · refine z_aload_n hX 0 rfl rfl dX8_unjust_37 ?_
          refine z_gFR 8 8 hX (by decide) rfl (by decide) rfl q_425 dX8_unjust_38 (fun r10 => ?_)
          refine z_iload_n hX 1 rfl rfl dX8_unjust_41 ?_
          refine z_iload_n hX 2 rfl rfl dX8_unjust_42 ?_
          refine z_cVIp 0 [.int o2.1, .int u3] hX (fun l hl o ho => c_X0_claim l hl o2.2 r10 o2.1 u3 o ho) dX8_unjust_43 (by decide) rfl rfl q_912 okV_X0_claim rfl ⟨(Nat.le_of_ble_eq_true rfl), (Nat.le_of_ble_eq_true rfl)⟩ rfl (Nat.le_of_ble_eq_true rfl) rfl rfl ⟨(Nat.le_of_ble_eq_true rfl), (Nat.le_of_ble_eq_true rfl)⟩ (fun o11 => ?_)
          refine z_aload_n hX 0 rfl rfl dX8_unjust_46 ?_
          refine z_gFR 8 8 hX (by decide) rfl (by decide) rfl q_425 dX8_unjust_47 (fun r12 => ?_)
          refine z_gFR 0 6 hX (by decide) rfl (by decide) rfl q_354 dX8_unjust_50 (fun r13 => ?_)
          refine z_iload_n hX 2 rfl rfl dX8_unjust_53 ?_
          refine z_aI hX dX8_unjust_54 (fun x14 => ?_)
          refine z_icmp_lt hX 60 (by decide) dX8_unjust_55 (fun _ => ?_) (fun _ => ?_)
          · refine z_iinc hX 2 [(3, .int (u3 + 1)), (0, .ref v0), (2, .int o2.1)] rfl rfl (by decide) rfl dX8_unjust_60 ?_
            refine z_goto hX 18 (by decide) dX8_unjust_63 ?_
            refine z_sub [1, 2, 0] rfl ?_
            exact hrc6 (u3 + 1)
          · refine z_iload_n hX 2 rfl rfl dX8_unjust_58 ?_
            exact z_iretM hX dX8_unjust_59 (Nat.le_of_ble_eq_true rfl) (Nat.le_of_ble_eq_true rfl)
  · refine z_bipush (v := (-2)) hX (by decide) dX8_unjust_7 ?_
    exact z_iretM hX dX8_unjust_9 (Nat.le_of_ble_eq_true rfl) (Nat.le_of_ble_eq_true rfl)
theorem c_X8_unjust (l : Launch) (hl : l.stackTraces = false) (M : Mem) (v0 : Nat) (v1 : Int32) (o : Int32 × Mem) (ho : f_X8_unjust M v0 v1 = some o) : Ct l yX8_unjust cX8_unjust 4 (some .int) rm_X8_unjust [.ref v0, .int v1] M (some (.int o.1)) o.2 :=
  Ct.of hl (by decide +kernel) (Nat.le_of_ble_eq_true rfl) rfl (fun X hX hin => z_X8_unjust hX M v0 v1 o ho)
theorem okV_X8_unjust : okV yX8_unjust cX8_unjust 4 (some .int) 1 := ⟨q_909, q_910, q_86, q_911, by unfold okY; decide +kernel⟩
/-! ParticipatoryBudget.canBePaid(I)Z -/
abbrev rm_X8_canBePaid : Room := { frames := 3, cells := 0, slots := 0, locals := 67 }
set_option maxRecDepth 20000 in
set_option maxHeartbeats 4000000 in
theorem z_X8_canBePaid {X : Cxt} (hX : okX X cX8_canBePaid RX8 rm_X8_canBePaid (some .boolean) 2) (M : Mem) (v0 : Nat) (v1 : Int32) : Zj X (fun o : Int32 × Mem => Qr X rm_X8_canBePaid.cells rm_X8_canBePaid.slots (some (.int o.1)) o.2) 0 0 0 [(0, .ref v0), (1, .int v1)] [] M (f_X8_canBePaid M v0 v1) := by
  unfold f_X8_canBePaid
  refine z_iload_n hX 1 rfl rfl dX8_canBePaid_0 ?_
  refine z_iconst (v := 1) hX (by decide) dX8_canBePaid_1 ?_
  refine z_aload_n hX 0 rfl rfl dX8_canBePaid_2 ?_
  refine z_gFR 8 8 hX (by decide) rfl (by decide) rfl q_425 dX8_canBePaid_3 (fun r1 => ?_)
  refine z_gFI 0 1 hX (by decide) rfl (by decide) rfl q_330 dX8_canBePaid_6 (fun x2 => ?_)
  refine z_ishl hX dX8_canBePaid_9 ?_
  refine z_ineg hX dX8_canBePaid_10 ?_
  refine z_iand hX dX8_canBePaid_11 ?_
  refine z_jn (C' := 0) (S' := 0) 31 (fun (j3 : Int32 × Mem) => []) (fun (j3 : Int32 × Mem) => [.int j3.1]) (fun (j3 : Int32 × Mem) => j3.2) (fun j3 => ?_) (fun kj3 => ?_)
  · exact z_zretM hX dX8_canBePaid_31 (Nat.le_of_ble_eq_true rfl) (Nat.le_of_ble_eq_true rfl)
  · refine z_iteB ?_
    refine z_if_ne hX 30 (by decide) dX8_canBePaid_12 (fun _ => ?_) (fun _ => ?_)
    · refine z_iconst (v := 0) hX (by decide) dX8_canBePaid_30 ?_
      refine z_pure ?_
      refine z_sub [] rfl ?_
      exact kj3 (0, M)
    · refine z_aload_n hX 0 rfl rfl dX8_canBePaid_15 ?_
      refine z_asc ?_
      refine z_asc2 ?_
      refine z_cVAm 8 [] hX (fun l hl o ho => c_X8_optimumNow l hl M v0 o ho) dX8_canBePaid_16 (by decide) rfl rfl q_816 okV_X8_optimumNow rfl ⟨(Nat.le_of_ble_eq_true rfl), (Nat.le_of_ble_eq_true rfl)⟩ rfl (Nat.le_of_ble_eq_true rfl) rfl rfl ⟨(Nat.le_of_ble_eq_true rfl), (Nat.le_of_ble_eq_true rfl)⟩ (fun o4 => ?_)
      refine z_iload_n hX 1 rfl rfl dX8_canBePaid_19 ?_
      refine z_asc ?_
      refine z_asc2 ?_
      refine z_cVIp 4 [.int v1] hX (fun l hl o ho => c_X4_canPay l hl o4.2 o4.1 v1 o ho) dX8_canBePaid_20 (by decide) rfl rfl q_931 okV_X4_canPay rfl ⟨(Nat.le_of_ble_eq_true rfl), (Nat.le_of_ble_eq_true rfl)⟩ rfl (Nat.le_of_ble_eq_true rfl) rfl rfl ⟨(Nat.le_of_ble_eq_true rfl), (Nat.le_of_ble_eq_true rfl)⟩ (fun o5 => ?_)
      refine z_iteB ?_
      refine z_if_eq hX 30 (by decide) dX8_canBePaid_23 (fun _ => ?_) (fun _ => ?_)
      · refine z_iconst (v := 0) hX (by decide) dX8_canBePaid_30 ?_
        refine z_pure ?_
        refine z_sub [] rfl ?_
        exact kj3 (0, o4.2)
      · refine z_iconst (v := 1) hX (by decide) dX8_canBePaid_26 ?_
        refine z_goto hX 31 (by decide) dX8_canBePaid_27 ?_
        refine z_pure ?_
        refine z_sub [] rfl ?_
        exact kj3 (1, o4.2)
theorem c_X8_canBePaid (l : Launch) (hl : l.stackTraces = false) (M : Mem) (v0 : Nat) (v1 : Int32) (o : Int32 × Mem) (ho : f_X8_canBePaid M v0 v1 = some o) : Ct l yX8_canBePaid cX8_canBePaid 2 (some .boolean) rm_X8_canBePaid [.ref v0, .int v1] M (some (.int o.1)) o.2 :=
  Ct.of hl (by decide +kernel) (Nat.le_of_ble_eq_true rfl) rfl (fun X hX hin => z_X8_canBePaid hX M v0 v1 o ho)
theorem okV_X8_canBePaid : okV yX8_canBePaid cX8_canBePaid 2 (some .boolean) 1 := ⟨q_928, q_929, q_86, q_930, by unfold okY; decide +kernel⟩
/-! ParticipatoryBudget.bestWithout(I)J -/
abbrev rm_X8_bestWithout : Room := { frames := 7, cells := 1, slots := 6, locals := 110 }
set_option maxRecDepth 20000 in
set_option maxHeartbeats 4000000 in
theorem z_X8_bestWithout {X : Cxt} (hX : okX X cX8_bestWithout RX8 rm_X8_bestWithout (some .long) 3) (hT : noT X) (M : Mem) (v0 : Nat) (v1 : Int32) : Zj X (fun o : Option Int64 × Mem => Qx X rm_X8_bestWithout.cells rm_X8_bestWithout.slots (o.1.map fun v => some (.long v)) o.2) 0 0 0 [(0, .ref v0), (1, .int v1)] [] M (f_X8_bestWithout M v0 v1) := by
  unfold f_X8_bestWithout
  refine z_iload_n hX 1 rfl rfl dX8_bestWithout_0 ?_
  refine z_aload_n hX 0 rfl rfl dX8_bestWithout_1 ?_
  refine z_gFR 8 8 hX (by decide) rfl (by decide) rfl q_425 dX8_bestWithout_2 (fun r1 => ?_)
  refine z_gFI 0 1 hX (by decide) rfl (by decide) rfl q_330 dX8_bestWithout_5 (fun x2 => ?_)
  refine z_cSx [.int v1, .int x2] hX hT (fun l hl o ho => c_X8_checkIndex l hl M v1 x2 o ho) dX8_bestWithout_8 q_1002 okS_X8_checkIndex.1 okS_X8_checkIndex.2.1 okS_X8_checkIndex.2.2.1 okS_X8_checkIndex.2.2.2 rfl ⟨(Nat.le_of_ble_eq_true rfl), (Nat.le_of_ble_eq_true rfl)⟩ rfl (Nat.le_of_ble_eq_true rfl) rfl rfl ⟨(Nat.le_of_ble_eq_true rfl), (Nat.le_of_ble_eq_true rfl)⟩ (Nat.le_of_ble_eq_true rfl) (Nat.le_of_ble_eq_true rfl) (fun M4 => ?_)
  refine z_aload_n hX 0 rfl rfl dX8_bestWithout_11 ?_
  refine z_cVAm 8 [] hX (fun l hl o ho => c_X8_optimumNow l hl M4 v0 o ho) dX8_bestWithout_12 (by decide) rfl rfl q_816 okV_X8_optimumNow rfl ⟨(Nat.le_of_ble_eq_true rfl), (Nat.le_of_ble_eq_true rfl)⟩ rfl (Nat.le_of_ble_eq_true rfl) rfl rfl ⟨(Nat.le_of_ble_eq_true rfl), (Nat.le_of_ble_eq_true rfl)⟩ (fun o5 => ?_)
  refine z_astore_n hX [(2, .ref o5.1), (0, .ref v0), (1, .int v1)] rfl (by decide) rfl dX8_bestWithout_15 ?_
  refine z_aload_n hX 0 rfl rfl dX8_bestWithout_16 ?_
  refine z_gFR 4 0 hX (by decide) rfl (by decide) rfl q_288 dX8_bestWithout_17 (fun r6 => ?_)
  refine z_aload_n hX 0 rfl rfl dX8_bestWithout_20 ?_
  refine z_iconst (v := 1) hX (by decide) dX8_bestWithout_21 ?_
  refine z_iload_n hX 2 rfl rfl dX8_bestWithout_22 ?_
  refine z_ishl hX dX8_bestWithout_23 ?_
  refine z_cVIp 4 [.int ((1 : Int32) <<< (v1 &&& 31))] hX (fun l hl o ho => c_X4_best l hl o5.2 o5.1 ((1 : Int32) <<< (v1 &&& 31)) o ho) dX8_bestWithout_24 (by decide) rfl rfl q_831 okV_X4_best rfl ⟨(Nat.le_of_ble_eq_true rfl), (Nat.le_of_ble_eq_true rfl)⟩ rfl (Nat.le_of_ble_eq_true rfl) rfl rfl ⟨(Nat.le_of_ble_eq_true rfl), (Nat.le_of_ble_eq_true rfl)⟩ (fun o7 => ?_)
  refine z_aI hX dX8_bestWithout_27 (fun x8 => ?_)
  refine z_i2l hX rfl dX8_bestWithout_28 ?_
  exact z_lretX hX dX8_bestWithout_29 (Nat.le_of_ble_eq_true rfl) (Nat.le_of_ble_eq_true rfl)
theorem c_X8_bestWithout (l : Launch) (hl : l.stackTraces = false) (M : Mem) (v0 : Nat) (v1 : Int32) (o : Option Int64 × Mem) (ho : f_X8_bestWithout M v0 v1 = some o) : Cx l yX8_bestWithout cX8_bestWithout 3 (some .long) rm_X8_bestWithout [.ref v0, .int v1] M (o.1.map fun v => some (.long v)) o.2 :=
  Cx.of hl (by decide +kernel) (Nat.le_of_ble_eq_true rfl) rfl (fun X hX hT => z_X8_bestWithout hX hT M v0 v1 o ho)
theorem okV_X8_bestWithout : okV yX8_bestWithout cX8_bestWithout 3 (some .long) 1 := ⟨q_1221, q_1222, q_86, q_1223, by unfold okY; decide +kernel⟩
/-! ParticipatoryBudget.cheapestSet(I)I -/
abbrev rm_X8_cheapestSet : Room := { frames := 3, cells := 0, slots := 0, locals := 67 }
set_option maxRecDepth 20000 in
set_option maxHeartbeats 4000000 in
theorem z_X8_cheapestSet {X : Cxt} (hX : okX X cX8_cheapestSet RX8 rm_X8_cheapestSet (some .int) 2) (M : Mem) (v0 : Nat) (v1 : Int32) : Zj X (fun o : Int32 × Mem => Qr X rm_X8_cheapestSet.cells rm_X8_cheapestSet.slots (some (.int o.1)) o.2) 0 0 0 [(0, .ref v0), (1, .int v1)] [] M (f_X8_cheapestSet M v0 v1) := by
  unfold f_X8_cheapestSet
  refine z_iload_n hX 1 rfl rfl dX8_cheapestSet_0 ?_
  refine z_jn (C' := 0) (S' := 0) 17 (fun (j1 : Int32 × Mem) => []) (fun (j1 : Int32 × Mem) => [.int j1.1]) (fun (j1 : Int32 × Mem) => j1.2) (fun j1 => ?_) (fun kj1 => ?_)
  · exact z_iretM hX dX8_cheapestSet_17 (Nat.le_of_ble_eq_true rfl) (Nat.le_of_ble_eq_true rfl)
  · refine z_iteB ?_
    refine z_if_ge hX 9 (by decide) dX8_cheapestSet_1 (fun _ => ?_) (fun _ => ?_)
    · refine z_aload_n hX 0 rfl rfl dX8_cheapestSet_9 ?_
      refine z_asc ?_
      refine z_asc2 ?_
      refine z_cVAm 8 [] hX (fun l hl o ho => c_X8_optimumNow l hl M v0 o ho) dX8_cheapestSet_10 (by decide) rfl rfl q_816 okV_X8_optimumNow rfl ⟨(Nat.le_of_ble_eq_true rfl), (Nat.le_of_ble_eq_true rfl)⟩ rfl (Nat.le_of_ble_eq_true rfl) rfl rfl ⟨(Nat.le_of_ble_eq_true rfl), (Nat.le_of_ble_eq_true rfl)⟩ (fun o2 => ?_)
      refine z_iload_n hX 1 rfl rfl dX8_cheapestSet_13 ?_
      refine z_asc ?_
      refine z_asc2 ?_
      refine z_cVIp 4 [.int v1] hX (fun l hl o ho => c_X4_cheapest l hl o2.2 o2.1 v1 o ho) dX8_cheapestSet_14 (by decide) rfl rfl q_936 okV_X4_cheapest rfl ⟨(Nat.le_of_ble_eq_true rfl), (Nat.le_of_ble_eq_true rfl)⟩ rfl (Nat.le_of_ble_eq_true rfl) rfl rfl ⟨(Nat.le_of_ble_eq_true rfl), (Nat.le_of_ble_eq_true rfl)⟩ (fun o3 => ?_)
      refine z_pure ?_
      refine z_sub [] rfl ?_
      exact kj1 (o3, o2.2)
    · refine z_bipush (v := (-2)) hX (by decide) dX8_cheapestSet_4 ?_
      refine z_goto hX 17 (by decide) dX8_cheapestSet_6 ?_
      refine z_pure ?_
      refine z_sub [] rfl ?_
      exact kj1 ((-2), M)
theorem c_X8_cheapestSet (l : Launch) (hl : l.stackTraces = false) (M : Mem) (v0 : Nat) (v1 : Int32) (o : Int32 × Mem) (ho : f_X8_cheapestSet M v0 v1 = some o) : Ct l yX8_cheapestSet cX8_cheapestSet 2 (some .int) rm_X8_cheapestSet [.ref v0, .int v1] M (some (.int o.1)) o.2 :=
  Ct.of hl (by decide +kernel) (Nat.le_of_ble_eq_true rfl) rfl (fun X hX hin => z_X8_cheapestSet hX M v0 v1 o ho)
theorem okV_X8_cheapestSet : okV yX8_cheapestSet cX8_cheapestSet 2 (some .int) 1 := ⟨q_933, q_934, q_86, q_935, by unfold okY; decide +kernel⟩
/-! ParticipatoryBudget.chosenIfSpare()I -/
abbrev rm_X8_chosenIfSpare : Room := { frames := 5, cells := 0, slots := 0, locals := 124 }
set_option maxRecDepth 20000 in
set_option maxHeartbeats 4000000 in
theorem z_X8_chosenIfSpare {X : Cxt} (hX : okX X cX8_chosenIfSpare RX8 rm_X8_chosenIfSpare (some .int) 1) (M : Mem) (v0 : Nat) : Zj X (fun o : Int32 × Mem => Qr X rm_X8_chosenIfSpare.cells rm_X8_chosenIfSpare.slots (some (.int o.1)) o.2) 0 0 0 [(0, .ref v0)] [] M (f_X8_chosenIfSpare M v0) := by
  unfold f_X8_chosenIfSpare
  refine z_aload_n hX 0 rfl rfl dX8_chosenIfSpare_0 ?_
  refine z_gFR 8 9 hX (by decide) rfl (by decide) rfl q_426 dX8_chosenIfSpare_1 (fun r1 => ?_)
  refine z_cVVm 0 [] hX (fun l hl o ho => c_X0_tally l hl M r1 o ho) dX8_chosenIfSpare_4 (by decide) rfl rfl q_619 okV_X0_tally rfl ⟨(Nat.le_of_ble_eq_true rfl), (Nat.le_of_ble_eq_true rfl)⟩ rfl (Nat.le_of_ble_eq_true rfl) rfl rfl ⟨(Nat.le_of_ble_eq_true rfl), (Nat.le_of_ble_eq_true rfl)⟩ (fun o2 => ?_)
  refine z_aload_n hX 0 rfl rfl dX8_chosenIfSpare_7 ?_
  refine z_gFR 8 4 hX (by decide) rfl (by decide) rfl q_421 dX8_chosenIfSpare_8 (fun r3 => ?_)
  refine z_aload_n hX 0 rfl rfl dX8_chosenIfSpare_11 ?_
  refine z_gFR 8 9 hX (by decide) rfl (by decide) rfl q_426 dX8_chosenIfSpare_12 (fun r4 => ?_)
  refine z_cVVm 1 [.ref r4] hX (fun l hl o ho => c_X1_decide l hl o2 r3 r4 o ho) dX8_chosenIfSpare_15 (by decide) rfl rfl q_666 okV_X1_decide rfl ⟨(Nat.le_of_ble_eq_true rfl), (Nat.le_of_ble_eq_true rfl)⟩ rfl (Nat.le_of_ble_eq_true rfl) rfl rfl ⟨(Nat.le_of_ble_eq_true rfl), (Nat.le_of_ble_eq_true rfl)⟩ (fun o5 => ?_)
  refine z_aload_n hX 0 rfl rfl dX8_chosenIfSpare_18 ?_
  refine z_gFR 8 4 hX (by decide) rfl (by decide) rfl q_421 dX8_chosenIfSpare_19 (fun r6 => ?_)
  refine z_cVIp 1 [] hX (fun l hl o ho => c_X1_chosen l hl o5 r6 o ho) dX8_chosenIfSpare_22 (by decide) rfl rfl q_780 okV_X1_chosen rfl ⟨(Nat.le_of_ble_eq_true rfl), (Nat.le_of_ble_eq_true rfl)⟩ rfl (Nat.le_of_ble_eq_true rfl) rfl rfl ⟨(Nat.le_of_ble_eq_true rfl), (Nat.le_of_ble_eq_true rfl)⟩ (fun o7 => ?_)
  exact z_iretM hX dX8_chosenIfSpare_25 (Nat.le_of_ble_eq_true rfl) (Nat.le_of_ble_eq_true rfl)
theorem c_X8_chosenIfSpare (l : Launch) (hl : l.stackTraces = false) (M : Mem) (v0 : Nat) (o : Int32 × Mem) (ho : f_X8_chosenIfSpare M v0 = some o) : Ct l yX8_chosenIfSpare cX8_chosenIfSpare 1 (some .int) rm_X8_chosenIfSpare [.ref v0] M (some (.int o.1)) o.2 :=
  Ct.of hl (by decide +kernel) (Nat.le_of_ble_eq_true rfl) rfl (fun X hX hin => z_X8_chosenIfSpare hX M v0 o ho)
theorem okV_X8_chosenIfSpare : okV yX8_chosenIfSpare cX8_chosenIfSpare 1 (some .int) 0 := ⟨q_1203, q_24, q_86, q_1204, by unfold okY; decide +kernel⟩
/-! ParticipatoryBudget.changedWithout(I)I -/
abbrev rm_X8_changedWithout : Room := { frames := 7, cells := 1, slots := 6, locals := 165 }
set_option maxRecDepth 20000 in
set_option maxHeartbeats 4000000 in
theorem z_X8_changedWithout {X : Cxt} (hX : okX X cX8_changedWithout RX8 rm_X8_changedWithout (some .int) 2) (hT : noT X) (M : Mem) (v0 : Nat) (v1 : Int32) : Zj X (fun o : Option Int32 × Mem => Qx X rm_X8_changedWithout.cells rm_X8_changedWithout.slots (o.1.map fun v => some (.int v)) o.2) 0 0 0 [(0, .ref v0), (1, .int v1)] [] M (f_X8_changedWithout M v0 v1) := by
  unfold f_X8_changedWithout
  refine z_iload_n hX 1 rfl rfl dX8_changedWithout_0 ?_
  refine z_aload_n hX 0 rfl rfl dX8_changedWithout_1 ?_
  refine z_gFR 8 8 hX (by decide) rfl (by decide) rfl q_425 dX8_changedWithout_2 (fun r1 => ?_)
  refine z_gFI 0 2 hX (by decide) rfl (by decide) rfl q_334 dX8_changedWithout_5 (fun x2 => ?_)
  refine z_cSx [.int v1, .int x2] hX hT (fun l hl o ho => c_X8_checkIndex l hl M v1 x2 o ho) dX8_changedWithout_8 q_1002 okS_X8_checkIndex.1 okS_X8_checkIndex.2.1 okS_X8_checkIndex.2.2.1 okS_X8_checkIndex.2.2.2 rfl ⟨(Nat.le_of_ble_eq_true rfl), (Nat.le_of_ble_eq_true rfl)⟩ rfl (Nat.le_of_ble_eq_true rfl) rfl rfl ⟨(Nat.le_of_ble_eq_true rfl), (Nat.le_of_ble_eq_true rfl)⟩ (Nat.le_of_ble_eq_true rfl) (Nat.le_of_ble_eq_true rfl) (fun M4 => ?_)
  refine z_aload_n hX 0 rfl rfl dX8_changedWithout_11 ?_
  refine z_gFR 8 9 hX (by decide) rfl (by decide) rfl q_426 dX8_changedWithout_12 (fun r5 => ?_)
  refine z_aload_n hX 0 rfl rfl dX8_changedWithout_15 ?_
  refine z_gFR 8 8 hX (by decide) rfl (by decide) rfl q_425 dX8_changedWithout_16 (fun r6 => ?_)
  refine z_cVVm 0 [.ref r6] hX (fun l hl o ho => c_X0_copy l hl M4 r5 r6 o ho) dX8_changedWithout_19 (by decide) rfl rfl q_1197 okV_X0_copy rfl ⟨(Nat.le_of_ble_eq_true rfl), (Nat.le_of_ble_eq_true rfl)⟩ rfl (Nat.le_of_ble_eq_true rfl) rfl rfl ⟨(Nat.le_of_ble_eq_true rfl), (Nat.le_of_ble_eq_true rfl)⟩ (fun o7 => ?_)
  refine z_aload_n hX 0 rfl rfl dX8_changedWithout_22 ?_
  refine z_gFR 8 9 hX (by decide) rfl (by decide) rfl q_426 dX8_changedWithout_23 (fun r8 => ?_)
  refine z_gFR 0 10 hX (by decide) rfl (by decide) rfl q_374 dX8_changedWithout_26 (fun r9 => ?_)
  refine z_iload_n hX 1 rfl rfl dX8_changedWithout_29 ?_
  refine z_iconst (v := 0) hX (by decide) dX8_changedWithout_30 ?_
  refine z_wI hX dX8_changedWithout_31 (fun M10 => ?_)
  refine z_aload_n hX 0 rfl rfl dX8_changedWithout_32 ?_
  refine z_iconst (v := 0) hX (by decide) dX8_changedWithout_33 ?_
  refine z_cVIm 8 [.int 0] hX (fun l hl o ho => c_X8_chosenBy l hl M10 v0 0 o ho) dX8_changedWithout_34 (by decide) rfl rfl q_797 okV_X8_chosenBy rfl ⟨(Nat.le_of_ble_eq_true rfl), (Nat.le_of_ble_eq_true rfl)⟩ rfl (Nat.le_of_ble_eq_true rfl) rfl rfl ⟨(Nat.le_of_ble_eq_true rfl), (Nat.le_of_ble_eq_true rfl)⟩ (fun o11 => ?_)
  refine z_aload_n hX 0 rfl rfl dX8_changedWithout_37 ?_
  refine z_cVIm 8 [] hX (fun l hl o ho => c_X8_chosenIfSpare l hl o11.2 v0 o ho) dX8_changedWithout_38 (by decide) rfl rfl q_1201 okV_X8_chosenIfSpare rfl ⟨(Nat.le_of_ble_eq_true rfl), (Nat.le_of_ble_eq_true rfl)⟩ rfl (Nat.le_of_ble_eq_true rfl) rfl rfl ⟨(Nat.le_of_ble_eq_true rfl), (Nat.le_of_ble_eq_true rfl)⟩ (fun o12 => ?_)
  refine z_ixor hX dX8_changedWithout_41 ?_
  exact z_iretX hX dX8_changedWithout_42 (Nat.le_of_ble_eq_true rfl) (Nat.le_of_ble_eq_true rfl)
theorem c_X8_changedWithout (l : Launch) (hl : l.stackTraces = false) (M : Mem) (v0 : Nat) (v1 : Int32) (o : Option Int32 × Mem) (ho : f_X8_changedWithout M v0 v1 = some o) : Cx l yX8_changedWithout cX8_changedWithout 2 (some .int) rm_X8_changedWithout [.ref v0, .int v1] M (o.1.map fun v => some (.int v)) o.2 :=
  Cx.of hl (by decide +kernel) (Nat.le_of_ble_eq_true rfl) rfl (fun X hX hT => z_X8_changedWithout hX hT M v0 v1 o ho)
theorem okV_X8_changedWithout : okV yX8_changedWithout cX8_changedWithout 2 (some .int) 1 := ⟨q_1194, q_1195, q_86, q_1196, by unfold okY; decide +kernel⟩
/-! ParticipatoryBudget.fundedWithBudget(II)I -/
abbrev rm_X8_fundedWithBudget : Room := { frames := 7, cells := 1, slots := 6, locals := 144 }
set_option maxRecDepth 20000 in
set_option maxHeartbeats 4000000 in
theorem z_X8_fundedWithBudget {X : Cxt} (hX : okX X cX8_fundedWithBudget RX8 rm_X8_fundedWithBudget (some .int) 3) (hT : noT X) (M : Mem) (v0 : Nat) (v1 : Int32) (v2 : Int32) : Zj X (fun o : Option Int32 × Mem => Qx X rm_X8_fundedWithBudget.cells rm_X8_fundedWithBudget.slots (o.1.map fun v => some (.int v)) o.2) 0 0 0 [(0, .ref v0), (1, .int v1), (2, .int v2)] [] M (f_X8_fundedWithBudget M v0 v1 v2) := by
  unfold f_X8_fundedWithBudget
  refine z_iload_n hX 1 rfl rfl dX8_fundedWithBudget_0 ?_
  refine z_aload_n hX 0 rfl rfl dX8_fundedWithBudget_1 ?_
  refine z_gFR 8 8 hX (by decide) rfl (by decide) rfl q_425 dX8_fundedWithBudget_2 (fun r1 => ?_)
  refine z_gFI 0 0 hX (by decide) rfl (by decide) rfl q_323 dX8_fundedWithBudget_5 (fun x2 => ?_)
  refine z_cSx [.int v1, .int x2] hX hT (fun l hl o ho => c_X8_checkIndex l hl M v1 x2 o ho) dX8_fundedWithBudget_8 q_1002 okS_X8_checkIndex.1 okS_X8_checkIndex.2.1 okS_X8_checkIndex.2.2.1 okS_X8_checkIndex.2.2.2 rfl ⟨(Nat.le_of_ble_eq_true rfl), (Nat.le_of_ble_eq_true rfl)⟩ rfl (Nat.le_of_ble_eq_true rfl) rfl rfl ⟨(Nat.le_of_ble_eq_true rfl), (Nat.le_of_ble_eq_true rfl)⟩ (Nat.le_of_ble_eq_true rfl) (Nat.le_of_ble_eq_true rfl) (fun M4 => ?_)
  refine z_iload_n hX 2 rfl rfl dX8_fundedWithBudget_11 ?_
  refine z_if_lt hX 22 (by decide) dX8_fundedWithBudget_12 (fun _ => ?_) (fun _ => ?_)
  · refine z_bipush (v := (-2)) hX (by decide) dX8_fundedWithBudget_22 ?_
    exact z_iretX hX dX8_fundedWithBudget_24 (Nat.le_of_ble_eq_true rfl) (Nat.le_of_ble_eq_true rfl)
  · refine z_iload_n hX 2 rfl rfl dX8_fundedWithBudget_15 ?_
    refine z_ldcw (v := 100000) hX q_944 dX8_fundedWithBudget_16 ?_
    refine z_icmp_le hX 25 (by decide) dX8_fundedWithBudget_19 (fun _ => ?_) (fun _ => ?_)
    · refine z_aload_n hX 0 rfl rfl dX8_fundedWithBudget_25 ?_
      refine z_gFR 8 9 hX (by decide) rfl (by decide) rfl q_426 dX8_fundedWithBudget_26 (fun r5 => ?_)
      refine z_aload_n hX 0 rfl rfl dX8_fundedWithBudget_29 ?_
      refine z_gFR 8 8 hX (by decide) rfl (by decide) rfl q_425 dX8_fundedWithBudget_30 (fun r6 => ?_)
      refine z_cVVm 0 [.ref r6] hX (fun l hl o ho => c_X0_copy l hl M4 r5 r6 o ho) dX8_fundedWithBudget_33 (by decide) rfl rfl q_1197 okV_X0_copy rfl ⟨(Nat.le_of_ble_eq_true rfl), (Nat.le_of_ble_eq_true rfl)⟩ rfl (Nat.le_of_ble_eq_true rfl) rfl rfl ⟨(Nat.le_of_ble_eq_true rfl), (Nat.le_of_ble_eq_true rfl)⟩ (fun o7 => ?_)
      refine z_aload_n hX 0 rfl rfl dX8_fundedWithBudget_36 ?_
      refine z_gFR 8 9 hX (by decide) rfl (by decide) rfl q_426 dX8_fundedWithBudget_37 (fun r8 => ?_)
      refine z_gFR 0 4 hX (by decide) rfl (by decide) rfl q_343 dX8_fundedWithBudget_40 (fun r9 => ?_)
      refine z_iload_n hX 1 rfl rfl dX8_fundedWithBudget_43 ?_
      refine z_iload_n hX 2 rfl rfl dX8_fundedWithBudget_44 ?_
      refine z_wI hX dX8_fundedWithBudget_45 (fun M10 => ?_)
      refine z_aload_n hX 0 rfl rfl dX8_fundedWithBudget_46 ?_
      refine z_cVIm 8 [] hX (fun l hl o ho => c_X8_chosenIfSpare l hl M10 v0 o ho) dX8_fundedWithBudget_47 (by decide) rfl rfl q_1201 okV_X8_chosenIfSpare rfl ⟨(Nat.le_of_ble_eq_true rfl), (Nat.le_of_ble_eq_true rfl)⟩ rfl (Nat.le_of_ble_eq_true rfl) rfl rfl ⟨(Nat.le_of_ble_eq_true rfl), (Nat.le_of_ble_eq_true rfl)⟩ (fun o11 => ?_)
      exact z_iretX hX dX8_fundedWithBudget_50 (Nat.le_of_ble_eq_true rfl) (Nat.le_of_ble_eq_true rfl)
    · refine z_bipush (v := (-2)) hX (by decide) dX8_fundedWithBudget_22 ?_
      exact z_iretX hX dX8_fundedWithBudget_24 (Nat.le_of_ble_eq_true rfl) (Nat.le_of_ble_eq_true rfl)
theorem c_X8_fundedWithBudget (l : Launch) (hl : l.stackTraces = false) (M : Mem) (v0 : Nat) (v1 : Int32) (v2 : Int32) (o : Option Int32 × Mem) (ho : f_X8_fundedWithBudget M v0 v1 v2 = some o) : Cx l yX8_fundedWithBudget cX8_fundedWithBudget 3 (some .int) rm_X8_fundedWithBudget [.ref v0, .int v1, .int v2] M (o.1.map fun v => some (.int v)) o.2 :=
  Cx.of hl (by decide +kernel) (Nat.le_of_ble_eq_true rfl) rfl (fun X hX hT => z_X8_fundedWithBudget hX hT M v0 v1 v2 o ho)
theorem okV_X8_fundedWithBudget : okV yX8_fundedWithBudget cX8_fundedWithBudget 3 (some .int) 2 := ⟨q_1271, q_1272, q_86, q_1273, by unfold okY; decide +kernel⟩
/-! ParticipatoryBudget.fundedWithCost(II)I -/
abbrev rm_X8_fundedWithCost : Room := { frames := 7, cells := 1, slots := 6, locals := 144 }
set_option maxRecDepth 20000 in
set_option maxHeartbeats 4000000 in
theorem z_X8_fundedWithCost {X : Cxt} (hX : okX X cX8_fundedWithCost RX8 rm_X8_fundedWithCost (some .int) 3) (hT : noT X) (M : Mem) (v0 : Nat) (v1 : Int32) (v2 : Int32) : Zj X (fun o : Option Int32 × Mem => Qx X rm_X8_fundedWithCost.cells rm_X8_fundedWithCost.slots (o.1.map fun v => some (.int v)) o.2) 0 0 0 [(0, .ref v0), (1, .int v1), (2, .int v2)] [] M (f_X8_fundedWithCost M v0 v1 v2) := by
  unfold f_X8_fundedWithCost
  refine z_iload_n hX 1 rfl rfl dX8_fundedWithCost_0 ?_
  refine z_aload_n hX 0 rfl rfl dX8_fundedWithCost_1 ?_
  refine z_gFR 8 8 hX (by decide) rfl (by decide) rfl q_425 dX8_fundedWithCost_2 (fun r1 => ?_)
  refine z_gFI 0 1 hX (by decide) rfl (by decide) rfl q_330 dX8_fundedWithCost_5 (fun x2 => ?_)
  refine z_cSx [.int v1, .int x2] hX hT (fun l hl o ho => c_X8_checkIndex l hl M v1 x2 o ho) dX8_fundedWithCost_8 q_1002 okS_X8_checkIndex.1 okS_X8_checkIndex.2.1 okS_X8_checkIndex.2.2.1 okS_X8_checkIndex.2.2.2 rfl ⟨(Nat.le_of_ble_eq_true rfl), (Nat.le_of_ble_eq_true rfl)⟩ rfl (Nat.le_of_ble_eq_true rfl) rfl rfl ⟨(Nat.le_of_ble_eq_true rfl), (Nat.le_of_ble_eq_true rfl)⟩ (Nat.le_of_ble_eq_true rfl) (Nat.le_of_ble_eq_true rfl) (fun M4 => ?_)
  refine z_iload_n hX 2 rfl rfl dX8_fundedWithCost_11 ?_
  refine z_iconst (v := 1) hX (by decide) dX8_fundedWithCost_12 ?_
  refine z_icmp_lt hX 23 (by decide) dX8_fundedWithCost_13 (fun _ => ?_) (fun _ => ?_)
  · refine z_bipush (v := (-2)) hX (by decide) dX8_fundedWithCost_23 ?_
    exact z_iretX hX dX8_fundedWithCost_25 (Nat.le_of_ble_eq_true rfl) (Nat.le_of_ble_eq_true rfl)
  · refine z_iload_n hX 2 rfl rfl dX8_fundedWithCost_16 ?_
    refine z_ldcw (v := 100000) hX q_944 dX8_fundedWithCost_17 ?_
    refine z_icmp_le hX 26 (by decide) dX8_fundedWithCost_20 (fun _ => ?_) (fun _ => ?_)
    · refine z_aload_n hX 0 rfl rfl dX8_fundedWithCost_26 ?_
      refine z_gFR 8 9 hX (by decide) rfl (by decide) rfl q_426 dX8_fundedWithCost_27 (fun r5 => ?_)
      refine z_aload_n hX 0 rfl rfl dX8_fundedWithCost_30 ?_
      refine z_gFR 8 8 hX (by decide) rfl (by decide) rfl q_425 dX8_fundedWithCost_31 (fun r6 => ?_)
      refine z_cVVm 0 [.ref r6] hX (fun l hl o ho => c_X0_copy l hl M4 r5 r6 o ho) dX8_fundedWithCost_34 (by decide) rfl rfl q_1197 okV_X0_copy rfl ⟨(Nat.le_of_ble_eq_true rfl), (Nat.le_of_ble_eq_true rfl)⟩ rfl (Nat.le_of_ble_eq_true rfl) rfl rfl ⟨(Nat.le_of_ble_eq_true rfl), (Nat.le_of_ble_eq_true rfl)⟩ (fun o7 => ?_)
      refine z_aload_n hX 0 rfl rfl dX8_fundedWithCost_37 ?_
      refine z_gFR 8 9 hX (by decide) rfl (by decide) rfl q_426 dX8_fundedWithCost_38 (fun r8 => ?_)
      refine z_gFR 0 6 hX (by decide) rfl (by decide) rfl q_354 dX8_fundedWithCost_41 (fun r9 => ?_)
      refine z_iload_n hX 1 rfl rfl dX8_fundedWithCost_44 ?_
      refine z_iload_n hX 2 rfl rfl dX8_fundedWithCost_45 ?_
      refine z_wI hX dX8_fundedWithCost_46 (fun M10 => ?_)
      refine z_aload_n hX 0 rfl rfl dX8_fundedWithCost_47 ?_
      refine z_cVIm 8 [] hX (fun l hl o ho => c_X8_chosenIfSpare l hl M10 v0 o ho) dX8_fundedWithCost_48 (by decide) rfl rfl q_1201 okV_X8_chosenIfSpare rfl ⟨(Nat.le_of_ble_eq_true rfl), (Nat.le_of_ble_eq_true rfl)⟩ rfl (Nat.le_of_ble_eq_true rfl) rfl rfl ⟨(Nat.le_of_ble_eq_true rfl), (Nat.le_of_ble_eq_true rfl)⟩ (fun o11 => ?_)
      exact z_iretX hX dX8_fundedWithCost_51 (Nat.le_of_ble_eq_true rfl) (Nat.le_of_ble_eq_true rfl)
    · refine z_bipush (v := (-2)) hX (by decide) dX8_fundedWithCost_23 ?_
      exact z_iretX hX dX8_fundedWithCost_25 (Nat.le_of_ble_eq_true rfl) (Nat.le_of_ble_eq_true rfl)
theorem c_X8_fundedWithCost (l : Launch) (hl : l.stackTraces = false) (M : Mem) (v0 : Nat) (v1 : Int32) (v2 : Int32) (o : Option Int32 × Mem) (ho : f_X8_fundedWithCost M v0 v1 v2 = some o) : Cx l yX8_fundedWithCost cX8_fundedWithCost 3 (some .int) rm_X8_fundedWithCost [.ref v0, .int v1, .int v2] M (o.1.map fun v => some (.int v)) o.2 :=
  Cx.of hl (by decide +kernel) (Nat.le_of_ble_eq_true rfl) rfl (fun X hX hT => z_X8_fundedWithCost hX hT M v0 v1 v2 o ho)
theorem okV_X8_fundedWithCost : okV yX8_fundedWithCost cX8_fundedWithCost 3 (some .int) 2 := ⟨q_1278, q_1279, q_86, q_1280, by unfold okY; decide +kernel⟩
/-! ParticipatoryBudget.fundedWithout(I)I -/
abbrev rm_X8_fundedWithout : Room := { frames := 7, cells := 1, slots := 6, locals := 144 }
set_option maxRecDepth 20000 in
set_option maxHeartbeats 4000000 in
theorem z_X8_fundedWithout {X : Cxt} (hX : okX X cX8_fundedWithout RX8 rm_X8_fundedWithout (some .int) 3) (hT : noT X) (M : Mem) (v0 : Nat) (v1 : Int32) : Zj X (fun o : Option Int32 × Mem => Qx X rm_X8_fundedWithout.cells rm_X8_fundedWithout.slots (o.1.map fun v => some (.int v)) o.2) 0 0 0 [(0, .ref v0), (1, .int v1)] [] M (f_X8_fundedWithout M v0 v1) := by
  unfold f_X8_fundedWithout
  refine z_iload_n hX 1 rfl rfl dX8_fundedWithout_0 ?_
  refine z_aload_n hX 0 rfl rfl dX8_fundedWithout_1 ?_
  refine z_gFR 8 8 hX (by decide) rfl (by decide) rfl q_425 dX8_fundedWithout_2 (fun r1 => ?_)
  refine z_gFI 0 1 hX (by decide) rfl (by decide) rfl q_330 dX8_fundedWithout_5 (fun x2 => ?_)
  refine z_cSx [.int v1, .int x2] hX hT (fun l hl o ho => c_X8_checkIndex l hl M v1 x2 o ho) dX8_fundedWithout_8 q_1002 okS_X8_checkIndex.1 okS_X8_checkIndex.2.1 okS_X8_checkIndex.2.2.1 okS_X8_checkIndex.2.2.2 rfl ⟨(Nat.le_of_ble_eq_true rfl), (Nat.le_of_ble_eq_true rfl)⟩ rfl (Nat.le_of_ble_eq_true rfl) rfl rfl ⟨(Nat.le_of_ble_eq_true rfl), (Nat.le_of_ble_eq_true rfl)⟩ (Nat.le_of_ble_eq_true rfl) (Nat.le_of_ble_eq_true rfl) (fun M4 => ?_)
  refine z_aload_n hX 0 rfl rfl dX8_fundedWithout_11 ?_
  refine z_gFR 8 9 hX (by decide) rfl (by decide) rfl q_426 dX8_fundedWithout_12 (fun r5 => ?_)
  refine z_aload_n hX 0 rfl rfl dX8_fundedWithout_15 ?_
  refine z_gFR 8 8 hX (by decide) rfl (by decide) rfl q_425 dX8_fundedWithout_16 (fun r6 => ?_)
  refine z_cVVm 0 [.ref r6] hX (fun l hl o ho => c_X0_copy l hl M4 r5 r6 o ho) dX8_fundedWithout_19 (by decide) rfl rfl q_1197 okV_X0_copy rfl ⟨(Nat.le_of_ble_eq_true rfl), (Nat.le_of_ble_eq_true rfl)⟩ rfl (Nat.le_of_ble_eq_true rfl) rfl rfl ⟨(Nat.le_of_ble_eq_true rfl), (Nat.le_of_ble_eq_true rfl)⟩ (fun o7 => ?_)
  refine z_iconst (v := 0) hX (by decide) dX8_fundedWithout_22 ?_
  refine z_istore_n hX [(2, .int 0), (0, .ref v0), (1, .int v1)] rfl (by decide) rfl dX8_fundedWithout_23 ?_
  refine z_sub [1, 2, 0] rfl ?_
  refine z_lp (x0 := (0, o7)) (bd_X8_fundedWithout_24 v0 v1) 24 58 (fun (u8 : Int32 × Mem) => [(0, .ref v0), (1, .int v1), (2, .int u8.1)]) (fun (e9 : Int32 × Mem) => [(0, .ref v0)]) (fun (u8 : Int32 × Mem) => u8.2) ?_ ?_
  · intro e9
    refine z_aload_n hX 0 rfl rfl dX8_fundedWithout_58 ?_
    refine z_cVIm 8 [] hX (fun l hl o ho => c_X8_chosenIfSpare l hl e9.2 v0 o ho) dX8_fundedWithout_59 (by decide) rfl rfl q_1201 okV_X8_chosenIfSpare rfl ⟨(Nat.le_of_ble_eq_true rfl), (Nat.le_of_ble_eq_true rfl)⟩ rfl (Nat.le_of_ble_eq_true rfl) rfl rfl ⟨(Nat.le_of_ble_eq_true rfl), (Nat.le_of_ble_eq_true rfl)⟩ (fun o18 => ?_)
    exact z_iretX hX dX8_fundedWithout_62 (Nat.le_of_ble_eq_true rfl) (Nat.le_of_ble_eq_true rfl)
  · intro kk10 rc11 hkk10 hrc11 u8
    unfold bd_X8_fundedWithout_24
    refine z_iload_n hX 2 rfl rfl dX8_fundedWithout_24 ?_
    refine z_aload_n hX 0 rfl rfl dX8_fundedWithout_25 ?_
    refine z_gFR 8 9 hX (by decide) rfl (by decide) rfl q_426 dX8_fundedWithout_26 (fun r12 => ?_)
    refine z_gFI 0 2 hX (by decide) rfl (by decide) rfl q_334 dX8_fundedWithout_29 (fun x13 => ?_)
    refine z_icmp_ge hX 58 (by decide) dX8_fundedWithout_32 (fun _ => ?_) (fun _ => ?_)
    · refine z_sub [0] rfl ?_
      exact hkk10 (u8.1, u8.2)
    · refine z_aload_n hX 0 rfl rfl dX8_fundedWithout_35 ?_
      refine z_gFR 8 9 hX (by decide) rfl (by decide) rfl q_426 dX8_fundedWithout_36 (fun r14 => ?_)
      refine z_gFR 0 10 hX (by decide) rfl (by decide) rfl q_374 dX8_fundedWithout_39 (fun r15 => ?_)
      refine z_iload_n hX 2 rfl rfl dX8_fundedWithout_42 ?_
      refine z_dup2 hX rfl rfl dX8_fundedWithout_43 ?_
      refine z_aI hX dX8_fundedWithout_44 (fun x16 => ?_)
      refine z_iconst (v := 1) hX (by decide) dX8_fundedWithout_45 ?_
      refine z_iload_n hX 1 rfl rfl dX8_fundedWithout_46 ?_
      refine z_ishl hX dX8_fundedWithout_47 ?_
      refine z_iconst (v := (-1)) hX (by decide) dX8_fundedWithout_48 ?_
      refine z_ixor hX dX8_fundedWithout_49 ?_
      refine z_iand hX dX8_fundedWithout_50 ?_
      refine z_wI hX dX8_fundedWithout_51 (fun M17 => ?_)
      refine z_iinc hX 2 [(2, .int (u8.1 + 1)), (0, .ref v0), (1, .int v1)] rfl rfl (by decide) rfl dX8_fundedWithout_52 ?_
      refine z_goto hX 24 (by decide) dX8_fundedWithout_55 ?_
      refine z_sub [1, 2, 0] rfl ?_
      exact hrc11 (u8.1 + 1, M17)
theorem c_X8_fundedWithout (l : Launch) (hl : l.stackTraces = false) (M : Mem) (v0 : Nat) (v1 : Int32) (o : Option Int32 × Mem) (ho : f_X8_fundedWithout M v0 v1 = some o) : Cx l yX8_fundedWithout cX8_fundedWithout 3 (some .int) rm_X8_fundedWithout [.ref v0, .int v1] M (o.1.map fun v => some (.int v)) o.2 :=
  Cx.of hl (by decide +kernel) (Nat.le_of_ble_eq_true rfl) rfl (fun X hX hT => z_X8_fundedWithout hX hT M v0 v1 o ho)
theorem okV_X8_fundedWithout : okV yX8_fundedWithout cX8_fundedWithout 3 (some .int) 1 := ⟨q_1285, q_1286, q_86, q_1287, by unfold okY; decide +kernel⟩
/-! ParticipatoryBudget.isGreedilyChosenIfSpare(I)Z -/
abbrev rm_X8_isGreedilyChosenIfSpare : Room := { frames := 4, cells := 0, slots := 0, locals := 93 }
set_option maxRecDepth 20000 in
set_option maxHeartbeats 4000000 in
theorem z_X8_isGreedilyChosenIfSpare {X : Cxt} (hX : okX X cX8_isGreedilyChosenIfSpare RX8 rm_X8_isGreedilyChosenIfSpare (some .boolean) 2) (M : Mem) (v0 : Nat) (v1 : Int32) : Zj X (fun o : Int32 × Mem => Qr X rm_X8_isGreedilyChosenIfSpare.cells rm_X8_isGreedilyChosenIfSpare.slots (some (.int o.1)) o.2) 0 0 0 [(0, .ref v0), (1, .int v1)] [] M (f_X8_isGreedilyChosenIfSpare M v0 v1) := by
  unfold f_X8_isGreedilyChosenIfSpare
  refine z_aload_n hX 0 rfl rfl dX8_isGreedilyChosenIfSpare_0 ?_
  refine z_gFR 8 6 hX (by decide) rfl (by decide) rfl q_423 dX8_isGreedilyChosenIfSpare_1 (fun r1 => ?_)
  refine z_aload_n hX 0 rfl rfl dX8_isGreedilyChosenIfSpare_4 ?_
  refine z_gFR 8 9 hX (by decide) rfl (by decide) rfl q_426 dX8_isGreedilyChosenIfSpare_5 (fun r2 => ?_)
  refine z_cVVm 2 [.ref r2] hX (fun l hl o ho => c_X2_decide l hl M r1 r2 o ho) dX8_isGreedilyChosenIfSpare_8 (by decide) rfl rfl q_805 okV_X2_decide rfl ⟨(Nat.le_of_ble_eq_true rfl), (Nat.le_of_ble_eq_true rfl)⟩ rfl (Nat.le_of_ble_eq_true rfl) rfl rfl ⟨(Nat.le_of_ble_eq_true rfl), (Nat.le_of_ble_eq_true rfl)⟩ (fun o3 => ?_)
  refine z_aload_n hX 0 rfl rfl dX8_isGreedilyChosenIfSpare_11 ?_
  refine z_gFR 8 6 hX (by decide) rfl (by decide) rfl q_423 dX8_isGreedilyChosenIfSpare_12 (fun r4 => ?_)
  refine z_gFI 2 4 hX (by decide) rfl (by decide) rfl q_243 dX8_isGreedilyChosenIfSpare_15 (fun x5 => ?_)
  refine z_iload_n hX 1 rfl rfl dX8_isGreedilyChosenIfSpare_18 ?_
  refine z_cSIp [.int x5, .int v1] hX (fun l hl o ho => c_X8_has l hl o3 x5 v1 o ho) dX8_isGreedilyChosenIfSpare_19 q_857 okS_X8_has rfl ⟨(Nat.le_of_ble_eq_true rfl), (Nat.le_of_ble_eq_true rfl)⟩ rfl (Nat.le_of_ble_eq_true rfl) rfl rfl ⟨(Nat.le_of_ble_eq_true rfl), (Nat.le_of_ble_eq_true rfl)⟩ (fun o6 => ?_)
  exact z_zretM hX dX8_isGreedilyChosenIfSpare_22 (Nat.le_of_ble_eq_true rfl) (Nat.le_of_ble_eq_true rfl)
theorem c_X8_isGreedilyChosenIfSpare (l : Launch) (hl : l.stackTraces = false) (M : Mem) (v0 : Nat) (v1 : Int32) (o : Int32 × Mem) (ho : f_X8_isGreedilyChosenIfSpare M v0 v1 = some o) : Ct l yX8_isGreedilyChosenIfSpare cX8_isGreedilyChosenIfSpare 2 (some .boolean) rm_X8_isGreedilyChosenIfSpare [.ref v0, .int v1] M (some (.int o.1)) o.2 :=
  Ct.of hl (by decide +kernel) (Nat.le_of_ble_eq_true rfl) rfl (fun X hX hin => z_X8_isGreedilyChosenIfSpare hX M v0 v1 o ho)
theorem okV_X8_isGreedilyChosenIfSpare : okV yX8_isGreedilyChosenIfSpare cX8_isGreedilyChosenIfSpare 2 (some .boolean) 1 := ⟨q_1215, q_25, q_86, q_1216, by unfold okY; decide +kernel⟩
/-! ParticipatoryBudget.greedyLimit(I)I -/
abbrev rm_X8_greedyLimit : Room := { frames := 7, cells := 1, slots := 6, locals := 114 }
set_option maxRecDepth 20000 in
set_option maxHeartbeats 4000000 in
theorem z_X8_greedyLimit {X : Cxt} (hX : okX X cX8_greedyLimit RX8 rm_X8_greedyLimit (some .int) 4) (hT : noT X) (M : Mem) (v0 : Nat) (v1 : Int32) : Zj X (fun o : Option Int32 × Mem => Qx X rm_X8_greedyLimit.cells rm_X8_greedyLimit.slots (o.1.map fun v => some (.int v)) o.2) 0 0 0 [(0, .ref v0), (1, .int v1)] [] M (f_X8_greedyLimit M v0 v1) := by
  unfold f_X8_greedyLimit
  refine z_iload_n hX 1 rfl rfl dX8_greedyLimit_0 ?_
  refine z_aload_n hX 0 rfl rfl dX8_greedyLimit_1 ?_
  refine z_gFR 8 8 hX (by decide) rfl (by decide) rfl q_425 dX8_greedyLimit_2 (fun r1 => ?_)
  refine z_gFI 0 1 hX (by decide) rfl (by decide) rfl q_330 dX8_greedyLimit_5 (fun x2 => ?_)
  refine z_cSx [.int v1, .int x2] hX hT (fun l hl o ho => c_X8_checkIndex l hl M v1 x2 o ho) dX8_greedyLimit_8 q_1002 okS_X8_checkIndex.1 okS_X8_checkIndex.2.1 okS_X8_checkIndex.2.2.1 okS_X8_checkIndex.2.2.2 rfl ⟨(Nat.le_of_ble_eq_true rfl), (Nat.le_of_ble_eq_true rfl)⟩ rfl (Nat.le_of_ble_eq_true rfl) rfl rfl ⟨(Nat.le_of_ble_eq_true rfl), (Nat.le_of_ble_eq_true rfl)⟩ (Nat.le_of_ble_eq_true rfl) (Nat.le_of_ble_eq_true rfl) (fun M4 => ?_)
  refine z_aload_n hX 0 rfl rfl dX8_greedyLimit_11 ?_
  refine z_gFR 8 9 hX (by decide) rfl (by decide) rfl q_426 dX8_greedyLimit_12 (fun r5 => ?_)
  refine z_aload_n hX 0 rfl rfl dX8_greedyLimit_15 ?_
  refine z_gFR 8 8 hX (by decide) rfl (by decide) rfl q_425 dX8_greedyLimit_16 (fun r6 => ?_)
  refine z_cVVm 0 [.ref r6] hX (fun l hl o ho => c_X0_copy l hl M4 r5 r6 o ho) dX8_greedyLimit_19 (by decide) rfl rfl q_1197 okV_X0_copy rfl ⟨(Nat.le_of_ble_eq_true rfl), (Nat.le_of_ble_eq_true rfl)⟩ rfl (Nat.le_of_ble_eq_true rfl) rfl rfl ⟨(Nat.le_of_ble_eq_true rfl), (Nat.le_of_ble_eq_true rfl)⟩ (fun o7 => ?_)
  refine z_aload_n hX 0 rfl rfl dX8_greedyLimit_22 ?_
  refine z_gFR 8 9 hX (by decide) rfl (by decide) rfl q_426 dX8_greedyLimit_23 (fun r8 => ?_)
  refine z_cVVm 0 [] hX (fun l hl o ho => c_X0_tally l hl o7 r8 o ho) dX8_greedyLimit_26 (by decide) rfl rfl q_619 okV_X0_tally rfl ⟨(Nat.le_of_ble_eq_true rfl), (Nat.le_of_ble_eq_true rfl)⟩ rfl (Nat.le_of_ble_eq_true rfl) rfl rfl ⟨(Nat.le_of_ble_eq_true rfl), (Nat.le_of_ble_eq_true rfl)⟩ (fun o9 => ?_)
  refine z_iconst (v := 0) hX (by decide) dX8_greedyLimit_29 ?_
  refine z_istore_n hX [(2, .int 0), (0, .ref v0), (1, .int v1)] rfl (by decide) rfl dX8_greedyLimit_30 ?_
  refine z_ldcw (v := 65536) hX q_1212 dX8_greedyLimit_31 ?_
  refine z_istore_n hX [(3, .int 65536), (2, .int 0), (0, .ref v0), (1, .int v1)] rfl (by decide) rfl dX8_greedyLimit_34 ?_
  refine z_sub [2, 3, 1, 0] rfl ?_
  refine z_lp (x0 := (0, 65536, o9)) (bd_X8_greedyLimit_35 v0 v1) 35 79 (fun (u10 : Int32 × Int32 × Mem) => [(0, .ref v0), (1, .int v1), (2, .int u10.1), (3, .int u10.2.1)]) (fun (e11 : Int32 × Int32 × Mem) => [(2, .int e11.1)]) (fun (u10 : Int32 × Int32 × Mem) => u10.2.2) ?_ ?_
  · intro e11
    refine z_iload_n hX 0 rfl rfl dX8_greedyLimit_79 ?_
    refine z_jn (C' := 1) (S' := 6) 88 (fun (j21 : Int32) => []) (fun (j21 : Int32) => [.int j21]) (fun (j21 : Int32) => e11.2.2) (fun j21 => ?_) (fun kj21 => ?_)
    · exact z_iretX hX dX8_greedyLimit_88 (Nat.le_of_ble_eq_true rfl) (Nat.le_of_ble_eq_true rfl)
    · refine z_iteB ?_
      refine z_if_ne hX 87 (by decide) dX8_greedyLimit_80 (fun _ => ?_) (fun _ => ?_)
      · refine z_iload_n hX 0 rfl rfl dX8_greedyLimit_87 ?_
        refine z_pure ?_
        refine z_sub [] rfl ?_
        exact kj21 e11.1
      · refine z_iconst (v := (-1)) hX (by decide) dX8_greedyLimit_83 ?_
        refine z_goto hX 88 (by decide) dX8_greedyLimit_84 ?_
        refine z_pure ?_
        refine z_sub [] rfl ?_
        exact kj21 (-1)
  · intro kk12 rc13 hkk12 hrc13 u10
    unfold bd_X8_greedyLimit_35
    refine z_iload_n hX 3 rfl rfl dX8_greedyLimit_35 ?_
    refine z_if_le hX 79 (by decide) dX8_greedyLimit_36 (fun _ => ?_) (fun _ => ?_)
    · refine z_sub [2] rfl ?_
      exact hkk12 (u10.1, u10.2.1, u10.2.2)
    · refine z_aload_n hX 0 rfl rfl dX8_greedyLimit_39 ?_
      refine z_gFR 8 9 hX (by decide) rfl (by decide) rfl q_426 dX8_greedyLimit_40 (fun r14 => ?_)
      refine z_gFR 0 6 hX (by decide) rfl (by decide) rfl q_354 dX8_greedyLimit_43 (fun r15 => ?_)
      refine z_iload_n hX 1 rfl rfl dX8_greedyLimit_46 ?_
      refine z_iload_n hX 2 rfl rfl dX8_greedyLimit_47 ?_
      refine z_iload_n hX 3 rfl rfl dX8_greedyLimit_48 ?_
      refine z_iadd hX dX8_greedyLimit_49 ?_
      refine z_wI hX dX8_greedyLimit_50 (fun M16 => ?_)
      refine z_iload_n hX 2 rfl rfl dX8_greedyLimit_51 ?_
      refine z_iload_n hX 3 rfl rfl dX8_greedyLimit_52 ?_
      refine z_iadd hX dX8_greedyLimit_53 ?_
      refine z_ldcw (v := 100000) hX q_944 dX8_greedyLimit_54 ?_
      refine z_jn (C' := 1) (S' := 6) 72 (fun (j17 : Int32 × Mem) => [(0, .ref v0), (1, .int v1), (2, .int j17.1), (3, .int u10.2.1)]) (fun (j17 : Int32 × Mem) => []) (fun (j17 : Int32 × Mem) => j17.2) (fun j17 => ?_) (fun kj17 => ?_)
      · refine z_iload_n hX 3 rfl rfl dX8_greedyLimit_72 ?_
        refine z_iconst (v := 1) hX (by decide) dX8_greedyLimit_73 ?_
        refine z_ishr hX dX8_greedyLimit_74 ?_
        refine z_ltI (fun x18 => ?_)
        refine z_istore_n hX [(3, .int x18), (0, .ref v0), (1, .int v1), (2, .int j17.1)] rfl (by decide) rfl dX8_greedyLimit_75 ?_
        refine z_goto hX 35 (by decide) dX8_greedyLimit_76 ?_
        refine z_sub [1, 2, 3, 0] rfl ?_
        exact hrc13 (j17.1, x18, j17.2)
      · refine z_iteB ?_
        refine z_icmp_gt hX 72 (by decide) dX8_greedyLimit_57 (fun _ => ?_) (fun _ => ?_)
        · refine z_pure ?_
          refine z_sub [0, 1, 2, 3] rfl ?_
          exact kj17 (u10.1, M16)
        · refine z_aload_n hX 0 rfl rfl dX8_greedyLimit_60 ?_
          refine z_iload_n hX 1 rfl rfl dX8_greedyLimit_61 ?_
          refine z_asc ?_
          refine z_asc2 ?_
          refine z_cVIm 8 [.int v1] hX (fun l hl o ho => c_X8_isGreedilyChosenIfSpare l hl M16 v0 v1 o ho) dX8_greedyLimit_62 (by decide) rfl rfl q_1213 okV_X8_isGreedilyChosenIfSpare rfl ⟨(Nat.le_of_ble_eq_true rfl), (Nat.le_of_ble_eq_true rfl)⟩ rfl (Nat.le_of_ble_eq_true rfl) rfl rfl ⟨(Nat.le_of_ble_eq_true rfl), (Nat.le_of_ble_eq_true rfl)⟩ (fun o19 => ?_)
          refine z_iteB ?_
          refine z_if_eq hX 72 (by decide) dX8_greedyLimit_65 (fun _ => ?_) (fun _ => ?_)
          · refine z_pure ?_
            refine z_sub [0, 1, 2, 3] rfl ?_
            exact kj17 (u10.1, o19.2)
          · refine z_iload_n hX 2 rfl rfl dX8_greedyLimit_68 ?_
            refine z_iload_n hX 3 rfl rfl dX8_greedyLimit_69 ?_
            refine z_iadd hX dX8_greedyLimit_70 ?_
            refine z_ltB ?_
            refine z_ltI (fun x20 => ?_)
            refine z_istore_n hX [(2, .int x20), (0, .ref v0), (1, .int v1), (3, .int u10.2.1)] rfl (by decide) rfl dX8_greedyLimit_71 ?_
            refine z_pure ?_
            refine z_sub [1, 2, 0, 3] rfl ?_
            exact kj17 (x20, o19.2)
theorem c_X8_greedyLimit (l : Launch) (hl : l.stackTraces = false) (M : Mem) (v0 : Nat) (v1 : Int32) (o : Option Int32 × Mem) (ho : f_X8_greedyLimit M v0 v1 = some o) : Cx l yX8_greedyLimit cX8_greedyLimit 4 (some .int) rm_X8_greedyLimit [.ref v0, .int v1] M (o.1.map fun v => some (.int v)) o.2 :=
  Cx.of hl (by decide +kernel) (Nat.le_of_ble_eq_true rfl) rfl (fun X hX hT => z_X8_greedyLimit hX hT M v0 v1 o ho)
theorem okV_X8_greedyLimit : okV yX8_greedyLimit cX8_greedyLimit 4 (some .int) 1 := ⟨q_1209, q_1210, q_86, q_1211, by unfold okY; decide +kernel⟩
/-! ParticipatoryBudget.change(III)I -/
abbrev rm_X8_change : Room := { frames := 3, cells := 0, slots := 0, locals := 86 }
set_option maxRecDepth 20000 in
set_option maxHeartbeats 4000000 in
theorem z_X8_change {X : Cxt} (hX : okX X cX8_change RX8 rm_X8_change (some .int) 5) (M : Mem) (v0 : Nat) (v1 : Int32) (v2 : Int32) (v3 : Int32) : Zj X (fun o : Int32 × Mem => Qr X rm_X8_change.cells rm_X8_change.slots (some (.int o.1)) o.2) 0 0 0 [(0, .ref v0), (1, .int v1), (2, .int v2), (3, .int v3)] [] M (f_X8_change M v0 v1 v2 v3) := by
  unfold f_X8_change
  refine z_aload_n hX 0 rfl rfl dX8_change_0 ?_
  refine z_gFR 8 2 hX (by decide) rfl (by decide) rfl q_419 dX8_change_1 (fun r1 => ?_)
  refine z_aload_n hX 0 rfl rfl dX8_change_4 ?_
  refine z_gFR 8 8 hX (by decide) rfl (by decide) rfl q_425 dX8_change_5 (fun r2 => ?_)
  refine z_iload_n hX 1 rfl rfl dX8_change_8 ?_
  refine z_iload_n hX 2 rfl rfl dX8_change_9 ?_
  refine z_iload_n hX 3 rfl rfl dX8_change_10 ?_
  refine z_cVIm 3 [.ref r2, .int v1, .int v2, .int v3] hX (fun l hl o ho => c_X3_change l hl M r1 r2 v1 v2 v3 o ho) dX8_change_11 (by decide) rfl rfl q_949 okV_X3_change rfl ⟨(Nat.le_of_ble_eq_true rfl), (Nat.le_of_ble_eq_true rfl)⟩ rfl (Nat.le_of_ble_eq_true rfl) rfl rfl ⟨(Nat.le_of_ble_eq_true rfl), (Nat.le_of_ble_eq_true rfl)⟩ (fun o3 => ?_)
  refine z_istore hX [(4, .int o3.1), (0, .ref v0), (1, .int v1), (2, .int v2), (3, .int v3)] (by decide) rfl dX8_change_14 ?_
  refine z_aload_n hX 1 rfl rfl dX8_change_16 ?_
  refine z_cVVm 8 [] hX (fun l hl o ho => c_X8_settle l hl o3.2 v0 o ho) dX8_change_17 (by decide) rfl rfl q_615 okV_X8_settle rfl ⟨(Nat.le_of_ble_eq_true rfl), (Nat.le_of_ble_eq_true rfl)⟩ rfl (Nat.le_of_ble_eq_true rfl) rfl rfl ⟨(Nat.le_of_ble_eq_true rfl), (Nat.le_of_ble_eq_true rfl)⟩ (fun o4 => ?_)
  refine z_iload hX 0 rfl dX8_change_20 ?_
  exact z_iretM hX dX8_change_22 (Nat.le_of_ble_eq_true rfl) (Nat.le_of_ble_eq_true rfl)
theorem c_X8_change (l : Launch) (hl : l.stackTraces = false) (M : Mem) (v0 : Nat) (v1 : Int32) (v2 : Int32) (v3 : Int32) (o : Int32 × Mem) (ho : f_X8_change M v0 v1 v2 v3 = some o) : Ct l yX8_change cX8_change 5 (some .int) rm_X8_change [.ref v0, .int v1, .int v2, .int v3] M (some (.int o.1)) o.2 :=
  Ct.of hl (by decide +kernel) (Nat.le_of_ble_eq_true rfl) rfl (fun X hX hin => z_X8_change hX M v0 v1 v2 v3 o ho)
theorem okV_X8_change : okV yX8_change cX8_change 5 (some .int) 3 := ⟨q_947, q_21, q_86, q_948, by unfold okY; decide +kernel⟩
