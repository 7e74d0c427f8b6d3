/-! ParticipatoryBudget$Rounds.run(LParticipatoryBudget$Ballot;I)V -/
abbrev rm_X6_run : Room := { frames := 3, cells := 0, slots := 0, locals := 77 }
set_option maxRecDepth 20000 in
set_option maxHeartbeats 4000000 in
theorem z_X6_run {X : Cxt} (hX : okX X cX6_run RX6 rm_X6_run (none) 5) (M : Mem) (v0 : Nat) (v1 : Nat) (v2 : Int32) : Zj X (fun o : Mem => Qr X rm_X6_run.cells rm_X6_run.slots (none) o) 0 0 0 [(0, .ref v0), (1, .ref v1), (2, .int v2)] [] M (f_X6_run M v0 v1 v2) := by
  unfold f_X6_run
  refine z_aload_n hX 0 rfl rfl dX6_run_0 ?_
  refine z_cVVm 6 [] hX (fun l hl o ho => c_X6_clear l hl M v0 o ho) dX6_run_1 (by decide) rfl rfl q_674 okV_X6_clear rfl ⟨(Nat.le_of_ble_eq_true rfl), (Nat.le_of_ble_eq_true rfl)⟩ rfl (Nat.le_of_ble_eq_true rfl) rfl rfl ⟨(Nat.le_of_ble_eq_true rfl), (Nat.le_of_ble_eq_true rfl)⟩ (fun o1 => ?_)
  refine z_aload_n hX 0 rfl rfl dX6_run_4 ?_
  refine z_aload_n hX 1 rfl rfl dX6_run_5 ?_
  refine z_iload_n hX 2 rfl rfl dX6_run_6 ?_
  refine z_cVVm 6 [.ref v1, .int v2] hX (fun l hl o ho => c_X6_fillPurses l hl o1 v0 v1 v2 o ho) dX6_run_7 (by decide) rfl rfl q_681 okV_X6_fillPurses rfl ⟨(Nat.le_of_ble_eq_true rfl), (Nat.le_of_ble_eq_true rfl)⟩ rfl (Nat.le_of_ble_eq_true rfl) rfl rfl ⟨(Nat.le_of_ble_eq_true rfl), (Nat.le_of_ble_eq_true rfl)⟩ (fun o2 => ?_)
  refine z_iconst (v := 0) hX (by decide) dX6_run_10 ?_
  refine z_istore_n hX [(3, .int 0), (0, .ref v0), (1, .ref v1), (2, .int v2)] rfl (by decide) rfl dX6_run_11 ?_
  refine z_sub [1, 2, 0] rfl ?_
  refine z_lp (x0 := (0, o2)) (bd_X6_run_12 v0 v1) 12 56 (fun (u3 : Int32 × Mem) => [(0, .ref v0), (1, .ref v1), (3, .int u3.1)]) (fun (e4 : Int32 × Mem) => []) (fun (u3 : Int32 × Mem) => u3.2) ?_ ?_
  · intro e4
    exact z_vretM hX dX6_run_56 (Nat.le_of_ble_eq_true rfl) (Nat.le_of_ble_eq_true rfl)
  · intro kk5 rc6 hkk5 hrc6 u3
    unfold bd_X6_run_12
    refine z_iload_n hX 2 rfl rfl dX6_run_12 ?_
    refine z_aload_n hX 1 rfl rfl dX6_run_13 ?_
    refine z_gFI 0 1 hX (by decide) rfl (by decide) rfl q_326 dX6_run_14 (fun x7 => ?_)
    refine z_icmp_gt hX 56 (by decide) dX6_run_17 (fun _ => ?_) (fun _ => ?_)
    · refine z_sub [] rfl ?_
      exact hkk5 (u3.1, u3.2)
    · refine z_aload_n hX 0 rfl rfl dX6_run_20 ?_
      refine z_aload_n hX 1 rfl rfl dX6_run_21 ?_
      refine z_iload_n hX 2 rfl rfl dX6_run_22 ?_
      refine z_cVIm 6 [.ref v1, .int u3.1] hX (fun l hl o ho => c_X6_choose l hl u3.2 v0 v1 u3.1 o ho) dX6_run_23 (by decide) rfl rfl q_694 okV_X6_choose rfl ⟨(Nat.le_of_ble_eq_true rfl), (Nat.le_of_ble_eq_true rfl)⟩ rfl (Nat.le_of_ble_eq_true rfl) rfl rfl ⟨(Nat.le_of_ble_eq_true rfl), (Nat.le_of_ble_eq_true rfl)⟩ (fun o8 => ?_)
      refine z_istore hX [(4, .int o8.1), (0, .ref v0), (1, .ref v1), (3, .int u3.1)] (by decide) rfl dX6_run_26 ?_
      refine z_iload hX 0 rfl dX6_run_28 ?_
      refine z_if_ge hX 34 (by decide) dX6_run_30 (fun _ => ?_) (fun _ => ?_)
      · refine z_aload_n hX 1 rfl rfl dX6_run_34 ?_
        refine z_aload_n hX 2 rfl rfl dX6_run_35 ?_
        refine z_iload hX 0 rfl dX6_run_36 ?_
        refine z_aload_n hX 1 rfl rfl dX6_run_38 ?_
        refine z_gFR 6 3 hX (by decide) rfl (by decide) rfl q_196 dX6_run_39 (fun r9 => ?_)
        refine z_iload hX 0 rfl dX6_run_42 ?_
        refine z_aR hX dX6_run_44 (fun r10 => ?_)
        refine z_iload_n hX 3 rfl rfl dX6_run_45 ?_
        refine z_aI hX dX6_run_46 (fun x11 => ?_)
        refine z_cVVm 6 [.ref v1, .int o8.1, .int x11] hX (fun l hl o ho => c_X6_fund l hl o8.2 v0 v1 o8.1 x11 o ho) dX6_run_47 (by decide) rfl rfl q_714 okV_X6_fund rfl ⟨(Nat.le_of_ble_eq_true rfl), (Nat.le_of_ble_eq_true rfl)⟩ rfl (Nat.le_of_ble_eq_true rfl) rfl rfl ⟨(Nat.le_of_ble_eq_true rfl), (Nat.le_of_ble_eq_true rfl)⟩ (fun o12 => ?_)
        refine z_iinc hX 3 [(3, .int (u3.1 + 1)), (4, .int o8.1), (0, .ref v0), (1, .ref v1)] rfl rfl (by decide) rfl dX6_run_50 ?_
        refine z_goto hX 12 (by decide) dX6_run_53 ?_
        refine z_sub [2, 3, 0] rfl ?_
        exact hrc6 (u3.1 + 1, o12)
      · exact z_vretM hX dX6_run_33 (Nat.le_of_ble_eq_true rfl) (Nat.le_of_ble_eq_true rfl)
theorem c_X6_run (l : Launch) (hl : l.stackTraces = false) (M : Mem) (v0 : Nat) (v1 : Nat) (v2 : Int32) (o : Mem) (ho : f_X6_run M v0 v1 v2 = some o) : Ct l yX6_run cX6_run 5 (none) rm_X6_run [.ref v0, .ref v1, .int v2] M (none) o :=
  Ct.of hl (by decide +kernel) (Nat.le_of_ble_eq_true rfl) rfl (fun X hX hin => z_X6_run hX M v0 v1 v2 o ho)
theorem okV_X6_run : okV yX6_run cX6_run 5 (none) 2 := ⟨q_671, q_672, q_91, q_673, by unfold okY; decide +kernel⟩
/-! ParticipatoryBudget$Rounds.takenFrom(I)I -/
abbrev rm_X6_takenFrom : Room := { frames := 0, cells := 0, slots := 0, locals := 0 }
set_option maxRecDepth 20000 in
set_option maxHeartbeats 4000000 in
theorem z_X6_takenFrom {X : Cxt} (hX : okX X cX6_takenFrom RX6 rm_X6_takenFrom (some .int) 4) (M : Mem) (v0 : Nat) (v1 : Int32) : Zj X (fun o : Int32 => Qr X rm_X6_takenFrom.cells rm_X6_takenFrom.slots (some (.int o)) M) 0 0 0 [(0, .ref v0), (1, .int v1)] [] M (f_X6_takenFrom M v0 v1) := by
  unfold f_X6_takenFrom
  refine z_iconst (v := 0) hX (by decide) dX6_takenFrom_0 ?_
  refine z_istore_n hX [(2, .int 0), (0, .ref v0), (1, .int v1)] rfl (by decide) rfl dX6_takenFrom_1 ?_
  refine z_iconst (v := 0) hX (by decide) dX6_takenFrom_2 ?_
  refine z_istore_n hX [(3, .int 0), (2, .int 0), (0, .ref v0), (1, .int v1)] rfl (by decide) rfl dX6_takenFrom_3 ?_
  refine z_sub [2, 3, 1, 0] rfl ?_
  refine z_lp (x0 := (0, 0)) (bd_X6_takenFrom_4 M v0 v1) 4 27 (fun (u1 : Int32 × Int32) => [(0, .ref v0), (1, .int v1), (2, .int u1.1), (3, .int u1.2)]) (fun (e2 : Int32 × Int32) => [(2, .int e2.1)]) (fun (u1 : Int32 × Int32) => M) ?_ ?_
  · intro e2
    refine z_iload_n hX 0 rfl rfl dX6_takenFrom_27 ?_
    exact z_iretP hX dX6_takenFrom_28 (Nat.le_of_ble_eq_true rfl) (Nat.le_of_ble_eq_true rfl)
  · intro kk3 rc4 hkk3 hrc4 u1
    unfold bd_X6_takenFrom_4
    refine z_iload_n hX 3 rfl rfl dX6_takenFrom_4 ?_
    refine z_bipush (v := 12) hX (by decide) dX6_takenFrom_5 ?_
    refine z_icmp_ge hX 27 (by decide) dX6_takenFrom_7 (fun _ => ?_) (fun _ => ?_)
    · refine z_sub [2] rfl ?_
      exact hkk3 (u1.1, u1.2)
    · refine z_iload_n hX 2 rfl rfl dX6_takenFrom_10 ?_
      refine z_aload_n hX 0 rfl rfl dX6_takenFrom_11 ?_
      refine z_gFR 6 2 hX (by decide) rfl (by decide) rfl q_194 dX6_takenFrom_12 (fun r5 => ?_)
      refine z_iload_n hX 3 rfl rfl dX6_takenFrom_15 ?_
      refine z_aR hX dX6_takenFrom_16 (fun r6 => ?_)
      refine z_iload_n hX 1 rfl rfl dX6_takenFrom_17 ?_
      refine z_aI hX dX6_takenFrom_18 (fun x7 => ?_)
      refine z_iadd hX dX6_takenFrom_19 ?_
      refine z_ltI (fun x8 => ?_)
      refine z_istore_n hX [(2, .int x8), (0, .ref v0), (1, .int v1), (3, .int u1.2)] rfl (by decide) rfl dX6_takenFrom_20 ?_
      refine z_iinc hX 3 [(3, .int (u1.2 + 1)), (2, .int x8), (0, .ref v0), (1, .int v1)] rfl rfl (by decide) rfl dX6_takenFrom_21 ?_
      refine z_goto hX 4 (by decide) dX6_takenFrom_24 ?_
      refine z_sub [2, 3, 1, 0] rfl ?_
      exact hrc4 (x8, u1.2 + 1)
theorem c_X6_takenFrom (l : Launch) (hl : l.stackTraces = false) (M : Mem) (v0 : Nat) (v1 : Int32) (o : Int32) (ho : f_X6_takenFrom M v0 v1 = some o) : Ct l yX6_takenFrom cX6_takenFrom 4 (some .int) rm_X6_takenFrom [.ref v0, .int v1] M (some (.int o)) M :=
  Ct.of hl (by decide +kernel) (Nat.le_of_ble_eq_true rfl) rfl (fun X hX hin => z_X6_takenFrom hX M v0 v1 o ho)
theorem okV_X6_takenFrom : okV yX6_takenFrom cX6_takenFrom 4 (some .int) 1 := ⟨q_732, q_733, q_91, q_734, by unfold okY; decide +kernel⟩
/-! ParticipatoryBudget$Rounds.overspends(LParticipatoryBudget$Ballot;)Z -/
abbrev rm_X6_overspends : Room := { frames := 1, cells := 0, slots := 0, locals := 23 }
set_option maxRecDepth 20000 in
set_option maxHeartbeats 4000000 in
theorem z_X6_overspends {X : Cxt} (hX : okX X cX6_overspends RX6 rm_X6_overspends (some .boolean) 3) (M : Mem) (v0 : Nat) (v1 : Nat) : Zj X (fun o : Int32 => Qr X rm_X6_overspends.cells rm_X6_overspends.slots (some (.int o)) M) 0 0 0 [(0, .ref v0), (1, .ref v1)] [] M (f_X6_overspends M v0 v1) := by
  unfold f_X6_overspends
  refine z_iconst (v := 0) hX (by decide) dX6_overspends_0 ?_
  refine z_istore_n hX [(2, .int 0), (0, .ref v0), (1, .ref v1)] rfl (by decide) rfl dX6_overspends_1 ?_
  refine z_sub [1, 2, 0] rfl ?_
  refine z_lp (x0 := 0) (bd_X6_overspends_2 M v0 v1) 2 32 (fun (u1 : Int32) => [(0, .ref v0), (1, .ref v1), (2, .int u1)]) (fun (e2 : Int32) => []) (fun (u1 : Int32) => M) ?_ ?_
  · intro e2
    refine z_iconst (v := 0) hX (by decide) dX6_overspends_32 ?_
    exact z_zretP hX dX6_overspends_33 (Nat.le_of_ble_eq_true rfl) (Nat.le_of_ble_eq_true rfl)
  · intro kk3 rc4 hkk3 hrc4 u1
    unfold bd_X6_overspends_2
    refine z_iload_n hX 2 rfl rfl dX6_overspends_2 ?_
    refine z_aload_n hX 1 rfl rfl dX6_overspends_3 ?_
    refine z_gFI 0 0 hX (by decide) rfl (by decide) rfl q_321 dX6_overspends_4 (fun x5 => ?_)
    refine z_icmp_ge hX 32 (by decide) dX6_overspends_7 (fun _ => ?_) (fun _ => ?_)
    · refine z_sub [] rfl ?_
      exact hkk3 u1
    · refine z_aload_n hX 0 rfl rfl dX6_overspends_10 ?_
      refine z_iload_n hX 2 rfl rfl dX6_overspends_11 ?_
      refine z_cVIp 6 [.int u1] hX (fun l hl o ho => c_X6_takenFrom l hl M v0 u1 o ho) dX6_overspends_12 (by decide) rfl rfl q_731 okV_X6_takenFrom rfl ⟨(Nat.le_of_ble_eq_true rfl), (Nat.le_of_ble_eq_true rfl)⟩ rfl (Nat.le_of_ble_eq_true rfl) rfl rfl ⟨(Nat.le_of_ble_eq_true rfl), (Nat.le_of_ble_eq_true rfl)⟩ (fun o6 => ?_)
      refine z_aload_n hX 1 rfl rfl dX6_overspends_15 ?_
      refine z_gFR 0 4 hX (by decide) rfl (by decide) rfl q_344 dX6_overspends_16 (fun r7 => ?_)
      refine z_iload_n hX 2 rfl rfl dX6_overspends_19 ?_
      refine z_aI hX dX6_overspends_20 (fun x8 => ?_)
      refine z_icmp_le hX 26 (by decide) dX6_overspends_21 (fun _ => ?_) (fun _ => ?_)
      · refine z_iinc hX 2 [(2, .int (u1 + 1)), (0, .ref v0), (1, .ref v1)] rfl rfl (by decide) rfl dX6_overspends_26 ?_
        refine z_goto hX 2 (by decide) dX6_overspends_29 ?_
        refine z_sub [1, 2, 0] rfl ?_
        exact hrc4 (u1 + 1)
      · refine z_iconst (v := 1) hX (by decide) dX6_overspends_24 ?_
        exact z_zretP hX dX6_overspends_25 (Nat.le_of_ble_eq_true rfl) (Nat.le_of_ble_eq_true rfl)
theorem c_X6_overspends (l : Launch) (hl : l.stackTraces = false) (M : Mem) (v0 : Nat) (v1 : Nat) (o : Int32) (ho : f_X6_overspends M v0 v1 = some o) : Ct l yX6_overspends cX6_overspends 3 (some .boolean) rm_X6_overspends [.ref v0, .ref v1] M (some (.int o)) M :=
  Ct.of hl (by decide +kernel) (Nat.le_of_ble_eq_true rfl) rfl (fun X hX hin => z_X6_overspends hX M v0 v1 o ho)
theorem okV_X6_overspends : okV yX6_overspends cX6_overspends 3 (some .boolean) 1 := ⟨q_728, q_729, q_91, q_730, by unfold okY; decide +kernel⟩
/-! ParticipatoryBudget$EqualShares.keepTrial()V -/
abbrev rm_X1_keepTrial : Room := { frames := 0, cells := 0, slots := 0, locals := 0 }
set_option maxRecDepth 20000 in
set_option maxHeartbeats 4000000 in
theorem z_X1_keepTrial {X : Cxt} (hX : okX X cX1_keepTrial RX1 rm_X1_keepTrial (none) 2) (M : Mem) (v0 : Nat) : Zj X (fun o : Mem => Qr X rm_X1_keepTrial.cells rm_X1_keepTrial.slots (none) o) 0 0 0 [(0, .ref v0)] [] M (f_X1_keepTrial M v0) := by
  unfold f_X1_keepTrial
  refine z_aload_n hX 0 rfl rfl dX1_keepTrial_0 ?_
  refine z_gFR 1 0 hX (by decide) rfl (by decide) rfl q_255 dX1_keepTrial_1 (fun r1 => ?_)
  refine z_astore_n hX [(1, .ref r1), (0, .ref v0)] rfl (by decide) rfl dX1_keepTrial_4 ?_
  refine z_aload_n hX 1 rfl rfl dX1_keepTrial_5 ?_
  refine z_aload_n hX 1 rfl rfl dX1_keepTrial_6 ?_
  refine z_gFR 1 1 hX (by decide) rfl (by decide) rfl q_257 dX1_keepTrial_7 (fun r2 => ?_)
  refine z_pFR 1 0 hX (by decide) rfl (by decide) rfl q_255 rfl pd_3 rfl rfl dX1_keepTrial_10 (fun M3 => ?_)
  refine z_aload_n hX 1 rfl rfl dX1_keepTrial_13 ?_
  refine z_aload_n hX 0 rfl rfl dX1_keepTrial_14 ?_
  refine z_pFR 1 1 hX (by decide) rfl (by decide) rfl q_257 rfl pd_3 rfl rfl dX1_keepTrial_15 (fun M4 => ?_)
  exact z_vretM hX dX1_keepTrial_18 (Nat.le_of_ble_eq_true rfl) (Nat.le_of_ble_eq_true rfl)
theorem c_X1_keepTrial (l : Launch) (hl : l.stackTraces = false) (M : Mem) (v0 : Nat) (o : Mem) (ho : f_X1_keepTrial M v0 = some o) : Ct l yX1_keepTrial cX1_keepTrial 2 (none) rm_X1_keepTrial [.ref v0] M (none) o :=
  Ct.of hl (by decide +kernel) (Nat.le_of_ble_eq_true rfl) rfl (fun X hX hin => z_X1_keepTrial hX M v0 o ho)
theorem okV_X1_keepTrial : okV yX1_keepTrial cX1_keepTrial 2 (none) 0 := ⟨q_737, q_13, q_90, q_738, by unfold okY; decide +kernel⟩
/-! ParticipatoryBudget$Greedy.begin(LParticipatoryBudget$Ballot;)V -/
abbrev rm_X2_begin : Room := { frames := 1, cells := 0, slots := 0, locals := 40 }
set_option maxRecDepth 20000 in
set_option maxHeartbeats 4000000 in
theorem z_X2_begin {X : Cxt} (hX : okX X cX2_begin RX2 rm_X2_begin (none) 3) (M : Mem) (v0 : Nat) (v1 : Nat) : Zj X (fun o : Mem => Qr X rm_X2_begin.cells rm_X2_begin.slots (none) o) 0 0 0 [(0, .ref v0), (1, .ref v1)] [] M (f_X2_begin M v0 v1) := by
  unfold f_X2_begin
  refine z_aload_n hX 0 rfl rfl dX2_begin_0 ?_
  refine z_iconst (v := 0) hX (by decide) dX2_begin_1 ?_
  refine z_pFI 2 3 hX (by decide) rfl (by decide) rfl q_240 rfl pd_1 rfl rfl dX2_begin_2 (fun M1 => ?_)
  refine z_aload_n hX 0 rfl rfl dX2_begin_5 ?_
  refine z_iconst (v := 0) hX (by decide) dX2_begin_6 ?_
  refine z_pFI 2 4 hX (by decide) rfl (by decide) rfl q_241 rfl pd_1 rfl rfl dX2_begin_7 (fun M2 => ?_)
  refine z_aload_n hX 1 rfl rfl dX2_begin_10 ?_
  refine z_gFR 0 4 hX (by decide) rfl (by decide) rfl q_340 dX2_begin_11 (fun r3 => ?_)
  refine z_iconst (v := 0) hX (by decide) dX2_begin_14 ?_
  refine z_aload_n hX 0 rfl rfl dX2_begin_15 ?_
  refine z_gFR 2 0 hX (by decide) rfl (by decide) rfl q_234 dX2_begin_16 (fun r4 => ?_)
  refine z_iconst (v := 0) hX (by decide) dX2_begin_19 ?_
  refine z_iconst (v := 4) hX (by decide) dX2_begin_20 ?_
  refine z_cpI hX dX2_begin_21 q_747 q_317 q_316 q_95 (Nat.le_of_ble_eq_true rfl) (Nat.le_of_ble_eq_true rfl) (fun M5 => ?_)
  refine z_iconst (v := 0) hX (by decide) dX2_begin_24 ?_
  refine z_istore_n hX [(2, .int 0), (0, .ref v0), (1, .ref v1)] rfl (by decide) rfl dX2_begin_25 ?_
  refine z_sub [1, 0] rfl ?_
  refine z_lp (x0 := (0, M5)) (bd_X2_begin_26 v0) 26 48 (fun (u6 : Int32 × Mem) => [(0, .ref v0), (2, .int u6.1)]) (fun (e7 : Int32 × Mem) => []) (fun (u6 : Int32 × Mem) => u6.2) ?_ ?_
  · intro e7
    exact z_vretM hX dX2_begin_48 (Nat.le_of_ble_eq_true rfl) (Nat.le_of_ble_eq_true rfl)
  · intro kk8 rc9 hkk8 hrc9 u6
    unfold bd_X2_begin_26
    refine z_iload_n hX 1 rfl rfl dX2_begin_26 ?_
    refine z_bipush (v := 12) hX (by decide) dX2_begin_27 ?_
    refine z_icmp_ge hX 48 (by decide) dX2_begin_29 (fun _ => ?_) (fun _ => ?_)
    · refine z_sub [] rfl ?_
      exact hkk8 (u6.1, u6.2)
    · refine z_aload_n hX 0 rfl rfl dX2_begin_32 ?_
      refine z_gFR 2 1 hX (by decide) rfl (by decide) rfl q_237 dX2_begin_33 (fun r10 => ?_)
      refine z_iload_n hX 1 rfl rfl dX2_begin_36 ?_
      refine z_aR hX dX2_begin_37 (fun r11 => ?_)
      refine z_iconst (v := 0) hX (by decide) dX2_begin_38 ?_
      refine z_cSVm [.ref r11, .int 0] hX (fun l hl o ho => c_J7_fill_53178 l hl u6.2 r11 0 o ho) dX2_begin_39 q_748 okS_J7_fill_53178 rfl ⟨(Nat.le_of_ble_eq_true rfl), (Nat.le_of_ble_eq_true rfl)⟩ rfl (Nat.le_of_ble_eq_true rfl) rfl rfl ⟨(Nat.le_of_ble_eq_true rfl), (Nat.le_of_ble_eq_true rfl)⟩ (fun o12 => ?_)
      refine z_iinc hX 1 [(2, .int (u6.1 + 1)), (0, .ref v0)] rfl rfl (by decide) rfl dX2_begin_42 ?_
      refine z_goto hX 26 (by decide) dX2_begin_45 ?_
      refine z_sub [1, 0] rfl ?_
      exact hrc9 (u6.1 + 1, o12)
theorem c_X2_begin (l : Launch) (hl : l.stackTraces = false) (M : Mem) (v0 : Nat) (v1 : Nat) (o : Mem) (ho : f_X2_begin M v0 v1 = some o) : Ct l yX2_begin cX2_begin 3 (none) rm_X2_begin [.ref v0, .ref v1] M (none) o :=
  Ct.of hl (by decide +kernel) (Nat.le_of_ble_eq_true rfl) rfl (fun X hX hin => z_X2_begin hX M v0 v1 o ho)
theorem okV_X2_begin : okV yX2_begin cX2_begin 3 (none) 1 := ⟨q_744, q_745, q_92, q_746, by unfold okY; decide +kernel⟩
/-! ParticipatoryBudget$Greedy.first(LParticipatoryBudget$Ballot;I)I -/
abbrev rm_X2_first : Room := { frames := 1, cells := 0, slots := 0, locals := 23 }
set_option maxRecDepth 20000 in
set_option maxHeartbeats 4000000 in
theorem z_X2_first {X : Cxt} (hX : okX X cX2_first RX2 rm_X2_first (some .int) 4) (M : Mem) (v0 : Nat) (v1 : Int32) : Zj X (fun o : Int32 => Qr X rm_X2_first.cells rm_X2_first.slots (some (.int o)) M) 0 0 0 [(0, .ref v0), (1, .int v1)] [] M (f_X2_first M v0 v1) := by
  unfold f_X2_first
  refine z_iconst (v := (-1)) hX (by decide) dX2_first_0 ?_
  refine z_ltI (fun x1 => ?_)
  refine z_istore_n hX [(2, .int x1), (0, .ref v0), (1, .int v1)] rfl (by decide) rfl dX2_first_1 ?_
  refine z_iconst (v := 0) hX (by decide) dX2_first_2 ?_
  refine z_istore_n hX [(3, .int 0), (2, .int x1), (0, .ref v0), (1, .int v1)] rfl (by decide) rfl dX2_first_3 ?_
  refine z_sub [2, 3, 1, 0] rfl ?_
  refine z_lp (x0 := (x1, 0)) (bd_X2_first_4 M v0 v1) 4 41 (fun (u2 : Int32 × Int32) => [(0, .ref v0), (1, .int v1), (2, .int u2.1), (3, .int u2.2)]) (fun (e3 : Int32 × Int32) => [(2, .int e3.1)]) (fun (u2 : Int32 × Int32) => M) ?_ ?_
  · intro e3
    refine z_iload_n hX 0 rfl rfl dX2_first_41 ?_
    exact z_iretP hX dX2_first_42 (Nat.le_of_ble_eq_true rfl) (Nat.le_of_ble_eq_true rfl)
  · intro kk4 rc5 hkk4 hrc5 u2
    unfold bd_X2_first_4
    refine z_iload_n hX 3 rfl rfl dX2_first_4 ?_
    refine z_aload_n hX 0 rfl rfl dX2_first_5 ?_
    refine z_gFI 0 1 hX (by decide) rfl (by decide) rfl q_329 dX2_first_6 (fun x6 => ?_)
    refine z_icmp_ge hX 41 (by decide) dX2_first_9 (fun _ => ?_) (fun _ => ?_)
    · refine z_sub [2] rfl ?_
      exact hkk4 (u2.1, u2.2)
    · refine z_iload_n hX 1 rfl rfl dX2_first_12 ?_
      refine z_iload_n hX 3 rfl rfl dX2_first_13 ?_
      refine z_cSNIp [.int v1, .int u2.2] hX (fun l hl o ho => c_X8_has l hl M v1 u2.2 o ho) dX2_first_14 nw_16 okS_X8_has rfl ⟨(Nat.le_of_ble_eq_true rfl), (Nat.le_of_ble_eq_true rfl)⟩ rfl (Nat.le_of_ble_eq_true rfl) rfl rfl ⟨(Nat.le_of_ble_eq_true rfl), (Nat.le_of_ble_eq_true rfl)⟩ (fun o7 => ?_)
      refine z_jn (C' := 0) (S' := 0) 35 (fun (j8 : Int32) => [(0, .ref v0), (1, .int v1), (2, .int j8), (3, .int u2.2)]) (fun (j8 : Int32) => []) (fun (j8 : Int32) => M) (fun j8 => ?_) (fun kj8 => ?_)
      · refine z_iinc hX 3 [(3, .int (u2.2 + 1)), (0, .ref v0), (1, .int v1), (2, .int j8)] rfl rfl (by decide) rfl dX2_first_35 ?_
        refine z_goto hX 4 (by decide) dX2_first_38 ?_
        refine z_sub [1, 2, 3, 0] rfl ?_
        exact hrc5 (j8, u2.2 + 1)
      · refine z_iteB ?_
        refine z_if_eq hX 35 (by decide) dX2_first_17 (fun _ => ?_) (fun _ => ?_)
        · refine z_pure ?_
          refine z_sub [0, 1, 2, 3] rfl ?_
          exact kj8 u2.1
        · refine z_iload_n hX 2 rfl rfl dX2_first_20 ?_
          refine z_iteB ?_
          refine z_if_lt hX 33 (by decide) dX2_first_21 (fun _ => ?_) (fun _ => ?_)
          · refine z_iload_n hX 3 rfl rfl dX2_first_33 ?_
            refine z_istore_n hX [(2, .int u2.2), (0, .ref v0), (1, .int v1), (3, .int u2.2)] rfl (by decide) rfl dX2_first_34 ?_
            refine z_pure ?_
            refine z_sub [1, 2, 0, 3] rfl ?_
            exact kj8 u2.2
          · refine z_aload_n hX 0 rfl rfl dX2_first_24 ?_
            refine z_iload_n hX 3 rfl rfl dX2_first_25 ?_
            refine z_iload_n hX 2 rfl rfl dX2_first_26 ?_
            refine z_asc ?_
            refine z_asc2 ?_
            refine z_cVIp 0 [.int u2.2, .int u2.1] hX (fun l hl o ho => c_X0_goesBefore l hl M v0 u2.2 u2.1 o ho) dX2_first_27 (by decide) rfl rfl q_758 okV_X0_goesBefore rfl ⟨(Nat.le_of_ble_eq_true rfl), (Nat.le_of_ble_eq_true rfl)⟩ rfl (Nat.le_of_ble_eq_true rfl) rfl rfl ⟨(Nat.le_of_ble_eq_true rfl), (Nat.le_of_ble_eq_true rfl)⟩ (fun o9 => ?_)
            refine z_iteB ?_
            refine z_if_eq hX 35 (by decide) dX2_first_30 (fun _ => ?_) (fun _ => ?_)
            · refine z_pure ?_
              refine z_sub [0, 1, 2, 3] rfl ?_
              exact kj8 u2.1
            · refine z_iload_n hX 3 rfl rfl dX2_first_33 ?_
              refine z_istore_n hX [(2, .int u2.2), (0, .ref v0), (1, .int v1), (3, .int u2.2)] rfl (by decide) rfl dX2_first_34 ?_
              refine z_pure ?_
              refine z_sub [1, 2, 0, 3] rfl ?_
              exact kj8 u2.2
theorem c_X2_first (l : Launch) (hl : l.stackTraces = false) (M : Mem) (v0 : Nat) (v1 : Int32) (o : Int32) (ho : f_X2_first M v0 v1 = some o) : Ct l yX2_first cX2_first 4 (some .int) rm_X2_first [.ref v0, .int v1] M (some (.int o)) M :=
  Ct.of hl (by decide +kernel) (Nat.le_of_ble_eq_true rfl) rfl (fun X hX hin => z_X2_first hX M v0 v1 o ho)
theorem okS_X2_first : okS yX2_first cX2_first 4 (some .int) 2 := ⟨q_755, q_92, q_756, by unfold okY; decide +kernel⟩
/-! ParticipatoryBudget$Greedy.leftIn(I)I -/
abbrev rm_X2_leftIn : Room := { frames := 1, cells := 0, slots := 0, locals := 21 }
set_option maxRecDepth 20000 in
set_option maxHeartbeats 4000000 in
theorem z_X2_leftIn {X : Cxt} (hX : okX X cX2_leftIn RX2 rm_X2_leftIn (some .int) 4) (M : Mem) (v0 : Nat) (v1 : Int32) : Zj X (fun o : Int32 => Qr X rm_X2_leftIn.cells rm_X2_leftIn.slots (some (.int o)) M) 0 0 0 [(0, .ref v0), (1, .int v1)] [] M (f_X2_leftIn M v0 v1) := by
  unfold f_X2_leftIn
  refine z_iconst (v := 0) hX (by decide) dX2_leftIn_0 ?_
  refine z_istore_n hX [(2, .int 0), (0, .ref v0), (1, .int v1)] rfl (by decide) rfl dX2_leftIn_1 ?_
  refine z_iconst (v := 0) hX (by decide) dX2_leftIn_2 ?_
  refine z_istore_n hX [(3, .int 0), (2, .int 0), (0, .ref v0), (1, .int v1)] rfl (by decide) rfl dX2_leftIn_3 ?_
  refine z_sub [2, 3, 1, 0] rfl ?_
  refine z_lp (x0 := (0, 0)) (bd_X2_leftIn_4 M v0 v1) 4 32 (fun (u1 : Int32 × Int32) => [(0, .ref v0), (1, .int v1), (2, .int u1.1), (3, .int u1.2)]) (fun (e2 : Int32 × Int32) => [(2, .int e2.1)]) (fun (u1 : Int32 × Int32) => M) ?_ ?_
  · intro e2
    refine z_iload_n hX 0 rfl rfl dX2_leftIn_32 ?_
    exact z_iretP hX dX2_leftIn_33 (Nat.le_of_ble_eq_true rfl) (Nat.le_of_ble_eq_true rfl)
  · intro kk3 rc4 hkk3 hrc4 u1
    unfold bd_X2_leftIn_4
    refine z_iload_n hX 3 rfl rfl dX2_leftIn_4 ?_
    refine z_iconst (v := 4) hX (by decide) dX2_leftIn_5 ?_
    refine z_icmp_ge hX 32 (by decide) dX2_leftIn_6 (fun _ => ?_) (fun _ => ?_)
    · refine z_sub [2] rfl ?_
      exact hkk3 (u1.1, u1.2)
    · refine z_iload_n hX 1 rfl rfl dX2_leftIn_9 ?_
      refine z_iload_n hX 3 rfl rfl dX2_leftIn_10 ?_
      refine z_cSNIp [.int v1, .int u1.2] hX (fun l hl o ho => c_X8_has l hl M v1 u1.2 o ho) dX2_leftIn_11 nw_16 okS_X8_has rfl ⟨(Nat.le_of_ble_eq_true rfl), (Nat.le_of_ble_eq_true rfl)⟩ rfl (Nat.le_of_ble_eq_true rfl) rfl rfl ⟨(Nat.le_of_ble_eq_true rfl), (Nat.le_of_ble_eq_true rfl)⟩ (fun o5 => ?_)
      refine z_jn (C' := 0) (S' := 0) 26 (fun (j6 : Int32) => [(0, .ref v0), (1, .int v1), (2, .int j6), (3, .int u1.2)]) (fun (j6 : Int32) => []) (fun (j6 : Int32) => M) (fun j6 => ?_) (fun kj6 => ?_)
      · refine z_iinc hX 3 [(3, .int (u1.2 + 1)), (0, .ref v0), (1, .int v1), (2, .int j6)] rfl rfl (by decide) rfl dX2_leftIn_26 ?_
        refine z_goto hX 4 (by decide) dX2_leftIn_29 ?_
        refine z_sub [1, 2, 3, 0] rfl ?_
        exact hrc4 (j6, u1.2 + 1)
      · refine z_iteB ?_
        refine z_if_eq hX 26 (by decide) dX2_leftIn_14 (fun _ => ?_) (fun _ => ?_)
        · refine z_pure ?_
          refine z_sub [0, 1, 2, 3] rfl ?_
          exact kj6 u1.1
        · refine z_iload_n hX 2 rfl rfl dX2_leftIn_17 ?_
          refine z_aload_n hX 0 rfl rfl dX2_leftIn_18 ?_
          refine z_asc ?_
          refine z_gFR 2 0 hX (by decide) rfl (by decide) rfl q_234 dX2_leftIn_19 (fun r7 => ?_)
          refine z_iload_n hX 3 rfl rfl dX2_leftIn_22 ?_
          refine z_asc ?_
          refine z_aI hX dX2_leftIn_23 (fun x8 => ?_)
          refine z_iadd hX dX2_leftIn_24 ?_
          refine z_ltB ?_
          refine z_ltI (fun x9 => ?_)
          refine z_istore_n hX [(2, .int x9), (0, .ref v0), (1, .int v1), (3, .int u1.2)] rfl (by decide) rfl dX2_leftIn_25 ?_
          refine z_pure ?_
          refine z_sub [1, 2, 0, 3] rfl ?_
          exact kj6 x9
theorem c_X2_leftIn (l : Launch) (hl : l.stackTraces = false) (M : Mem) (v0 : Nat) (v1 : Int32) (o : Int32) (ho : f_X2_leftIn M v0 v1 = some o) : Ct l yX2_leftIn cX2_leftIn 4 (some .int) rm_X2_leftIn [.ref v0, .int v1] M (some (.int o)) M :=
  Ct.of hl (by decide +kernel) (Nat.le_of_ble_eq_true rfl) rfl (fun X hX hin => z_X2_leftIn hX M v0 v1 o ho)
theorem okV_X2_leftIn : okV yX2_leftIn cX2_leftIn 4 (some .int) 1 := ⟨q_764, q_15, q_92, q_765, by unfold okY; decide +kernel⟩
/-! ParticipatoryBudget$Greedy.fund(III)V -/
abbrev rm_X2_fund : Room := { frames := 1, cells := 0, slots := 0, locals := 21 }
set_option maxRecDepth 20000 in
set_option maxHeartbeats 4000000 in
theorem z_X2_fund {X : Cxt} (hX : okX X cX2_fund RX2 rm_X2_fund (none) 7) (M : Mem) (v0 : Nat) (v1 : Int32) (v2 : Int32) (v3 : Int32) : Zj X (fun o : Mem => Qr X rm_X2_fund.cells rm_X2_fund.slots (none) o) 0 0 0 [(0, .ref v0), (1, .int v1), (2, .int v2), (3, .int v3)] [] M (f_X2_fund M v0 v1 v2 v3) := by
  unfold f_X2_fund
  refine z_iload_n hX 3 rfl rfl dX2_fund_0 ?_
  refine z_istore hX [(4, .int v3), (0, .ref v0), (1, .int v1), (2, .int v2), (3, .int v3)] (by decide) rfl dX2_fund_1 ?_
  refine z_iconst (v := 0) hX (by decide) dX2_fund_3 ?_
  refine z_istore hX [(5, .int 0), (4, .int v3), (0, .ref v0), (1, .int v1), (2, .int v2), (3, .int v3)] (by decide) rfl dX2_fund_4 ?_
  refine z_sub [2, 3, 4, 1, 0] rfl ?_
  refine z_lp (x0 := (v3, 0, M)) (bd_X2_fund_6 v0 v1 v2) 6 74 (fun (u1 : Int32 × Int32 × Mem) => [(0, .ref v0), (1, .int v1), (2, .int v2), (4, .int u1.1), (5, .int u1.2.1)]) (fun (e2 : Int32 × Int32 × Mem) => [(0, .ref v0), (1, .int v1)]) (fun (u1 : Int32 × Int32 × Mem) => u1.2.2) ?_ ?_
  · intro e2
    refine z_aload_n hX 0 rfl rfl dX2_fund_74 ?_
    refine z_gFR 2 2 hX (by decide) rfl (by decide) rfl q_239 dX2_fund_75 (fun r18 => ?_)
    refine z_aload_n hX 0 rfl rfl dX2_fund_78 ?_
    refine z_gFI 2 3 hX (by decide) rfl (by decide) rfl q_240 dX2_fund_79 (fun x19 => ?_)
    refine z_iload_n hX 1 rfl rfl dX2_fund_82 ?_
    refine z_wI hX dX2_fund_83 (fun M20 => ?_)
    refine z_aload_n hX 0 rfl rfl dX2_fund_84 ?_
    refine z_dup hX rfl dX2_fund_85 ?_
    refine z_gFI 2 3 hX (by decide) rfl (by decide) rfl q_240 dX2_fund_86 (fun x21 => ?_)
    refine z_iconst (v := 1) hX (by decide) dX2_fund_89 ?_
    refine z_iadd hX dX2_fund_90 ?_
    refine z_pFI 2 3 hX (by decide) rfl (by decide) rfl q_240 rfl pd_1 rfl rfl dX2_fund_91 (fun M22 => ?_)
    refine z_aload_n hX 0 rfl rfl dX2_fund_94 ?_
    refine z_dup hX rfl dX2_fund_95 ?_
    refine z_gFI 2 4 hX (by decide) rfl (by decide) rfl q_241 dX2_fund_96 (fun x23 => ?_)
    refine z_iconst (v := 1) hX (by decide) dX2_fund_99 ?_
    refine z_iload_n hX 1 rfl rfl dX2_fund_100 ?_
    refine z_ishl hX dX2_fund_101 ?_
    refine z_ior hX dX2_fund_102 ?_
    refine z_pFI 2 4 hX (by decide) rfl (by decide) rfl q_241 rfl pd_1 rfl rfl dX2_fund_103 (fun M24 => ?_)
    exact z_vretM hX dX2_fund_106 (Nat.le_of_ble_eq_true rfl) (Nat.le_of_ble_eq_true rfl)
  · intro kk3 rc4 hkk3 hrc4 u1
    unfold bd_X2_fund_6
    refine z_iload hX 4 rfl dX2_fund_6 ?_
    refine z_iconst (v := 4) hX (by decide) dX2_fund_8 ?_
    refine z_icmp_ge hX 74 (by decide) dX2_fund_9 (fun _ => ?_) (fun _ => ?_)
    · refine z_sub [0, 1] rfl ?_
      exact hkk3 (u1.1, u1.2.1, u1.2.2)
    · refine z_iload_n hX 2 rfl rfl dX2_fund_12 ?_
      refine z_iload hX 4 rfl dX2_fund_13 ?_
      refine z_cSNIp [.int v2, .int u1.2.1] hX (fun l hl o ho => c_X8_has l hl u1.2.2 v2 u1.2.1 o ho) dX2_fund_15 nw_16 okS_X8_has rfl ⟨(Nat.le_of_ble_eq_true rfl), (Nat.le_of_ble_eq_true rfl)⟩ rfl (Nat.le_of_ble_eq_true rfl) rfl rfl ⟨(Nat.le_of_ble_eq_true rfl), (Nat.le_of_ble_eq_true rfl)⟩ (fun o5 => ?_)
      refine z_jn (C' := 0) (S' := 0) 68 (fun (j6 : Int32 × Mem) => [(0, .ref v0), (1, .int v1), (2, .int v2), (4, .int j6.1), (5, .int u1.2.1)]) (fun (j6 : Int32 × Mem) => []) (fun (j6 : Int32 × Mem) => j6.2) (fun j6 => ?_) (fun kj6 => ?_)
      · refine z_iinc hX 4 [(5, .int (u1.2.1 + 1)), (0, .ref v0), (1, .int v1), (2, .int v2), (4, .int j6.1)] rfl rfl (by decide) rfl dX2_fund_68 ?_
        refine z_goto hX 6 (by decide) dX2_fund_71 ?_
        refine z_sub [1, 2, 3, 4, 0] rfl ?_
        exact hrc4 (j6.1, u1.2.1 + 1, j6.2)
      · refine z_iteB ?_
        refine z_if_eq hX 68 (by decide) dX2_fund_18 (fun _ => ?_) (fun _ => ?_)
        · refine z_pure ?_
          refine z_sub [0, 1, 2, 3, 4] rfl ?_
          exact kj6 (u1.1, u1.2.2)
        · refine z_iload hX 3 rfl dX2_fund_21 ?_
          refine z_aload_n hX 0 rfl rfl dX2_fund_23 ?_
          refine z_asc ?_
          refine z_gFR 2 0 hX (by decide) rfl (by decide) rfl q_234 dX2_fund_24 (fun r7 => ?_)
          refine z_iload hX 4 rfl dX2_fund_27 ?_
          refine z_asc ?_
          refine z_aI hX dX2_fund_29 (fun x8 => ?_)
          refine z_min hX dX2_fund_30 q_770 q_480 q_97 q_481 (Nat.le_of_ble_eq_true rfl) (Nat.le_of_ble_eq_true rfl) ⟨(Nat.le_of_ble_eq_true rfl), (Nat.le_of_ble_eq_true rfl)⟩ ?_
          refine z_ltB ?_
          refine z_ltI (fun x9 => ?_)
          refine z_istore hX [(6, .int x9), (0, .ref v0), (1, .int v1), (2, .int v2), (4, .int u1.1), (5, .int u1.2.1)] (by decide) rfl dX2_fund_33 ?_
          refine z_aload_n hX 1 rfl rfl dX2_fund_35 ?_
          refine z_asc ?_
          refine z_gFR 2 0 hX (by decide) rfl (by decide) rfl q_234 dX2_fund_36 (fun r10 => ?_)
          refine z_iload hX 5 rfl dX2_fund_39 ?_
          refine z_dup2 hX rfl rfl dX2_fund_41 ?_
          refine z_asc ?_
          refine z_aI hX dX2_fund_42 (fun x11 => ?_)
          refine z_iload hX 0 rfl dX2_fund_43 ?_
          refine z_isub hX dX2_fund_45 ?_
          refine z_asc ?_
          refine z_wI hX dX2_fund_46 (fun M12 => ?_)
          refine z_aload_n hX 1 rfl rfl dX2_fund_47 ?_
          refine z_asc ?_
          refine z_gFR 2 1 hX (by decide) rfl (by decide) rfl q_237 dX2_fund_48 (fun r13 => ?_)
          refine z_iload_n hX 2 rfl rfl dX2_fund_51 ?_
          refine z_asc ?_
          refine z_aR hX dX2_fund_52 (fun r14 => ?_)
          refine z_iload hX 5 rfl dX2_fund_53 ?_
          refine z_dup2 hX rfl rfl dX2_fund_55 ?_
          refine z_asc ?_
          refine z_aI hX dX2_fund_56 (fun x15 => ?_)
          refine z_iload hX 0 rfl dX2_fund_57 ?_
          refine z_iadd hX dX2_fund_59 ?_
          refine z_asc ?_
          refine z_wI hX dX2_fund_60 (fun M16 => ?_)
          refine z_iload hX 4 rfl dX2_fund_61 ?_
          refine z_iload hX 0 rfl dX2_fund_63 ?_
          refine z_isub hX dX2_fund_65 ?_
          refine z_ltB ?_
          refine z_ltI (fun x17 => ?_)
          refine z_istore hX [(4, .int x17), (6, .int x9), (0, .ref v0), (1, .int v1), (2, .int v2), (5, .int u1.2.1)] (by decide) rfl dX2_fund_66 ?_
          refine z_pure ?_
          refine z_sub [2, 3, 4, 0, 5] rfl ?_
          exact kj6 (x17, M16)
theorem c_X2_fund (l : Launch) (hl : l.stackTraces = false) (M : Mem) (v0 : Nat) (v1 : Int32) (v2 : Int32) (v3 : Int32) (o : Mem) (ho : f_X2_fund M v0 v1 v2 v3 = some o) : Ct l yX2_fund cX2_fund 7 (none) rm_X2_fund [.ref v0, .int v1, .int v2, .int v3] M (none) o :=
  Ct.of hl (by decide +kernel) (Nat.le_of_ble_eq_true rfl) rfl (fun X hX hin => z_X2_fund hX M v0 v1 v2 v3 o ho)
theorem okV_X2_fund : okV yX2_fund cX2_fund 7 (none) 3 := ⟨q_768, q_16, q_92, q_769, by unfold okY; decide +kernel⟩
/-! ParticipatoryBudget$Greedy.take(LParticipatoryBudget$Ballot;I)V -/
abbrev rm_X2_take : Room := { frames := 2, cells := 0, slots := 0, locals := 47 }
set_option maxRecDepth 20000 in
set_option maxHeartbeats 4000000 in
theorem z_X2_take {X : Cxt} (hX : okX X cX2_take RX2 rm_X2_take (none) 6) (M : Mem) (v0 : Nat) (v1 : Nat) (v2 : Int32) : Zj X (fun o : Mem => Qr X rm_X2_take.cells rm_X2_take.slots (none) o) 0 0 0 [(0, .ref v0), (1, .ref v1), (2, .int v2)] [] M (f_X2_take M v0 v1 v2) := by
  unfold f_X2_take
  refine z_iload_n hX 2 rfl rfl dX2_take_0 ?_
  refine z_istore_n hX [(3, .int v2), (0, .ref v0), (1, .ref v1), (2, .int v2)] rfl (by decide) rfl dX2_take_1 ?_
  refine z_iconst (v := 0) hX (by decide) dX2_take_2 ?_
  refine z_istore hX [(4, .int 0), (3, .int v2), (0, .ref v0), (1, .ref v1), (2, .int v2)] (by decide) rfl dX2_take_3 ?_
  refine z_sub [2, 3, 1, 0] rfl ?_
  refine z_lp (x0 := (v2, 0, M)) (bd_X2_take_5 v0 v1) 5 87 (fun (u1 : Int32 × Int32 × Mem) => [(0, .ref v0), (1, .ref v1), (3, .int u1.1), (4, .int u1.2.1)]) (fun (e2 : Int32 × Int32 × Mem) => []) (fun (u1 : Int32 × Int32 × Mem) => u1.2.2) ?_ ?_
  · intro e2
    exact z_vretM hX dX2_take_87 (Nat.le_of_ble_eq_true rfl) (Nat.le_of_ble_eq_true rfl)
  · intro kk3 rc4 hkk3 hrc4 u1
    unfold bd_X2_take_5
    refine z_iload hX 3 rfl dX2_take_5 ?_
    refine z_aload_n hX 1 rfl rfl dX2_take_7 ?_
    refine z_gFI 0 1 hX (by decide) rfl (by decide) rfl q_329 dX2_take_8 (fun x5 => ?_)
    refine z_icmp_ge hX 87 (by decide) dX2_take_11 (fun _ => ?_) (fun _ => ?_)
    · refine z_sub [] rfl ?_
      exact hkk3 (u1.1, u1.2.1, u1.2.2)
    · refine z_iload_n hX 2 rfl rfl dX2_take_14 ?_
      refine z_if_eq hX 87 (by decide) dX2_take_15 (fun _ => ?_) (fun _ => ?_)
      · refine z_sub [] rfl ?_
        exact hkk3 (u1.1, u1.2.1, u1.2.2)
      · refine z_aload_n hX 1 rfl rfl dX2_take_18 ?_
        refine z_iload_n hX 2 rfl rfl dX2_take_19 ?_
        refine z_cSIp [.ref v1, .int u1.1] hX (fun l hl o ho => c_X2_first l hl u1.2.2 v1 u1.1 o ho) dX2_take_20 q_754 okS_X2_first rfl ⟨(Nat.le_of_ble_eq_true rfl), (Nat.le_of_ble_eq_true rfl)⟩ rfl (Nat.le_of_ble_eq_true rfl) rfl rfl ⟨(Nat.le_of_ble_eq_true rfl), (Nat.le_of_ble_eq_true rfl)⟩ (fun o6 => ?_)
        refine z_istore hX [(5, .int o6), (0, .ref v0), (1, .ref v1), (3, .int u1.1), (4, .int u1.2.1)] (by decide) rfl dX2_take_23 ?_
        refine z_iload hX 0 rfl dX2_take_25 ?_
        refine z_if_ge hX 31 (by decide) dX2_take_27 (fun _ => ?_) (fun _ => ?_)
        · refine z_iload_n hX 3 rfl rfl dX2_take_31 ?_
          refine z_iconst (v := 1) hX (by decide) dX2_take_32 ?_
          refine z_iload hX 0 rfl dX2_take_33 ?_
          refine z_ishl hX dX2_take_35 ?_
          refine z_iconst (v := (-1)) hX (by decide) dX2_take_36 ?_
          refine z_ixor hX dX2_take_37 ?_
          refine z_iand hX dX2_take_38 ?_
          refine z_ltI (fun x7 => ?_)
          refine z_istore_n hX [(3, .int x7), (5, .int o6), (0, .ref v0), (1, .ref v1), (4, .int u1.2.1)] rfl (by decide) rfl dX2_take_39 ?_
          refine z_aload_n hX 2 rfl rfl dX2_take_40 ?_
          refine z_aload_n hX 3 rfl rfl dX2_take_41 ?_
          refine z_gFR 0 7 hX (by decide) rfl (by decide) rfl q_357 dX2_take_42 (fun r8 => ?_)
          refine z_iload hX 1 rfl dX2_take_45 ?_
          refine z_aI hX dX2_take_47 (fun x9 => ?_)
          refine z_cVIp 2 [.int x9] hX (fun l hl o ho => c_X2_leftIn l hl u1.2.2 v0 x9 o ho) dX2_take_48 (by decide) rfl rfl q_762 okV_X2_leftIn rfl ⟨(Nat.le_of_ble_eq_true rfl), (Nat.le_of_ble_eq_true rfl)⟩ rfl (Nat.le_of_ble_eq_true rfl) rfl rfl ⟨(Nat.le_of_ble_eq_true rfl), (Nat.le_of_ble_eq_true rfl)⟩ (fun o10 => ?_)
          refine z_aload_n hX 3 rfl rfl dX2_take_51 ?_
          refine z_gFR 0 6 hX (by decide) rfl (by decide) rfl q_350 dX2_take_52 (fun r11 => ?_)
          refine z_iload hX 1 rfl dX2_take_55 ?_
          refine z_aI hX dX2_take_57 (fun x12 => ?_)
          refine z_jn (C' := 0) (S' := 0) 81 (fun (j13 : Mem) => [(0, .ref v0), (1, .ref v1), (3, .int x7), (4, .int u1.2.1)]) (fun (j13 : Mem) => []) (fun (j13 : Mem) => j13) (fun j13 => ?_) (fun kj13 => ?_)
          · refine z_iinc hX 3 [(4, .int (u1.2.1 + 1)), (0, .ref v0), (1, .ref v1), (3, .int x7)] rfl rfl (by decide) rfl dX2_take_81 ?_
            refine z_goto hX 5 (by decide) dX2_take_84 ?_
            refine z_sub [1, 2, 3, 0] rfl ?_
            exact hrc4 (x7, u1.2.1 + 1, j13)
          · refine z_iteB ?_
            refine z_icmp_lt hX 81 (by decide) dX2_take_58 (fun _ => ?_) (fun _ => ?_)
            · refine z_pure ?_
              refine z_sub [2, 3, 0, 4] rfl ?_
              exact kj13 u1.2.2
            · refine z_aload_n hX 2 rfl rfl dX2_take_61 ?_
              refine z_iload hX 1 rfl dX2_take_62 ?_
              refine z_aload_n hX 3 rfl rfl dX2_take_64 ?_
              refine z_asc ?_
              refine z_gFR 0 7 hX (by decide) rfl (by decide) rfl q_357 dX2_take_65 (fun r14 => ?_)
              refine z_iload hX 1 rfl dX2_take_68 ?_
              refine z_asc ?_
              refine z_aI hX dX2_take_70 (fun x15 => ?_)
              refine z_aload_n hX 3 rfl rfl dX2_take_71 ?_
              refine z_asc ?_
              refine z_gFR 0 6 hX (by decide) rfl (by decide) rfl q_350 dX2_take_72 (fun r16 => ?_)
              refine z_iload hX 1 rfl dX2_take_75 ?_
              refine z_asc ?_
              refine z_aI hX dX2_take_77 (fun x17 => ?_)
              refine z_asc ?_
              refine z_asc2 ?_
              refine z_cVVm 2 [.int o6, .int x15, .int x17] hX (fun l hl o ho => c_X2_fund l hl u1.2.2 v0 o6 x15 x17 o ho) dX2_take_78 (by decide) rfl rfl q_766 okV_X2_fund rfl ⟨(Nat.le_of_ble_eq_true rfl), (Nat.le_of_ble_eq_true rfl)⟩ rfl (Nat.le_of_ble_eq_true rfl) rfl rfl ⟨(Nat.le_of_ble_eq_true rfl), (Nat.le_of_ble_eq_true rfl)⟩ (fun o18 => ?_)
              refine z_pure ?_
              refine z_sub [2, 3, 0, 4] rfl ?_
              exact kj13 o18
        · exact z_vretM hX dX2_take_30 (Nat.le_of_ble_eq_true rfl) (Nat.le_of_ble_eq_true rfl)
theorem c_X2_take (l : Launch) (hl : l.stackTraces = false) (M : Mem) (v0 : Nat) (v1 : Nat) (v2 : Int32) (o : Mem) (ho : f_X2_take M v0 v1 v2 = some o) : Ct l yX2_take cX2_take 6 (none) rm_X2_take [.ref v0, .ref v1, .int v2] M (none) o :=
  Ct.of hl (by decide +kernel) (Nat.le_of_ble_eq_true rfl) rfl (fun X hX hin => z_X2_take hX M v0 v1 v2 o ho)
theorem okV_X2_take : okV yX2_take cX2_take 6 (none) 2 := ⟨q_751, q_752, q_92, q_753, by unfold okY; decide +kernel⟩
/-! ParticipatoryBudget$EqualShares.complete(LParticipatoryBudget$Ballot;)V -/
abbrev rm_X1_complete : Room := { frames := 3, cells := 0, slots := 0, locals := 72 }
set_option maxRecDepth 20000 in
set_option maxHeartbeats 4000000 in
theorem z_X1_complete {X : Cxt} (hX : okX X cX1_complete RX1 rm_X1_complete (none) 3) (M : Mem) (v0 : Nat) (v1 : Nat) : Zj X (fun o : Mem => Qr X rm_X1_complete.cells rm_X1_complete.slots (none) o) 0 0 0 [(0, .ref v0), (1, .ref v1)] [] M (f_X1_complete M v0 v1) := by
  unfold f_X1_complete
  refine z_aload_n hX 0 rfl rfl dX1_complete_0 ?_
  refine z_gFR 1 2 hX (by decide) rfl (by decide) rfl q_258 dX1_complete_1 (fun r1 => ?_)
  refine z_aload_n hX 1 rfl rfl dX1_complete_4 ?_
  refine z_cVVm 2 [.ref v1] hX (fun l hl o ho => c_X2_begin l hl M r1 v1 o ho) dX1_complete_5 (by decide) rfl rfl q_743 okV_X2_begin rfl ⟨(Nat.le_of_ble_eq_true rfl), (Nat.le_of_ble_eq_true rfl)⟩ rfl (Nat.le_of_ble_eq_true rfl) rfl rfl ⟨(Nat.le_of_ble_eq_true rfl), (Nat.le_of_ble_eq_true rfl)⟩ (fun o2 => ?_)
  refine z_iconst (v := 0) hX (by decide) dX1_complete_8 ?_
  refine z_istore_n hX [(2, .int 0), (0, .ref v0), (1, .ref v1)] rfl (by decide) rfl dX1_complete_9 ?_
  refine z_sub [1, 2, 0] rfl ?_
  refine z_lp (x0 := (0, o2)) (bd_X1_complete_10 v0 v1) 10 44 (fun (u3 : Int32 × Mem) => [(0, .ref v0), (1, .ref v1), (2, .int u3.1)]) (fun (e4 : Int32 × Mem) => [(0, .ref v0), (1, .ref v1)]) (fun (u3 : Int32 × Mem) => u3.2) ?_ ?_
  · intro e4
    refine z_aload_n hX 1 rfl rfl dX1_complete_44 ?_
    refine z_gFR 0 11 hX (by decide) rfl (by decide) rfl q_376 dX1_complete_45 (fun r14 => ?_)
    refine z_iconst (v := 1) hX (by decide) dX1_complete_48 ?_
    refine z_aI hX dX1_complete_49 (fun x15 => ?_)
    refine z_iconst (v := 1) hX (by decide) dX1_complete_50 ?_
    refine z_jn (C' := 0) (S' := 0) 76 (fun (j16 : Mem) => []) (fun (j16 : Mem) => []) (fun (j16 : Mem) => j16) (fun j16 => ?_) (fun kj16 => ?_)
    · exact z_vretM hX dX1_complete_76 (Nat.le_of_ble_eq_true rfl) (Nat.le_of_ble_eq_true rfl)
    · refine z_iteB ?_
      refine z_icmp_ne hX 76 (by decide) dX1_complete_51 (fun _ => ?_) (fun _ => ?_)
      · refine z_pure ?_
        refine z_sub [] rfl ?_
        exact kj16 e4.2
      · refine z_aload_n hX 0 rfl rfl dX1_complete_54 ?_
        refine z_asc ?_
        refine z_gFR 1 2 hX (by decide) rfl (by decide) rfl q_258 dX1_complete_55 (fun r17 => ?_)
        refine z_aload_n hX 1 rfl rfl dX1_complete_58 ?_
        refine z_aload_n hX 1 rfl rfl dX1_complete_59 ?_
        refine z_asc ?_
        refine z_asc2 ?_
        refine z_cVIp 0 [] hX (fun l hl o ho => c_X0_voted l hl e4.2 v1 o ho) dX1_complete_60 (by decide) rfl rfl q_723 okV_X0_voted rfl ⟨(Nat.le_of_ble_eq_true rfl), (Nat.le_of_ble_eq_true rfl)⟩ rfl (Nat.le_of_ble_eq_true rfl) rfl rfl ⟨(Nat.le_of_ble_eq_true rfl), (Nat.le_of_ble_eq_true rfl)⟩ (fun o18 => ?_)
        refine z_aload_n hX 0 rfl rfl dX1_complete_63 ?_
        refine z_asc ?_
        refine z_gFR 1 0 hX (by decide) rfl (by decide) rfl q_255 dX1_complete_64 (fun r19 => ?_)
        refine z_asc ?_
        refine z_gFI 6 8 hX (by decide) rfl (by decide) rfl q_206 dX1_complete_67 (fun x20 => ?_)
        refine z_iconst (v := (-1)) hX (by decide) dX1_complete_70 ?_
        refine z_ixor hX dX1_complete_71 ?_
        refine z_iand hX dX1_complete_72 ?_
        refine z_asc ?_
        refine z_asc2 ?_
        refine z_cVVm 2 [.ref v1, .int (o18 &&& (x20 ^^^ (-1)))] hX (fun l hl o ho => c_X2_take l hl e4.2 r17 v1 (o18 &&& (x20 ^^^ (-1))) o ho) dX1_complete_73 (by decide) rfl rfl q_750 okV_X2_take rfl ⟨(Nat.le_of_ble_eq_true rfl), (Nat.le_of_ble_eq_true rfl)⟩ rfl (Nat.le_of_ble_eq_true rfl) rfl rfl ⟨(Nat.le_of_ble_eq_true rfl), (Nat.le_of_ble_eq_true rfl)⟩ (fun o21 => ?_)
        refine z_pure ?_
        refine z_sub [] rfl ?_
        exact kj16 o21
  · intro kk5 rc6 hkk5 hrc6 u3
    unfold bd_X1_complete_10
    refine z_iload_n hX 2 rfl rfl dX1_complete_10 ?_
    refine z_aload_n hX 1 rfl rfl dX1_complete_11 ?_
    refine z_gFI 0 0 hX (by decide) rfl (by decide) rfl q_322 dX1_complete_12 (fun x7 => ?_)
    refine z_icmp_ge hX 44 (by decide) dX1_complete_15 (fun _ => ?_) (fun _ => ?_)
    · refine z_sub [0, 1] rfl ?_
      exact hkk5 (u3.1, u3.2)
    · refine z_aload_n hX 0 rfl rfl dX1_complete_18 ?_
      refine z_gFR 1 2 hX (by decide) rfl (by decide) rfl q_258 dX1_complete_19 (fun r8 => ?_)
      refine z_gFR 2 0 hX (by decide) rfl (by decide) rfl q_235 dX1_complete_22 (fun r9 => ?_)
      refine z_iload_n hX 2 rfl rfl dX1_complete_25 ?_
      refine z_dup2 hX rfl rfl dX1_complete_26 ?_
      refine z_aI hX dX1_complete_27 (fun x10 => ?_)
      refine z_aload_n hX 0 rfl rfl dX1_complete_28 ?_
      refine z_gFR 1 0 hX (by decide) rfl (by decide) rfl q_255 dX1_complete_29 (fun r11 => ?_)
      refine z_iload_n hX 2 rfl rfl dX1_complete_32 ?_
      refine z_cVIp 6 [.int u3.1] hX (fun l hl o ho => c_X6_takenFrom l hl u3.2 r11 u3.1 o ho) dX1_complete_33 (by decide) rfl rfl q_749 okV_X6_takenFrom rfl ⟨(Nat.le_of_ble_eq_true rfl), (Nat.le_of_ble_eq_true rfl)⟩ rfl (Nat.le_of_ble_eq_true rfl) rfl rfl ⟨(Nat.le_of_ble_eq_true rfl), (Nat.le_of_ble_eq_true rfl)⟩ (fun o12 => ?_)
      refine z_isub hX dX1_complete_36 ?_
      refine z_wI hX dX1_complete_37 (fun M13 => ?_)
      refine z_iinc hX 2 [(2, .int (u3.1 + 1)), (0, .ref v0), (1, .ref v1)] rfl rfl (by decide) rfl dX1_complete_38 ?_
      refine z_goto hX 10 (by decide) dX1_complete_41 ?_
      refine z_sub [1, 2, 0] rfl ?_
      exact hrc6 (u3.1 + 1, M13)
theorem c_X1_complete (l : Launch) (hl : l.stackTraces = false) (M : Mem) (v0 : Nat) (v1 : Nat) (o : Mem) (ho : f_X1_complete M v0 v1 = some o) : Ct l yX1_complete cX1_complete 3 (none) rm_X1_complete [.ref v0, .ref v1] M (none) o :=
  Ct.of hl (by decide +kernel) (Nat.le_of_ble_eq_true rfl) rfl (fun X hX hin => z_X1_complete hX M v0 v1 o ho)
theorem okV_X1_complete : okV yX1_complete cX1_complete 3 (none) 1 := ⟨q_741, q_14, q_90, q_742, by unfold okY; decide +kernel⟩
/-! ParticipatoryBudget$EqualShares.decide(LParticipatoryBudget$Ballot;)V -/
abbrev rm_X1_decide : Room := { frames := 4, cells := 0, slots := 0, locals := 101 }
set_option maxRecDepth 20000 in
set_option maxHeartbeats 4000000 in
theorem z_X1_decide {X : Cxt} (hX : okX X cX1_decide RX1 rm_X1_decide (none) 4) (M : Mem) (v0 : Nat) (v1 : Nat) : Zj X (fun o : Mem => Qr X rm_X1_decide.cells rm_X1_decide.slots (none) o) 0 0 0 [(0, .ref v0), (1, .ref v1)] [] M (f_X1_decide M v0 v1) := by
  unfold f_X1_decide
  refine z_aload_n hX 0 rfl rfl dX1_decide_0 ?_
  refine z_gFR 1 0 hX (by decide) rfl (by decide) rfl q_255 dX1_decide_1 (fun r1 => ?_)
  refine z_aload_n hX 1 rfl rfl dX1_decide_4 ?_
  refine z_iconst (v := 0) hX (by decide) dX1_decide_5 ?_
  refine z_cVVm 6 [.ref v1, .int 0] hX (fun l hl o ho => c_X6_run l hl M r1 v1 0 o ho) dX1_decide_6 (by decide) rfl rfl q_670 okV_X6_run rfl ⟨(Nat.le_of_ble_eq_true rfl), (Nat.le_of_ble_eq_true rfl)⟩ rfl (Nat.le_of_ble_eq_true rfl) rfl rfl ⟨(Nat.le_of_ble_eq_true rfl), (Nat.le_of_ble_eq_true rfl)⟩ (fun o2 => ?_)
  refine z_aload_n hX 0 rfl rfl dX1_decide_9 ?_
  refine z_iconst (v := 0) hX (by decide) dX1_decide_10 ?_
  refine z_pFI 1 4 hX (by decide) rfl (by decide) rfl q_262 rfl pd_1 rfl rfl dX1_decide_11 (fun M3 => ?_)
  refine z_aload_n hX 0 rfl rfl dX1_decide_14 ?_
  refine z_aload_n hX 0 rfl rfl dX1_decide_15 ?_
  refine z_gFR 1 0 hX (by decide) rfl (by decide) rfl q_255 dX1_decide_16 (fun r4 => ?_)
  refine z_gFI 6 8 hX (by decide) rfl (by decide) rfl q_206 dX1_decide_19 (fun x5 => ?_)
  refine z_pFI 1 5 hX (by decide) rfl (by decide) rfl q_264 rfl pd_1 rfl rfl dX1_decide_22 (fun M6 => ?_)
  refine z_iconst (v := 0) hX (by decide) dX1_decide_25 ?_
  refine z_istore_n hX [(2, .int 0), (0, .ref v0), (1, .ref v1)] rfl (by decide) rfl dX1_decide_26 ?_
  refine z_sub [1, 2, 0] rfl ?_
  refine z_lp (x0 := (0, M6)) (bd_X1_decide_27 v0 v1) 27 58 (fun (u7 : Int32 × Mem) => [(0, .ref v0), (1, .ref v1), (2, .int u7.1)]) (fun (e8 : Int32 × Mem) => [(0, .ref v0), (1, .ref v1)]) (fun (u7 : Int32 × Mem) => u7.2) ?_ ?_
  · intro e8
    refine z_aload_n hX 1 rfl rfl dX1_decide_58 ?_
    refine z_gFR 0 11 hX (by decide) rfl (by decide) rfl q_376 dX1_decide_59 (fun r18 => ?_)
    refine z_iconst (v := 1) hX (by decide) dX1_decide_62 ?_
    refine z_aI hX dX1_decide_63 (fun x19 => ?_)
    refine z_iconst (v := 2) hX (by decide) dX1_decide_64 ?_
    refine z_jn (C' := 0) (S' := 0) 76 (fun (j20 : Int32) => [(0, .ref v0), (1, .ref v1)]) (fun (j20 : Int32) => [.int j20]) (fun (j20 : Int32) => e8.2) (fun j20 => ?_) (fun kj20 => ?_)
    · refine z_istore_n hX [(2, .int j20), (0, .ref v0), (1, .ref v1)] rfl (by decide) rfl dX1_decide_76 ?_
      refine z_iconst (v := 1) hX (by decide) dX1_decide_77 ?_
      refine z_istore_n hX [(3, .int 1), (2, .int j20), (0, .ref v0), (1, .ref v1)] rfl (by decide) rfl dX1_decide_78 ?_
      refine z_sub [2, 3, 1, 0] rfl ?_
      refine z_lp (x0 := (1, e8.2)) (bd_X1_decide_79 v0 v1 j20) 79 144 (fun (u21 : Int32 × Mem) => [(0, .ref v0), (1, .ref v1), (2, .int j20), (3, .int u21.1)]) (fun (e22 : Int32 × Mem) => [(0, .ref v0), (1, .ref v1)]) (fun (u21 : Int32 × Mem) => u21.2) ?_ ?_
      · intro e22
        refine z_aload_n hX 0 rfl rfl dX1_decide_144 ?_
        refine z_aload_n hX 1 rfl rfl dX1_decide_145 ?_
        refine z_cVVm 1 [.ref v1] hX (fun l hl o ho => c_X1_complete l hl e22.2 v0 v1 o ho) dX1_decide_146 (by decide) rfl rfl q_739 okV_X1_complete rfl ⟨(Nat.le_of_ble_eq_true rfl), (Nat.le_of_ble_eq_true rfl)⟩ rfl (Nat.le_of_ble_eq_true rfl) rfl rfl ⟨(Nat.le_of_ble_eq_true rfl), (Nat.le_of_ble_eq_true rfl)⟩ (fun o35 => ?_)
        exact z_vretM hX dX1_decide_149 (Nat.le_of_ble_eq_true rfl) (Nat.le_of_ble_eq_true rfl)
      · intro kk23 rc24 hkk23 hrc24 u21
        unfold bd_X1_decide_79
        refine z_iload_n hX 3 rfl rfl dX1_decide_79 ?_
        refine z_bipush (v := 60) hX (by decide) dX1_decide_80 ?_
        refine z_icmp_gt hX 144 (by decide) dX1_decide_82 (fun _ => ?_) (fun _ => ?_)
        · refine z_sub [0, 1] rfl ?_
          exact hkk23 (u21.1, u21.2)
        · refine z_iload_n hX 2 rfl rfl dX1_decide_85 ?_
          refine z_aload_n hX 0 rfl rfl dX1_decide_86 ?_
          refine z_gFR 1 0 hX (by decide) rfl (by decide) rfl q_255 dX1_decide_87 (fun r25 => ?_)
          refine z_gFI 6 8 hX (by decide) rfl (by decide) rfl q_206 dX1_decide_90 (fun x26 => ?_)
          refine z_iconst (v := (-1)) hX (by decide) dX1_decide_93 ?_
          refine z_ixor hX dX1_decide_94 ?_
          refine z_iand hX dX1_decide_95 ?_
          refine z_if_eq hX 144 (by decide) dX1_decide_96 (fun _ => ?_) (fun _ => ?_)
          · refine z_sub [0, 1] rfl ?_
            exact hkk23 (u21.1, u21.2)
          · refine z_aload_n hX 0 rfl rfl dX1_decide_99 ?_
            refine z_gFR 1 1 hX (by decide) rfl (by decide) rfl q_257 dX1_decide_100 (fun r27 => ?_)
            refine z_aload_n hX 1 rfl rfl dX1_decide_103 ?_
            refine z_iload_n hX 3 rfl rfl dX1_decide_104 ?_
            refine z_aload_n hX 1 rfl rfl dX1_decide_105 ?_
            refine z_gFR 0 11 hX (by decide) rfl (by decide) rfl q_376 dX1_decide_106 (fun r28 => ?_)
            refine z_iconst (v := 2) hX (by decide) dX1_decide_109 ?_
            refine z_aI hX dX1_decide_110 (fun x29 => ?_)
            refine z_imul hX dX1_decide_111 ?_
            refine z_cVVm 6 [.ref v1, .int (u21.1 * x29)] hX (fun l hl o ho => c_X6_run l hl u21.2 r27 v1 (u21.1 * x29) o ho) dX1_decide_112 (by decide) rfl rfl q_670 okV_X6_run rfl ⟨(Nat.le_of_ble_eq_true rfl), (Nat.le_of_ble_eq_true rfl)⟩ rfl (Nat.le_of_ble_eq_true rfl) rfl rfl ⟨(Nat.le_of_ble_eq_true rfl), (Nat.le_of_ble_eq_true rfl)⟩ (fun o30 => ?_)
            refine z_aload_n hX 0 rfl rfl dX1_decide_115 ?_
            refine z_gFR 1 1 hX (by decide) rfl (by decide) rfl q_257 dX1_decide_116 (fun r31 => ?_)
            refine z_aload_n hX 1 rfl rfl dX1_decide_119 ?_
            refine z_cVIp 6 [.ref v1] hX (fun l hl o ho => c_X6_overspends l hl o30 r31 v1 o ho) dX1_decide_120 (by decide) rfl rfl q_727 okV_X6_overspends rfl ⟨(Nat.le_of_ble_eq_true rfl), (Nat.le_of_ble_eq_true rfl)⟩ rfl (Nat.le_of_ble_eq_true rfl) rfl rfl ⟨(Nat.le_of_ble_eq_true rfl), (Nat.le_of_ble_eq_true rfl)⟩ (fun o32 => ?_)
            refine z_if_eq hX 129 (by decide) dX1_decide_123 (fun _ => ?_) (fun _ => ?_)
            · refine z_aload_n hX 0 rfl rfl dX1_decide_129 ?_
              refine z_cVVm 1 [] hX (fun l hl o ho => c_X1_keepTrial l hl o30 v0 o ho) dX1_decide_130 (by decide) rfl rfl q_735 okV_X1_keepTrial rfl ⟨(Nat.le_of_ble_eq_true rfl), (Nat.le_of_ble_eq_true rfl)⟩ rfl (Nat.le_of_ble_eq_true rfl) rfl rfl ⟨(Nat.le_of_ble_eq_true rfl), (Nat.le_of_ble_eq_true rfl)⟩ (fun o33 => ?_)
              refine z_aload_n hX 0 rfl rfl dX1_decide_133 ?_
              refine z_iload_n hX 3 rfl rfl dX1_decide_134 ?_
              refine z_pFI 1 4 hX (by decide) rfl (by decide) rfl q_262 rfl pd_1 rfl rfl dX1_decide_135 (fun M34 => ?_)
              refine z_iinc hX 3 [(3, .int (u21.1 + 1)), (0, .ref v0), (1, .ref v1), (2, .int j20)] rfl rfl (by decide) rfl dX1_decide_138 ?_
              refine z_goto hX 79 (by decide) dX1_decide_141 ?_
              refine z_sub [1, 2, 3, 0] rfl ?_
              exact hrc24 (u21.1 + 1, M34)
            · refine z_goto hX 144 (by decide) dX1_decide_126 ?_
              refine z_sub [0, 1] rfl ?_
              exact hkk23 (u21.1, o30)
    · refine z_iteB ?_
      refine z_icmp_ne hX 75 (by decide) dX1_decide_65 (fun _ => ?_) (fun _ => ?_)
      · refine z_iconst (v := 0) hX (by decide) dX1_decide_75 ?_
        refine z_pure ?_
        refine z_sub [0, 1] rfl ?_
        exact kj20 0
      · refine z_aload_n hX 1 rfl rfl dX1_decide_68 ?_
        refine z_asc ?_
        refine z_asc2 ?_
        refine z_cVIp 0 [] hX (fun l hl o ho => c_X0_voted l hl e8.2 v1 o ho) dX1_decide_69 (by decide) rfl rfl q_723 okV_X0_voted rfl ⟨(Nat.le_of_ble_eq_true rfl), (Nat.le_of_ble_eq_true rfl)⟩ rfl (Nat.le_of_ble_eq_true rfl) rfl rfl ⟨(Nat.le_of_ble_eq_true rfl), (Nat.le_of_ble_eq_true rfl)⟩ (fun o36 => ?_)
        refine z_goto hX 76 (by decide) dX1_decide_72 ?_
        refine z_pure ?_
        refine z_sub [0, 1] rfl ?_
        exact kj20 o36
  · intro kk9 rc10 hkk9 hrc10 u7
    unfold bd_X1_decide_27
    refine z_iload_n hX 2 rfl rfl dX1_decide_27 ?_
    refine z_aload_n hX 1 rfl rfl dX1_decide_28 ?_
    refine z_gFI 0 1 hX (by decide) rfl (by decide) rfl q_327 dX1_decide_29 (fun x11 => ?_)
    refine z_icmp_ge hX 58 (by decide) dX1_decide_32 (fun _ => ?_) (fun _ => ?_)
    · refine z_sub [0, 1] rfl ?_
      exact hkk9 (u7.1, u7.2)
    · refine z_aload_n hX 0 rfl rfl dX1_decide_35 ?_
      refine z_gFR 1 3 hX (by decide) rfl (by decide) rfl q_260 dX1_decide_36 (fun r12 => ?_)
      refine z_iload_n hX 2 rfl rfl dX1_decide_39 ?_
      refine z_aload_n hX 0 rfl rfl dX1_decide_40 ?_
      refine z_gFR 1 0 hX (by decide) rfl (by decide) rfl q_255 dX1_decide_41 (fun r13 => ?_)
      refine z_gFR 6 3 hX (by decide) rfl (by decide) rfl q_197 dX1_decide_44 (fun r14 => ?_)
      refine z_iload_n hX 2 rfl rfl dX1_decide_47 ?_
      refine z_aR hX dX1_decide_48 (fun r15 => ?_)
      refine z_iconst (v := 0) hX (by decide) dX1_decide_49 ?_
      refine z_aI hX dX1_decide_50 (fun x16 => ?_)
      refine z_wI hX dX1_decide_51 (fun M17 => ?_)
      refine z_iinc hX 2 [(2, .int (u7.1 + 1)), (0, .ref v0), (1, .ref v1)] rfl rfl (by decide) rfl dX1_decide_52 ?_
      refine z_goto hX 27 (by decide) dX1_decide_55 ?_
      refine z_sub [1, 2, 0] rfl ?_
      exact hrc10 (u7.1 + 1, M17)
theorem c_X1_decide (l : Launch) (hl : l.stackTraces = false) (M : Mem) (v0 : Nat) (v1 : Nat) (o : Mem) (ho : f_X1_decide M v0 v1 = some o) : Ct l yX1_decide cX1_decide 4 (none) rm_X1_decide [.ref v0, .ref v1] M (none) o :=
  Ct.of hl (by decide +kernel) (Nat.le_of_ble_eq_true rfl) rfl (fun X hX hin => z_X1_decide hX M v0 v1 o ho)
theorem okV_X1_decide : okV yX1_decide cX1_decide 4 (none) 1 := ⟨q_667, q_668, q_90, q_669, by unfold okY; decide +kernel⟩
/-! ParticipatoryBudget$EqualShares.chosen()I -/
abbrev rm_X1_chosen : Room := { frames := 0, cells := 0, slots := 0, locals := 0 }
set_option maxRecDepth 20000 in
set_option maxHeartbeats 4000000 in
theorem z_X1_chosen {X : Cxt} (hX : okX X cX1_chosen RX1 rm_X1_chosen (some .int) 1) (M : Mem) (v0 : Nat) : Zj X (fun o : Int32 => Qr X rm_X1_chosen.cells rm_X1_chosen.slots (some (.int o)) M) 0 0 0 [(0, .ref v0)] [] M (f_X1_chosen M v0) := by
  unfold f_X1_chosen
  refine z_aload_n hX 0 rfl rfl dX1_chosen_0 ?_
  refine z_gFR 1 0 hX (by decide) rfl (by decide) rfl q_255 dX1_chosen_1 (fun r1 => ?_)
  refine z_gFI 6 8 hX (by decide) rfl (by decide) rfl q_206 dX1_chosen_4 (fun x2 => ?_)
  refine z_aload_n hX 0 rfl rfl dX1_chosen_7 ?_
  refine z_gFR 1 2 hX (by decide) rfl (by decide) rfl q_258 dX1_chosen_8 (fun r3 => ?_)
  refine z_gFI 2 4 hX (by decide) rfl (by decide) rfl q_242 dX1_chosen_11 (fun x4 => ?_)
  refine z_ior hX dX1_chosen_14 ?_
  exact z_iretP hX dX1_chosen_15 (Nat.le_of_ble_eq_true rfl) (Nat.le_of_ble_eq_true rfl)
theorem c_X1_chosen (l : Launch) (hl : l.stackTraces = false) (M : Mem) (v0 : Nat) (o : Int32) (ho : f_X1_chosen M v0 = some o) : Ct l yX1_chosen cX1_chosen 1 (some .int) rm_X1_chosen [.ref v0] M (some (.int o)) M :=
  Ct.of hl (by decide +kernel) (Nat.le_of_ble_eq_true rfl) rfl (fun X hX hin => z_X1_chosen hX M v0 o ho)
theorem okV_X1_chosen : okV yX1_chosen cX1_chosen 1 (some .int) 0 := ⟨q_781, q_782, q_90, q_783, by unfold okY; decide +kernel⟩
/-! ParticipatoryBudget.isIndex(II)Z -/
abbrev rm_X8_isIndex : Room := { frames := 0, cells := 0, slots := 0, locals := 0 }
set_option maxRecDepth 20000 in
set_option maxHeartbeats 4000000 in
theorem z_X8_isIndex {X : Cxt} (hX : okX X cX8_isIndex RX8 rm_X8_isIndex (some .boolean) 2) (M : Mem) (v0 : Int32) (v1 : Int32) : Zj X (fun o : Int32 => Qr X rm_X8_isIndex.cells rm_X8_isIndex.slots (some (.int o)) M) 0 0 0 [(0, .int v0), (1, .int v1)] [] M (f_X8_isIndex M v0 v1) := by
  unfold f_X8_isIndex
  refine z_iload_n hX 0 rfl rfl dX8_isIndex_0 ?_
  refine z_jn (C' := 0) (S' := 0) 14 (fun (j1 : Int32) => []) (fun (j1 : Int32) => [.int j1]) (fun (j1 : Int32) => M) (fun j1 => ?_) (fun kj1 => ?_)
  · exact z_zretP hX dX8_isIndex_14 (Nat.le_of_ble_eq_true rfl) (Nat.le_of_ble_eq_true rfl)
  · refine z_iteB ?_
    refine z_if_lt hX 13 (by decide) dX8_isIndex_1 (fun _ => ?_) (fun _ => ?_)
    · refine z_iconst (v := 0) hX (by decide) dX8_isIndex_13 ?_
      refine z_pure ?_
      refine z_sub [] rfl ?_
      exact kj1 0
    · refine z_iload_n hX 0 rfl rfl dX8_isIndex_4 ?_
      refine z_iload_n hX 1 rfl rfl dX8_isIndex_5 ?_
      refine z_iteB ?_
      refine z_icmp_ge hX 13 (by decide) dX8_isIndex_6 (fun _ => ?_) (fun _ => ?_)
      · refine z_iconst (v := 0) hX (by decide) dX8_isIndex_13 ?_
        refine z_pure ?_
        refine z_sub [] rfl ?_
        exact kj1 0
      · refine z_iconst (v := 1) hX (by decide) dX8_isIndex_9 ?_
        refine z_goto hX 14 (by decide) dX8_isIndex_10 ?_
        refine z_pure ?_
        refine z_sub [] rfl ?_
        exact kj1 1
theorem c_X8_isIndex (l : Launch) (hl : l.stackTraces = false) (M : Mem) (v0 : Int32) (v1 : Int32) (o : Int32) (ho : f_X8_isIndex M v0 v1 = some o) : Ct l yX8_isIndex cX8_isIndex 2 (some .boolean) rm_X8_isIndex [.int v0, .int v1] M (some (.int o)) M :=
  Ct.of hl (by decide +kernel) (Nat.le_of_ble_eq_true rfl) rfl (fun X hX hin => z_X8_isIndex hX M v0 v1 o ho)
theorem okS_X8_isIndex : okS yX8_isIndex cX8_isIndex 2 (some .boolean) 2 := ⟨q_609, q_86, q_610, by unfold okY; decide +kernel⟩
/-! ParticipatoryBudget$Greedy.chosenAt(I)I -/
abbrev rm_X2_chosenAt : Room := { frames := 1, cells := 0, slots := 0, locals := 21 }
set_option maxRecDepth 20000 in
set_option maxHeartbeats 4000000 in
theorem z_X2_chosenAt {X : Cxt} (hX : okX X cX2_chosenAt RX2 rm_X2_chosenAt (some .int) 2) (M : Mem) (v0 : Nat) (v1 : Int32) : Zj X (fun o : Int32 => Qr X rm_X2_chosenAt.cells rm_X2_chosenAt.slots (some (.int o)) M) 0 0 0 [(0, .ref v0), (1, .int v1)] [] M (f_X2_chosenAt M v0 v1) := by
  unfold f_X2_chosenAt
  refine z_iload_n hX 1 rfl rfl dX2_chosenAt_0 ?_
  refine z_aload_n hX 0 rfl rfl dX2_chosenAt_1 ?_
  refine z_gFI 2 3 hX (by decide) rfl (by decide) rfl q_240 dX2_chosenAt_2 (fun x1 => ?_)
  refine z_cSNIp [.int v1, .int x1] hX (fun l hl o ho => c_X8_isIndex l hl M v1 x1 o ho) dX2_chosenAt_5 nw_18 okS_X8_isIndex rfl ⟨(Nat.le_of_ble_eq_true rfl), (Nat.le_of_ble_eq_true rfl)⟩ rfl (Nat.le_of_ble_eq_true rfl) rfl rfl ⟨(Nat.le_of_ble_eq_true rfl), (Nat.le_of_ble_eq_true rfl)⟩ (fun o2 => ?_)
  refine z_jn (C' := 0) (S' := 0) 21 (fun (j3 : Int32) => []) (fun (j3 : Int32) => [.int j3]) (fun (j3 : Int32) => M) (fun j3 => ?_) (fun kj3 => ?_)
  · exact z_iretP hX dX2_chosenAt_21 (Nat.le_of_ble_eq_true rfl) (Nat.le_of_ble_eq_true rfl)
  · refine z_iteB ?_
    refine z_if_eq hX 20 (by decide) dX2_chosenAt_8 (fun _ => ?_) (fun _ => ?_)
    · refine z_iconst (v := (-1)) hX (by decide) dX2_chosenAt_20 ?_
      refine z_pure ?_
      refine z_sub [] rfl ?_
      exact kj3 (-1)
    · refine z_aload_n hX 0 rfl rfl dX2_chosenAt_11 ?_
      refine z_asc ?_
      refine z_gFR 2 2 hX (by decide) rfl (by decide) rfl q_239 dX2_chosenAt_12 (fun r4 => ?_)
      refine z_iload_n hX 1 rfl rfl dX2_chosenAt_15 ?_
      refine z_asc ?_
      refine z_aI hX dX2_chosenAt_16 (fun x5 => ?_)
      refine z_goto hX 21 (by decide) dX2_chosenAt_17 ?_
      refine z_pure ?_
      refine z_sub [] rfl ?_
      exact kj3 x5
theorem c_X2_chosenAt (l : Launch) (hl : l.stackTraces = false) (M : Mem) (v0 : Nat) (v1 : Int32) (o : Int32) (ho : f_X2_chosenAt M v0 v1 = some o) : Ct l yX2_chosenAt cX2_chosenAt 2 (some .int) rm_X2_chosenAt [.ref v0, .int v1] M (some (.int o)) M :=
  Ct.of hl (by decide +kernel) (Nat.le_of_ble_eq_true rfl) rfl (fun X hX hin => z_X2_chosenAt hX M v0 v1 o ho)
theorem okV_X2_chosenAt : okV yX2_chosenAt cX2_chosenAt 2 (some .int) 1 := ⟨q_849, q_850, q_92, q_851, by unfold okY; decide +kernel⟩
/-! ParticipatoryBudget$EqualShares.chosenAt(I)I -/
abbrev rm_X1_chosenAt : Room := { frames := 2, cells := 0, slots := 0, locals := 42 }
set_option maxRecDepth 20000 in
set_option maxHeartbeats 4000000 in
theorem z_X1_chosenAt {X : Cxt} (hX : okX X cX1_chosenAt RX1 rm_X1_chosenAt (some .int) 2) (M : Mem) (v0 : Nat) (v1 : Int32) : Zj X (fun o : Int32 => Qr X rm_X1_chosenAt.cells rm_X1_chosenAt.slots (some (.int o)) M) 0 0 0 [(0, .ref v0), (1, .int v1)] [] M (f_X1_chosenAt M v0 v1) := by
  unfold f_X1_chosenAt
  refine z_iload_n hX 1 rfl rfl dX1_chosenAt_0 ?_
  refine z_aload_n hX 0 rfl rfl dX1_chosenAt_1 ?_
  refine z_gFR 1 0 hX (by decide) rfl (by decide) rfl q_255 dX1_chosenAt_2 (fun r1 => ?_)
  refine z_gFI 6 7 hX (by decide) rfl (by decide) rfl q_204 dX1_chosenAt_5 (fun x2 => ?_)
  refine z_cSNIp [.int v1, .int x2] hX (fun l hl o ho => c_X8_isIndex l hl M v1 x2 o ho) dX1_chosenAt_8 nw_17 okS_X8_isIndex rfl ⟨(Nat.le_of_ble_eq_true rfl), (Nat.le_of_ble_eq_true rfl)⟩ rfl (Nat.le_of_ble_eq_true rfl) rfl rfl ⟨(Nat.le_of_ble_eq_true rfl), (Nat.le_of_ble_eq_true rfl)⟩ (fun o3 => ?_)
  refine z_jn (C' := 0) (S' := 0) 42 (fun (j4 : Int32) => []) (fun (j4 : Int32) => [.int j4]) (fun (j4 : Int32) => M) (fun j4 => ?_) (fun kj4 => ?_)
  · exact z_iretP hX dX1_chosenAt_42 (Nat.le_of_ble_eq_true rfl) (Nat.le_of_ble_eq_true rfl)
  · refine z_iteB ?_
    refine z_if_eq hX 26 (by decide) dX1_chosenAt_11 (fun _ => ?_) (fun _ => ?_)
    · refine z_aload_n hX 0 rfl rfl dX1_chosenAt_26 ?_
      refine z_asc ?_
      refine z_gFR 1 2 hX (by decide) rfl (by decide) rfl q_258 dX1_chosenAt_27 (fun r5 => ?_)
      refine z_iload_n hX 1 rfl rfl dX1_chosenAt_30 ?_
      refine z_aload_n hX 0 rfl rfl dX1_chosenAt_31 ?_
      refine z_asc ?_
      refine z_gFR 1 0 hX (by decide) rfl (by decide) rfl q_255 dX1_chosenAt_32 (fun r6 => ?_)
      refine z_asc ?_
      refine z_gFI 6 7 hX (by decide) rfl (by decide) rfl q_204 dX1_chosenAt_35 (fun x7 => ?_)
      refine z_isub hX dX1_chosenAt_38 ?_
      refine z_asc ?_
      refine z_asc2 ?_
      refine z_cVIp 2 [.int (v1 - x7)] hX (fun l hl o ho => c_X2_chosenAt l hl M r5 (v1 - x7) o ho) dX1_chosenAt_39 (by decide) rfl rfl q_848 okV_X2_chosenAt rfl ⟨(Nat.le_of_ble_eq_true rfl), (Nat.le_of_ble_eq_true rfl)⟩ rfl (Nat.le_of_ble_eq_true rfl) rfl rfl ⟨(Nat.le_of_ble_eq_true rfl), (Nat.le_of_ble_eq_true rfl)⟩ (fun o8 => ?_)
      refine z_pure ?_
      refine z_sub [] rfl ?_
      exact kj4 o8
    · refine z_aload_n hX 0 rfl rfl dX1_chosenAt_14 ?_
      refine z_asc ?_
      refine z_gFR 1 0 hX (by decide) rfl (by decide) rfl q_255 dX1_chosenAt_15 (fun r9 => ?_)
      refine z_asc ?_
      refine z_gFR 6 4 hX (by decide) rfl (by decide) rfl q_200 dX1_chosenAt_18 (fun r10 => ?_)
      refine z_iload_n hX 1 rfl rfl dX1_chosenAt_21 ?_
      refine z_asc ?_
      refine z_aI hX dX1_chosenAt_22 (fun x11 => ?_)
      refine z_goto hX 42 (by decide) dX1_chosenAt_23 ?_
      refine z_pure ?_
      refine z_sub [] rfl ?_
      exact kj4 x11
theorem c_X1_chosenAt (l : Launch) (hl : l.stackTraces = false) (M : Mem) (v0 : Nat) (v1 : Int32) (o : Int32) (ho : f_X1_chosenAt M v0 v1 = some o) : Ct l yX1_chosenAt cX1_chosenAt 2 (some .int) rm_X1_chosenAt [.ref v0, .int v1] M (some (.int o)) M :=
  Ct.of hl (by decide +kernel) (Nat.le_of_ble_eq_true rfl) rfl (fun X hX hin => z_X1_chosenAt hX M v0 v1 o ho)
theorem okV_X1_chosenAt : okV yX1_chosenAt cX1_chosenAt 2 (some .int) 1 := ⟨q_844, q_845, q_90, q_846, by unfold okY; decide +kernel⟩
/-! ParticipatoryBudget$Greedy.decide(LParticipatoryBudget$Ballot;)V -/
abbrev rm_X2_decide : Room := { frames := 3, cells := 0, slots := 0, locals := 72 }
set_option maxRecDepth 20000 in
set_option maxHeartbeats 4000000 in
theorem z_X2_decide {X : Cxt} (hX : okX X cX2_decide RX2 rm_X2_decide (none) 2) (M : Mem) (v0 : Nat) (v1 : Nat) : Zj X (fun o : Mem => Qr X rm_X2_decide.cells rm_X2_decide.slots (none) o) 0 0 0 [(0, .ref v0), (1, .ref v1)] [] M (f_X2_decide M v0 v1) := by
  unfold f_X2_decide
  refine z_aload_n hX 0 rfl rfl dX2_decide_0 ?_
  refine z_aload_n hX 1 rfl rfl dX2_decide_1 ?_
  refine z_cVVm 2 [.ref v1] hX (fun l hl o ho => c_X2_begin l hl M v0 v1 o ho) dX2_decide_2 (by decide) rfl rfl q_809 okV_X2_begin rfl ⟨(Nat.le_of_ble_eq_true rfl), (Nat.le_of_ble_eq_true rfl)⟩ rfl (Nat.le_of_ble_eq_true rfl) rfl rfl ⟨(Nat.le_of_ble_eq_true rfl), (Nat.le_of_ble_eq_true rfl)⟩ (fun o1 => ?_)
  refine z_aload_n hX 0 rfl rfl dX2_decide_5 ?_
  refine z_aload_n hX 1 rfl rfl dX2_decide_6 ?_
  refine z_aload_n hX 1 rfl rfl dX2_decide_7 ?_
  refine z_cVIp 0 [] hX (fun l hl o ho => c_X0_voted l hl o1 v1 o ho) dX2_decide_8 (by decide) rfl rfl q_810 okV_X0_voted rfl ⟨(Nat.le_of_ble_eq_true rfl), (Nat.le_of_ble_eq_true rfl)⟩ rfl (Nat.le_of_ble_eq_true rfl) rfl rfl ⟨(Nat.le_of_ble_eq_true rfl), (Nat.le_of_ble_eq_true rfl)⟩ (fun o2 => ?_)
  refine z_cVVm 2 [.ref v1, .int o2] hX (fun l hl o ho => c_X2_take l hl o1 v0 v1 o2 o ho) dX2_decide_11 (by decide) rfl rfl q_811 okV_X2_take rfl ⟨(Nat.le_of_ble_eq_true rfl), (Nat.le_of_ble_eq_true rfl)⟩ rfl (Nat.le_of_ble_eq_true rfl) rfl rfl ⟨(Nat.le_of_ble_eq_true rfl), (Nat.le_of_ble_eq_true rfl)⟩ (fun o3 => ?_)
  exact z_vretM hX dX2_decide_14 (Nat.le_of_ble_eq_true rfl) (Nat.le_of_ble_eq_true rfl)
theorem c_X2_decide (l : Launch) (hl : l.stackTraces = false) (M : Mem) (v0 : Nat) (v1 : Nat) (o : Mem) (ho : f_X2_decide M v0 v1 = some o) : Ct l yX2_decide cX2_decide 2 (none) rm_X2_decide [.ref v0, .ref v1] M (none) o :=
  Ct.of hl (by decide +kernel) (Nat.le_of_ble_eq_true rfl) rfl (fun X hX hin => z_X2_decide hX M v0 v1 o ho)
theorem okV_X2_decide : okV yX2_decide cX2_decide 2 (none) 1 := ⟨q_806, q_807, q_92, q_808, by unfold okY; decide +kernel⟩
/-! ParticipatoryBudget$History.<init>()V -/
abbrev rm_X3_init : Room := { frames := 1, cells := 3, slots := 30, locals := 13 }
set_option maxRecDepth 20000 in
set_option maxHeartbeats 4000000 in
theorem z_X3_init {X : Cxt} (hX : okX X cX3_init RX3 rm_X3_init (none) 1) (hin : inX X) (M : Mem) (v0 : Nat) : Zj X (fun o : Mem => Qr X rm_X3_init.cells rm_X3_init.slots (none) o) 0 0 0 [(0, .ref v0)] [] M (f_X3_init M v0) := by
  unfold f_X3_init
  refine z_aload_n hX 0 rfl rfl dX3_init_0 ?_
  refine z_oI hX dX3_init_1 q_160 q_114 q_115 (Nat.le_of_ble_eq_true rfl) (Nat.le_of_ble_eq_true rfl) ?_
  refine z_aload_n hX 0 rfl rfl dX3_init_4 ?_
  refine z_bipush (v := 10) hX (by decide) dX3_init_5 ?_
  refine z_newA (aty := .int) 20 10 hX (Or.inl ⟨rfl, rfl⟩) q_175 (by decide) (by decide) (by decide) dX3_init_7 rfl rfl (Nat.le_of_ble_eq_true rfl) (Nat.le_of_ble_eq_true rfl) (fun o1 => ?_)
  refine z_pFRf 3 0 hX hin (by decide) rfl (by decide) rfl q_161 rfl rfl pd_0 rfl rfl dX3_init_9 (fun M2 => ?_)
  refine z_aload_n hX 0 rfl rfl dX3_init_12 ?_
  refine z_bipush (v := 10) hX (by decide) dX3_init_13 ?_
  refine z_newA (aty := .int) 20 10 hX (Or.inl ⟨rfl, rfl⟩) q_175 (by decide) (by decide) (by decide) dX3_init_15 rfl rfl (Nat.le_of_ble_eq_true rfl) (Nat.le_of_ble_eq_true rfl) (fun o3 => ?_)
  refine z_pFRf 3 1 hX hin (by decide) rfl (by decide) rfl q_162 rfl rfl pd_0 rfl rfl dX3_init_17 (fun M4 => ?_)
  refine z_aload_n hX 0 rfl rfl dX3_init_20 ?_
  refine z_bipush (v := 10) hX (by decide) dX3_init_21 ?_
  refine z_newA (aty := .int) 20 10 hX (Or.inl ⟨rfl, rfl⟩) q_175 (by decide) (by decide) (by decide) dX3_init_23 rfl rfl (Nat.le_of_ble_eq_true rfl) (Nat.le_of_ble_eq_true rfl) (fun o5 => ?_)
  refine z_pFRf 3 2 hX hin (by decide) rfl (by decide) rfl q_163 rfl rfl pd_0 rfl rfl dX3_init_25 (fun M6 => ?_)
  exact z_vretM hX dX3_init_28 (Nat.le_of_ble_eq_true rfl) (Nat.le_of_ble_eq_true rfl)
theorem c_X3_init (l : Launch) (hl : l.stackTraces = false) (M : Mem) (v0 : Nat) (o : Mem) (ho : f_X3_init M v0 = some o) : Ct l yX3_init cX3_init 1 (none) rm_X3_init [.ref v0] M (none) o :=
  Ct.of hl (by decide +kernel) (Nat.le_of_ble_eq_true rfl) rfl (fun X hX hin => z_X3_init hX (hin rfl) M v0 o ho)
theorem okI_X3_init : okI yX3_init cX3_init 1 0 := ⟨rfl, q_158, q_89, q_159, by unfold okY; decide +kernel⟩
/-! ParticipatoryBudget$History.forgetOldest()V -/
abbrev rm_X3_forgetOldest : Room := { frames := 1, cells := 0, slots := 0, locals := 40 }
set_option maxRecDepth 20000 in
set_option maxHeartbeats 4000000 in
theorem z_X3_forgetOldest {X : Cxt} (hX : okX X cX3_forgetOldest RX3 rm_X3_forgetOldest (none) 1) (M : Mem) (v0 : Nat) : Zj X (fun o : Mem => Qr X rm_X3_forgetOldest.cells rm_X3_forgetOldest.slots (none) o) 0 0 0 [(0, .ref v0)] [] M (f_X3_forgetOldest M v0) := by
  unfold f_X3_forgetOldest
  refine z_aload_n hX 0 rfl rfl dX3_forgetOldest_0 ?_
  refine z_bipush (v := 9) hX (by decide) dX3_forgetOldest_1 ?_
  refine z_pFI 3 3 hX (by decide) rfl (by decide) rfl q_164 rfl pd_1 rfl rfl dX3_forgetOldest_3 (fun M1 => ?_)
  refine z_aload_n hX 0 rfl rfl dX3_forgetOldest_6 ?_
  refine z_gFR 3 0 hX (by decide) rfl (by decide) rfl q_161 dX3_forgetOldest_7 (fun r2 => ?_)
  refine z_iconst (v := 1) hX (by decide) dX3_forgetOldest_10 ?_
  refine z_aload_n hX 0 rfl rfl dX3_forgetOldest_11 ?_
  refine z_gFR 3 0 hX (by decide) rfl (by decide) rfl q_161 dX3_forgetOldest_12 (fun r3 => ?_)
  refine z_iconst (v := 0) hX (by decide) dX3_forgetOldest_15 ?_
  refine z_aload_n hX 0 rfl rfl dX3_forgetOldest_16 ?_
  refine z_gFI 3 3 hX (by decide) rfl (by decide) rfl q_164 dX3_forgetOldest_17 (fun x4 => ?_)
  refine z_cpI hX dX3_forgetOldest_20 q_957 q_317 q_316 q_95 (Nat.le_of_ble_eq_true rfl) (Nat.le_of_ble_eq_true rfl) (fun M5 => ?_)
  refine z_aload_n hX 0 rfl rfl dX3_forgetOldest_23 ?_
  refine z_gFR 3 1 hX (by decide) rfl (by decide) rfl q_162 dX3_forgetOldest_24 (fun r6 => ?_)
  refine z_iconst (v := 1) hX (by decide) dX3_forgetOldest_27 ?_
  refine z_aload_n hX 0 rfl rfl dX3_forgetOldest_28 ?_
  refine z_gFR 3 1 hX (by decide) rfl (by decide) rfl q_162 dX3_forgetOldest_29 (fun r7 => ?_)
  refine z_iconst (v := 0) hX (by decide) dX3_forgetOldest_32 ?_
  refine z_aload_n hX 0 rfl rfl dX3_forgetOldest_33 ?_
  refine z_gFI 3 3 hX (by decide) rfl (by decide) rfl q_164 dX3_forgetOldest_34 (fun x8 => ?_)
  refine z_cpI hX dX3_forgetOldest_37 q_957 q_317 q_316 q_95 (Nat.le_of_ble_eq_true rfl) (Nat.le_of_ble_eq_true rfl) (fun M9 => ?_)
  refine z_aload_n hX 0 rfl rfl dX3_forgetOldest_40 ?_
  refine z_gFR 3 2 hX (by decide) rfl (by decide) rfl q_163 dX3_forgetOldest_41 (fun r10 => ?_)
  refine z_iconst (v := 1) hX (by decide) dX3_forgetOldest_44 ?_
  refine z_aload_n hX 0 rfl rfl dX3_forgetOldest_45 ?_
  refine z_gFR 3 2 hX (by decide) rfl (by decide) rfl q_163 dX3_forgetOldest_46 (fun r11 => ?_)
  refine z_iconst (v := 0) hX (by decide) dX3_forgetOldest_49 ?_
  refine z_aload_n hX 0 rfl rfl dX3_forgetOldest_50 ?_
  refine z_gFI 3 3 hX (by decide) rfl (by decide) rfl q_164 dX3_forgetOldest_51 (fun x12 => ?_)
  refine z_cpI hX dX3_forgetOldest_54 q_957 q_317 q_316 q_95 (Nat.le_of_ble_eq_true rfl) (Nat.le_of_ble_eq_true rfl) (fun M13 => ?_)
  exact z_vretM hX dX3_forgetOldest_57 (Nat.le_of_ble_eq_true rfl) (Nat.le_of_ble_eq_true rfl)
theorem c_X3_forgetOldest (l : Launch) (hl : l.stackTraces = false) (M : Mem) (v0 : Nat) (o : Mem) (ho : f_X3_forgetOldest M v0 = some o) : Ct l yX3_forgetOldest cX3_forgetOldest 1 (none) rm_X3_forgetOldest [.ref v0] M (none) o :=
  Ct.of hl (by decide +kernel) (Nat.le_of_ble_eq_true rfl) rfl (fun X hX hin => z_X3_forgetOldest hX M v0 o ho)
theorem okV_X3_forgetOldest : okV yX3_forgetOldest cX3_forgetOldest 1 (none) 0 := ⟨q_955, q_22, q_89, q_956, by unfold okY; decide +kernel⟩
/-! ParticipatoryBudget$History.row(LParticipatoryBudget$Ballot;I)[I -/
abbrev rm_X3_row : Room := { frames := 0, cells := 0, slots := 0, locals := 0 }
set_option maxRecDepth 20000 in
set_option maxHeartbeats 4000000 in
theorem z_X3_row {X : Cxt} (hX : okX X cX3_row RX3 rm_X3_row (some (.array .int)) 2) (M : Mem) (v0 : Nat) (v1 : Int32) : Zj X (fun o : Nat => Qr X rm_X3_row.cells rm_X3_row.slots (some (.ref o)) M) 0 0 0 [(0, .ref v0), (1, .int v1)] [] M (f_X3_row M v0 v1) := by
  unfold f_X3_row
  refine z_iload_n hX 1 rfl rfl dX3_row_0 ?_
  refine z_tsw0 (fun hz1 => ?_)
  refine z_tswC hX 0 36 hz1 dX3_row_1 (by decide) (by decide) rfl (by decide) ?_ (fun hz8 => ?_)
  · refine z_aload_n hX 0 rfl rfl dX3_row_36 ?_
    refine z_gFR 0 4 hX (by decide) rfl (by decide) rfl q_342 dX3_row_37 (fun r3 => ?_)
    exact z_aretP hX (Or.inr ⟨_, rfl⟩) dX3_row_40 (Nat.le_of_ble_eq_true rfl) (Nat.le_of_ble_eq_true rfl)
  refine z_tswC hX 1 41 hz8 dX3_row_1 (by decide) (by decide) rfl (by decide) ?_ (fun hz9 => ?_)
  · refine z_aload_n hX 0 rfl rfl dX3_row_41 ?_
    refine z_gFR 0 6 hX (by decide) rfl (by decide) rfl q_353 dX3_row_42 (fun r4 => ?_)
    exact z_aretP hX (Or.inr ⟨_, rfl⟩) dX3_row_45 (Nat.le_of_ble_eq_true rfl) (Nat.le_of_ble_eq_true rfl)
  refine z_tswC hX 2 46 hz9 dX3_row_1 (by decide) (by decide) rfl (by decide) ?_ (fun hz10 => ?_)
  · refine z_aload_n hX 0 rfl rfl dX3_row_46 ?_
    refine z_gFR 0 8 hX (by decide) rfl (by decide) rfl q_362 dX3_row_47 (fun r5 => ?_)
    exact z_aretP hX (Or.inr ⟨_, rfl⟩) dX3_row_50 (Nat.le_of_ble_eq_true rfl) (Nat.le_of_ble_eq_true rfl)
  refine z_tswC hX 3 51 hz10 dX3_row_1 (by decide) (by decide) rfl (by decide) ?_ (fun hz11 => ?_)
  · refine z_aload_n hX 0 rfl rfl dX3_row_51 ?_
    refine z_gFR 0 9 hX (by decide) rfl (by decide) rfl q_368 dX3_row_52 (fun r6 => ?_)
    exact z_aretP hX (Or.inr ⟨_, rfl⟩) dX3_row_55 (Nat.le_of_ble_eq_true rfl) (Nat.le_of_ble_eq_true rfl)
  refine z_tswC hX 4 56 hz11 dX3_row_1 (by decide) (by decide) rfl (by decide) ?_ (fun hz12 => ?_)
  · refine z_aload_n hX 0 rfl rfl dX3_row_56 ?_
    refine z_gFR 0 10 hX (by decide) rfl (by decide) rfl q_372 dX3_row_57 (fun r7 => ?_)
    exact z_aretP hX (Or.inr ⟨_, rfl⟩) dX3_row_60 (Nat.le_of_ble_eq_true rfl) (Nat.le_of_ble_eq_true rfl)
  refine z_tswD hX 5 61 hz12 dX3_row_1 (by decide) (by decide) (by decide) ?_
  refine z_aload_n hX 0 rfl rfl dX3_row_61 ?_
  refine z_gFR 0 11 hX (by decide) rfl (by decide) rfl q_377 dX3_row_62 (fun r2 => ?_)
  exact z_aretP hX (Or.inr ⟨_, rfl⟩) dX3_row_65 (Nat.le_of_ble_eq_true rfl) (Nat.le_of_ble_eq_true rfl)
theorem c_X3_row (l : Launch) (hl : l.stackTraces = false) (M : Mem) (v0 : Nat) (v1 : Int32) (o : Nat) (ho : f_X3_row M v0 v1 = some o) : Ct l yX3_row cX3_row 2 (some (.array .int)) rm_X3_row [.ref v0, .int v1] M (some (.ref o)) M :=
  Ct.of hl (by decide +kernel) (Nat.le_of_ble_eq_true rfl) rfl (fun X hX hin => z_X3_row hX M v0 v1 o ho)
theorem okS_X3_row : okS yX3_row cX3_row 2 (some (.array .int)) 2 := ⟨q_959, q_89, q_960, by unfold okY; decide +kernel⟩
/-! ParticipatoryBudget$History.change(LParticipatoryBudget$Ballot;III)I -/
abbrev rm_X3_change : Room := { frames := 2, cells := 0, slots := 0, locals := 60 }
set_option maxRecDepth 20000 in
set_option maxHeartbeats 4000000 in
theorem z_X3_change {X : Cxt} (hX : okX X cX3_change RX3 rm_X3_change (some .int) 7) (M : Mem) (v0 : Nat) (v1 : Nat) (v2 : Int32) (v3 : Int32) (v4 : Int32) : Zj X (fun o : Int32 × Mem => Qr X rm_X3_change.cells rm_X3_change.slots (some (.int o.1)) o.2) 0 0 0 [(0, .ref v0), (1, .ref v1), (2, .int v2), (3, .int v3), (4, .int v4)] [] M (f_X3_change M v0 v1 v2 v3 v4) := by
  unfold f_X3_change
  refine z_aload_n hX 0 rfl rfl dX3_change_0 ?_
  refine z_gFI 3 3 hX (by decide) rfl (by decide) rfl q_164 dX3_change_1 (fun x1 => ?_)
  refine z_bipush (v := 10) hX (by decide) dX3_change_4 ?_
  refine z_jn (C' := 0) (S' := 0) 13 (fun (j2 : Mem) => [(0, .ref v0), (1, .ref v1), (2, .int v2), (3, .int v3), (4, .int v4)]) (fun (j2 : Mem) => []) (fun (j2 : Mem) => j2) (fun j2 => ?_) (fun kj2 => ?_)
  · refine z_aload_n hX 1 rfl rfl dX3_change_13 ?_
    refine z_iload_n hX 2 rfl rfl dX3_change_14 ?_
    refine z_cSAp [.ref v1, .int v2] hX (fun l hl o ho => c_X3_row l hl j2 v1 v2 o ho) dX3_change_15 q_958 okS_X3_row rfl ⟨(Nat.le_of_ble_eq_true rfl), (Nat.le_of_ble_eq_true rfl)⟩ rfl (Nat.le_of_ble_eq_true rfl) rfl rfl ⟨(Nat.le_of_ble_eq_true rfl), (Nat.le_of_ble_eq_true rfl)⟩ (fun o3 => ?_)
    refine z_astore hX [(5, .ref o3), (0, .ref v0), (1, .ref v1), (2, .int v2), (3, .int v3), (4, .int v4)] (by decide) rfl dX3_change_18 ?_
    refine z_aload hX 0 rfl dX3_change_20 ?_
    refine z_iload_n hX 4 rfl rfl dX3_change_22 ?_
    refine z_aI hX dX3_change_23 (fun x4 => ?_)
    refine z_istore hX [(6, .int x4), (5, .ref o3), (0, .ref v0), (1, .ref v1), (2, .int v2), (3, .int v3), (4, .int v4)] (by decide) rfl dX3_change_24 ?_
    refine z_aload_n hX 2 rfl rfl dX3_change_26 ?_
    refine z_gFR 3 0 hX (by decide) rfl (by decide) rfl q_161 dX3_change_27 (fun r5 => ?_)
    refine z_aload_n hX 2 rfl rfl dX3_change_30 ?_
    refine z_gFI 3 3 hX (by decide) rfl (by decide) rfl q_164 dX3_change_31 (fun x6 => ?_)
    refine z_iload_n hX 4 rfl rfl dX3_change_34 ?_
    refine z_wI hX dX3_change_35 (fun M7 => ?_)
    refine z_aload_n hX 2 rfl rfl dX3_change_36 ?_
    refine z_gFR 3 1 hX (by decide) rfl (by decide) rfl q_162 dX3_change_37 (fun r8 => ?_)
    refine z_aload_n hX 2 rfl rfl dX3_change_40 ?_
    refine z_gFI 3 3 hX (by decide) rfl (by decide) rfl q_164 dX3_change_41 (fun x9 => ?_)
    refine z_iload_n hX 5 rfl rfl dX3_change_44 ?_
    refine z_wI hX dX3_change_45 (fun M10 => ?_)
    refine z_aload_n hX 2 rfl rfl dX3_change_46 ?_
    refine z_gFR 3 2 hX (by decide) rfl (by decide) rfl q_163 dX3_change_47 (fun r11 => ?_)
    refine z_aload_n hX 2 rfl rfl dX3_change_50 ?_
    refine z_gFI 3 3 hX (by decide) rfl (by decide) rfl q_164 dX3_change_51 (fun x12 => ?_)
    refine z_iload hX 0 rfl dX3_change_54 ?_
    refine z_wI hX dX3_change_56 (fun M13 => ?_)
    refine z_aload_n hX 2 rfl rfl dX3_change_57 ?_
    refine z_dup hX rfl dX3_change_58 ?_
    refine z_gFI 3 3 hX (by decide) rfl (by decide) rfl q_164 dX3_change_59 (fun x14 => ?_)
    refine z_iconst (v := 1) hX (by decide) dX3_change_62 ?_
    refine z_iadd hX dX3_change_63 ?_
    refine z_pFI 3 3 hX (by decide) rfl (by decide) rfl q_164 rfl pd_1 rfl rfl dX3_change_64 (fun M15 => ?_)
    refine z_aload hX 1 rfl dX3_change_67 ?_
    refine z_iload_n hX 5 rfl rfl dX3_change_69 ?_
    refine z_iload hX 6 rfl dX3_change_70 ?_
    refine z_wI hX dX3_change_72 (fun M16 => ?_)
    refine z_iload hX 0 rfl dX3_change_73 ?_
    exact z_iretM hX dX3_change_75 (Nat.le_of_ble_eq_true rfl) (Nat.le_of_ble_eq_true rfl)
  · refine z_iteB ?_
    refine z_icmp_ne hX 13 (by decide) dX3_change_6 (fun _ => ?_) (fun _ => ?_)
    · refine z_pure ?_
      refine z_sub [0, 1, 2, 3, 4] rfl ?_
      exact kj2 M
    · refine z_aload_n hX 0 rfl rfl dX3_change_9 ?_
      refine z_asc ?_
      refine z_asc2 ?_
      refine z_cVVm 3 [] hX (fun l hl o ho => c_X3_forgetOldest l hl M v0 o ho) dX3_change_10 (by decide) rfl rfl q_953 okV_X3_forgetOldest rfl ⟨(Nat.le_of_ble_eq_true rfl), (Nat.le_of_ble_eq_true rfl)⟩ rfl (Nat.le_of_ble_eq_true rfl) rfl rfl ⟨(Nat.le_of_ble_eq_true rfl), (Nat.le_of_ble_eq_true rfl)⟩ (fun o17 => ?_)
      refine z_pure ?_
      refine z_sub [0, 1, 2, 3, 4] rfl ?_
      exact kj2 o17
theorem c_X3_change (l : Launch) (hl : l.stackTraces = false) (M : Mem) (v0 : Nat) (v1 : Nat) (v2 : Int32) (v3 : Int32) (v4 : Int32) (o : Int32 × Mem) (ho : f_X3_change M v0 v1 v2 v3 v4 = some o) : Ct l yX3_change cX3_change 7 (some .int) rm_X3_change [.ref v0, .ref v1, .int v2, .int v3, .int v4] M (some (.int o.1)) o.2 :=
  Ct.of hl (by decide +kernel) (Nat.le_of_ble_eq_true rfl) rfl (fun X hX hin => z_X3_change hX M v0 v1 v2 v3 v4 o ho)
theorem okV_X3_change : okV yX3_change cX3_change 7 (some .int) 4 := ⟨q_950, q_951, q_89, q_952, by unfold okY; decide +kernel⟩
/-! ParticipatoryBudget$History.undoLatest(LParticipatoryBudget$Ballot;)V -/
abbrev rm_X3_undoLatest : Room := { frames := 1, cells := 0, slots := 0, locals := 21 }
set_option maxRecDepth 20000 in
set_option maxHeartbeats 4000000 in
theorem z_X3_undoLatest {X : Cxt} (hX : okX X cX3_undoLatest RX3 rm_X3_undoLatest (none) 2) (M : Mem) (v0 : Nat) (v1 : Nat) : Zj X (fun o : Mem => Qr X rm_X3_undoLatest.cells rm_X3_undoLatest.slots (none) o) 0 0 0 [(0, .ref v0), (1, .ref v1)] [] M (f_X3_undoLatest M v0 v1) := by
  unfold f_X3_undoLatest
  refine z_aload_n hX 0 rfl rfl dX3_undoLatest_0 ?_
  refine z_gFI 3 3 hX (by decide) rfl (by decide) rfl q_164 dX3_undoLatest_1 (fun x1 => ?_)
  refine z_jn (C' := 0) (S' := 0) 49 (fun (j2 : Mem) => []) (fun (j2 : Mem) => []) (fun (j2 : Mem) => j2) (fun j2 => ?_) (fun kj2 => ?_)
  · exact z_vretM hX dX3_undoLatest_49 (Nat.le_of_ble_eq_true rfl) (Nat.le_of_ble_eq_true rfl)
  · refine z_iteB ?_
    refine z_if_le hX 49 (by decide) dX3_undoLatest_4 (fun _ => ?_) (fun _ => ?_)
    · refine z_pure ?_
      refine z_sub [] rfl ?_
      exact kj2 M
    · refine z_aload_n hX 0 rfl rfl dX3_undoLatest_7 ?_
      refine z_dup hX rfl dX3_undoLatest_8 ?_
      refine z_asc ?_
      refine z_gFI 3 3 hX (by decide) rfl (by decide) rfl q_164 dX3_undoLatest_9 (fun x3 => ?_)
      refine z_iconst (v := 1) hX (by decide) dX3_undoLatest_12 ?_
      refine z_isub hX dX3_undoLatest_13 ?_
      refine z_asc ?_
      refine z_pFI 3 3 hX (by decide) rfl (by decide) rfl q_164 rfl pd_1 rfl rfl dX3_undoLatest_14 (fun M4 => ?_)
      refine z_aload_n hX 1 rfl rfl dX3_undoLatest_17 ?_
      refine z_aload_n hX 0 rfl rfl dX3_undoLatest_18 ?_
      refine z_asc ?_
      refine z_gFR 3 0 hX (by decide) rfl (by decide) rfl q_161 dX3_undoLatest_19 (fun r5 => ?_)
      refine z_aload_n hX 0 rfl rfl dX3_undoLatest_22 ?_
      refine z_asc ?_
      refine z_gFI 3 3 hX (by decide) rfl (by decide) rfl q_164 dX3_undoLatest_23 (fun x6 => ?_)
      refine z_asc ?_
      refine z_aI hX dX3_undoLatest_26 (fun x7 => ?_)
      refine z_asc ?_
      refine z_cSAp [.ref v1, .int x7] hX (fun l hl o ho => c_X3_row l hl M4 v1 x7 o ho) dX3_undoLatest_27 q_958 okS_X3_row rfl ⟨(Nat.le_of_ble_eq_true rfl), (Nat.le_of_ble_eq_true rfl)⟩ rfl (Nat.le_of_ble_eq_true rfl) rfl rfl ⟨(Nat.le_of_ble_eq_true rfl), (Nat.le_of_ble_eq_true rfl)⟩ (fun o8 => ?_)
      refine z_aload_n hX 0 rfl rfl dX3_undoLatest_30 ?_
      refine z_asc ?_
      refine z_gFR 3 1 hX (by decide) rfl (by decide) rfl q_162 dX3_undoLatest_31 (fun r9 => ?_)
      refine z_aload_n hX 0 rfl rfl dX3_undoLatest_34 ?_
      refine z_asc ?_
      refine z_gFI 3 3 hX (by decide) rfl (by decide) rfl q_164 dX3_undoLatest_35 (fun x10 => ?_)
      refine z_asc ?_
      refine z_aI hX dX3_undoLatest_38 (fun x11 => ?_)
      refine z_aload_n hX 0 rfl rfl dX3_undoLatest_39 ?_
      refine z_asc ?_
      refine z_gFR 3 2 hX (by decide) rfl (by decide) rfl q_163 dX3_undoLatest_40 (fun r12 => ?_)
      refine z_aload_n hX 0 rfl rfl dX3_undoLatest_43 ?_
      refine z_asc ?_
      refine z_gFI 3 3 hX (by decide) rfl (by decide) rfl q_164 dX3_undoLatest_44 (fun x13 => ?_)
      refine z_asc ?_
      refine z_aI hX dX3_undoLatest_47 (fun x14 => ?_)
      refine z_asc ?_
      refine z_wI hX dX3_undoLatest_48 (fun M15 => ?_)
      refine z_pure ?_
      refine z_sub [] rfl ?_
      exact kj2 M15
theorem c_X3_undoLatest (l : Launch) (hl : l.stackTraces = false) (M : Mem) (v0 : Nat) (v1 : Nat) (o : Mem) (ho : f_X3_undoLatest M v0 v1 = some o) : Ct l yX3_undoLatest cX3_undoLatest 2 (none) rm_X3_undoLatest [.ref v0, .ref v1] M (none) o :=
  Ct.of hl (by decide +kernel) (Nat.le_of_ble_eq_true rfl) rfl (fun X hX hin => z_X3_undoLatest hX M v0 v1 o ho)
theorem okV_X3_undoLatest : okV yX3_undoLatest cX3_undoLatest 2 (none) 1 := ⟨q_991, q_992, q_89, q_993, by unfold okY; decide +kernel⟩
/-! ParticipatoryBudget$Optimum.<init>()V -/
abbrev rm_X4_init : Room := { frames := 1, cells := 4, slots := 8224, locals := 13 }
set_option maxRecDepth 20000 in
set_option maxHeartbeats 4000000 in
theorem z_X4_init {X : Cxt} (hX : okX X cX4_init RX4 rm_X4_init (none) 1) (hin : inX X) (M : Mem) (v0 : Nat) : Zj X (fun o : Mem => Qr X rm_X4_init.cells rm_X4_init.slots (none) o) 0 0 0 [(0, .ref v0)] [] M (f_X4_init M v0) := by
  unfold f_X4_init
  refine z_aload_n hX 0 rfl rfl dX4_init_0 ?_
  refine z_oI hX dX4_init_1 q_286 q_114 q_115 (Nat.le_of_ble_eq_true rfl) (Nat.le_of_ble_eq_true rfl) ?_
  refine z_aload_n hX 0 rfl rfl dX4_init_4 ?_
  refine z_sipush (v := 4096) hX (by decide) dX4_init_5 ?_
  refine z_newA (aty := .int) 20 4096 hX (Or.inl ⟨rfl, rfl⟩) q_175 (by decide) (by decide) (by decide) dX4_init_8 rfl rfl (Nat.le_of_ble_eq_true rfl) (Nat.le_of_ble_eq_true rfl) (fun o1 => ?_)
  refine z_pFRf 4 0 hX hin (by decide) rfl (by decide) rfl q_287 rfl rfl pd_0 rfl rfl dX4_init_10 (fun M2 => ?_)
  refine z_aload_n hX 0 rfl rfl dX4_init_13 ?_
  refine z_sipush (v := 4096) hX (by decide) dX4_init_14 ?_
  refine z_newA (aty := .int) 20 4096 hX (Or.inl ⟨rfl, rfl⟩) q_175 (by decide) (by decide) (by decide) dX4_init_17 rfl rfl (Nat.le_of_ble_eq_true rfl) (Nat.le_of_ble_eq_true rfl) (fun o3 => ?_)
  refine z_pFRf 4 1 hX hin (by decide) rfl (by decide) rfl q_289 rfl rfl pd_0 rfl rfl dX4_init_19 (fun M4 => ?_)
  refine z_aload_n hX 0 rfl rfl dX4_init_22 ?_
  refine z_bipush (v := 16) hX (by decide) dX4_init_23 ?_
  refine z_newA (aty := .int) 20 16 hX (Or.inl ⟨rfl, rfl⟩) q_175 (by decide) (by decide) (by decide) dX4_init_25 rfl rfl (Nat.le_of_ble_eq_true rfl) (Nat.le_of_ble_eq_true rfl) (fun o5 => ?_)
  refine z_pFRf 4 2 hX hin (by decide) rfl (by decide) rfl q_290 rfl rfl pd_0 rfl rfl dX4_init_27 (fun M6 => ?_)
  refine z_aload_n hX 0 rfl rfl dX4_init_30 ?_
  refine z_bipush (v := 16) hX (by decide) dX4_init_31 ?_
  refine z_newA (aty := .int) 20 16 hX (Or.inl ⟨rfl, rfl⟩) q_175 (by decide) (by decide) (by decide) dX4_init_33 rfl rfl (Nat.le_of_ble_eq_true rfl) (Nat.le_of_ble_eq_true rfl) (fun o7 => ?_)
  refine z_pFRf 4 3 hX hin (by decide) rfl (by decide) rfl q_291 rfl rfl pd_0 rfl rfl dX4_init_35 (fun M8 => ?_)
  refine z_aload_n hX 0 rfl rfl dX4_init_38 ?_
  refine z_iconst (v := 1) hX (by decide) dX4_init_39 ?_
  refine z_pFI 4 4 hX (by decide) rfl (by decide) rfl q_292 rfl pd_1 rfl rfl dX4_init_40 (fun M9 => ?_)
  refine z_aload_n hX 0 rfl rfl dX4_init_43 ?_
  refine z_iconst (v := 1) hX (by decide) dX4_init_44 ?_
  refine z_pFI 4 5 hX (by decide) rfl (by decide) rfl q_293 rfl pd_1 rfl rfl dX4_init_45 (fun M10 => ?_)
  exact z_vretM hX dX4_init_48 (Nat.le_of_ble_eq_true rfl) (Nat.le_of_ble_eq_true rfl)
theorem c_X4_init (l : Launch) (hl : l.stackTraces = false) (M : Mem) (v0 : Nat) (o : Mem) (ho : f_X4_init M v0 = some o) : Ct l yX4_init cX4_init 1 (none) rm_X4_init [.ref v0] M (none) o :=
  Ct.of hl (by decide +kernel) (Nat.le_of_ble_eq_true rfl) rfl (fun X hX hin => z_X4_init hX (hin rfl) M v0 o ho)
theorem okI_X4_init : okI yX4_init cX4_init 1 0 := ⟨rfl, q_284, q_93, q_285, by unfold okY; decide +kernel⟩
/-! ParticipatoryBudget$Optimum.projectsWithin(LParticipatoryBudget$Ballot;I)I -/
abbrev rm_X4_projectsWithin : Room := { frames := 0, cells := 0, slots := 0, locals := 0 }
set_option maxRecDepth 20000 in
set_option maxHeartbeats 4000000 in
theorem z_X4_projectsWithin {X : Cxt} (hX : okX X cX4_projectsWithin RX4 rm_X4_projectsWithin (some .int) 4) (M : Mem) (v0 : Nat) (v1 : Int32) : Zj X (fun o : Int32 => Qr X rm_X4_projectsWithin.cells rm_X4_projectsWithin.slots (some (.int o)) M) 0 0 0 [(0, .ref v0), (1, .int v1)] [] M (f_X4_projectsWithin M v0 v1) := by
  unfold f_X4_projectsWithin
  refine z_iconst (v := 0) hX (by decide) dX4_projectsWithin_0 ?_
  refine z_istore_n hX [(2, .int 0), (0, .ref v0), (1, .int v1)] rfl (by decide) rfl dX4_projectsWithin_1 ?_
  refine z_iconst (v := 0) hX (by decide) dX4_projectsWithin_2 ?_
  refine z_istore_n hX [(3, .int 0), (2, .int 0), (0, .ref v0), (1, .int v1)] rfl (by decide) rfl dX4_projectsWithin_3 ?_
  refine z_sub [2, 3, 1, 0] rfl ?_
  refine z_lp (x0 := (0, 0)) (bd_X4_projectsWithin_4 M v0 v1) 4 37 (fun (u1 : Int32 × Int32) => [(0, .ref v0), (1, .int v1), (2, .int u1.1), (3, .int u1.2)]) (fun (e2 : Int32 × Int32) => [(2, .int e2.1)]) (fun (u1 : Int32 × Int32) => M) ?_ ?_
  · intro e2
    refine z_iload_n hX 0 rfl rfl dX4_projectsWithin_37 ?_
    exact z_iretP hX dX4_projectsWithin_38 (Nat.le_of_ble_eq_true rfl) (Nat.le_of_ble_eq_true rfl)
  · intro kk3 rc4 hkk3 hrc4 u1
    unfold bd_X4_projectsWithin_4
    refine z_iload_n hX 3 rfl rfl dX4_projectsWithin_4 ?_
    refine z_aload_n hX 0 rfl rfl dX4_projectsWithin_5 ?_
    refine z_gFI 0 1 hX (by decide) rfl (by decide) rfl q_324 dX4_projectsWithin_6 (fun x5 => ?_)
    refine z_icmp_ge hX 37 (by decide) dX4_projectsWithin_9 (fun _ => ?_) (fun _ => ?_)
    · refine z_sub [2] rfl ?_
      exact hkk3 (u1.1, u1.2)
    · refine z_aload_n hX 0 rfl rfl dX4_projectsWithin_12 ?_
      refine z_gFR 0 7 hX (by decide) rfl (by decide) rfl q_356 dX4_projectsWithin_13 (fun r6 => ?_)
      refine z_iload_n hX 3 rfl rfl dX4_projectsWithin_16 ?_
      refine z_aI hX dX4_projectsWithin_17 (fun x7 => ?_)
      refine z_iload_n hX 1 rfl rfl dX4_projectsWithin_18 ?_
      refine z_iconst (v := (-1)) hX (by decide) dX4_projectsWithin_19 ?_
      refine z_ixor hX dX4_projectsWithin_20 ?_
      refine z_iand hX dX4_projectsWithin_21 ?_
      refine z_jn (C' := 0) (S' := 0) 31 (fun (j8 : Int32) => [(0, .ref v0), (1, .int v1), (2, .int j8), (3, .int u1.2)]) (fun (j8 : Int32) => []) (fun (j8 : Int32) => M) (fun j8 => ?_) (fun kj8 => ?_)
      · refine z_iinc hX 3 [(3, .int (u1.2 + 1)), (0, .ref v0), (1, .int v1), (2, .int j8)] rfl rfl (by decide) rfl dX4_projectsWithin_31 ?_
        refine z_goto hX 4 (by decide) dX4_projectsWithin_34 ?_
        refine z_sub [1, 2, 3, 0] rfl ?_
        exact hrc4 (j8, u1.2 + 1)
      · refine z_iteB ?_
        refine z_if_ne hX 31 (by decide) dX4_projectsWithin_22 (fun _ => ?_) (fun _ => ?_)
        · refine z_pure ?_
          refine z_sub [0, 1, 2, 3] rfl ?_
          exact kj8 u1.1
        · refine z_iload_n hX 2 rfl rfl dX4_projectsWithin_25 ?_
          refine z_iconst (v := 1) hX (by decide) dX4_projectsWithin_26 ?_
          refine z_iload_n hX 3 rfl rfl dX4_projectsWithin_27 ?_
          refine z_ishl hX dX4_projectsWithin_28 ?_
          refine z_ior hX dX4_projectsWithin_29 ?_
          refine z_ltB ?_
          refine z_ltI (fun x9 => ?_)
          refine z_istore_n hX [(2, .int x9), (0, .ref v0), (1, .int v1), (3, .int u1.2)] rfl (by decide) rfl dX4_projectsWithin_30 ?_
          refine z_pure ?_
          refine z_sub [1, 2, 0, 3] rfl ?_
          exact kj8 x9
theorem c_X4_projectsWithin (l : Launch) (hl : l.stackTraces = false) (M : Mem) (v0 : Nat) (v1 : Int32) (o : Int32) (ho : f_X4_projectsWithin M v0 v1 = some o) : Ct l yX4_projectsWithin cX4_projectsWithin 4 (some .int) rm_X4_projectsWithin [.ref v0, .int v1] M (some (.int o)) M :=
  Ct.of hl (by decide +kernel) (Nat.le_of_ble_eq_true rfl) rfl (fun X hX hin => z_X4_projectsWithin hX M v0 v1 o ho)
theorem okS_X4_projectsWithin : okS yX4_projectsWithin cX4_projectsWithin 4 (some .int) 2 := ⟨q_829, q_93, q_830, by unfold okY; decide +kernel⟩
/-! ParticipatoryBudget$Optimum.prepare(LParticipatoryBudget$Ballot;)V -/
abbrev rm_X4_prepare : Room := { frames := 1, cells := 0, slots := 0, locals := 23 }
set_option maxRecDepth 20000 in
set_option maxHeartbeats 4000000 in
theorem z_X4_prepare {X : Cxt} (hX : okX X cX4_prepare RX4 rm_X4_prepare (none) 5) (M : Mem) (v0 : Nat) (v1 : Nat) : Zj X (fun o : Mem => Qr X rm_X4_prepare.cells rm_X4_prepare.slots (none) o) 0 0 0 [(0, .ref v0), (1, .ref v1)] [] M (f_X4_prepare M v0 v1) := by
  unfold f_X4_prepare
  refine z_aload_n hX 0 rfl rfl dX4_prepare_0 ?_
  refine z_iconst (v := 1) hX (by decide) dX4_prepare_1 ?_
  refine z_aload_n hX 1 rfl rfl dX4_prepare_2 ?_
  refine z_gFI 0 1 hX (by decide) rfl (by decide) rfl q_324 dX4_prepare_3 (fun x1 => ?_)
  refine z_ishl hX dX4_prepare_6 ?_
  refine z_pFI 4 4 hX (by decide) rfl (by decide) rfl q_292 rfl pd_1 rfl rfl dX4_prepare_7 (fun M2 => ?_)
  refine z_aload_n hX 0 rfl rfl dX4_prepare_10 ?_
  refine z_iconst (v := 1) hX (by decide) dX4_prepare_11 ?_
  refine z_aload_n hX 1 rfl rfl dX4_prepare_12 ?_
  refine z_gFI 0 0 hX (by decide) rfl (by decide) rfl q_319 dX4_prepare_13 (fun x3 => ?_)
  refine z_ishl hX dX4_prepare_16 ?_
  refine z_pFI 4 5 hX (by decide) rfl (by decide) rfl q_293 rfl pd_1 rfl rfl dX4_prepare_17 (fun M4 => ?_)
  refine z_iconst (v := 0) hX (by decide) dX4_prepare_20 ?_
  refine z_istore_n hX [(2, .int 0), (0, .ref v0), (1, .ref v1)] rfl (by decide) rfl dX4_prepare_21 ?_
  refine z_sub [1, 2, 0] rfl ?_
  refine z_lp (x0 := (0, M4)) (bd_X4_prepare_22 v0 v1) 22 111 (fun (u5 : Int32 × Mem) => [(0, .ref v0), (1, .ref v1), (2, .int u5.1)]) (fun (e6 : Int32 × Mem) => [(0, .ref v0), (1, .ref v1)]) (fun (u5 : Int32 × Mem) => u5.2) ?_ ?_
  · intro e6
    refine z_iconst (v := 0) hX (by decide) dX4_prepare_111 ?_
    refine z_istore_n hX [(2, .int 0), (0, .ref v0), (1, .ref v1)] rfl (by decide) rfl dX4_prepare_112 ?_
    refine z_sub [1, 2, 0] rfl ?_
    refine z_lp (x0 := (0, e6.2)) (bd_X4_prepare_113 v0 v1) 113 165 (fun (u28 : Int32 × Mem) => [(0, .ref v0), (1, .ref v1), (2, .int u28.1)]) (fun (e29 : Int32 × Mem) => [(0, .ref v0), (1, .ref v1)]) (fun (u28 : Int32 × Mem) => u28.2) ?_ ?_
    · intro e29
      refine z_iconst (v := 0) hX (by decide) dX4_prepare_165 ?_
      refine z_istore_n hX [(2, .int 0), (0, .ref v0), (1, .ref v1)] rfl (by decide) rfl dX4_prepare_166 ?_
      refine z_sub [1, 2, 0] rfl ?_
      refine z_lp (x0 := (0, e29.2)) (bd_X4_prepare_167 v0 v1) 167 192 (fun (u43 : Int32 × Mem) => [(0, .ref v0), (1, .ref v1), (2, .int u43.1)]) (fun (e44 : Int32 × Mem) => []) (fun (u43 : Int32 × Mem) => u43.2) ?_ ?_
      · intro e44
        exact z_vretM hX dX4_prepare_192 (Nat.le_of_ble_eq_true rfl) (Nat.le_of_ble_eq_true rfl)
      · intro kk45 rc46 hkk45 hrc46 u43
        unfold bd_X4_prepare_167
        refine z_iload_n hX 2 rfl rfl dX4_prepare_167 ?_
        refine z_aload_n hX 0 rfl rfl dX4_prepare_168 ?_
        refine z_gFI 4 5 hX (by decide) rfl (by decide) rfl q_293 dX4_prepare_169 (fun x47 => ?_)
        refine z_icmp_ge hX 192 (by decide) dX4_prepare_172 (fun _ => ?_) (fun _ => ?_)
        · refine z_sub [] rfl ?_
          exact hkk45 (u43.1, u43.2)
        · refine z_aload_n hX 0 rfl rfl dX4_prepare_175 ?_
          refine z_gFR 4 2 hX (by decide) rfl (by decide) rfl q_290 dX4_prepare_176 (fun r48 => ?_)
          refine z_iload_n hX 2 rfl rfl dX4_prepare_179 ?_
          refine z_aload_n hX 1 rfl rfl dX4_prepare_180 ?_
          refine z_iload_n hX 2 rfl rfl dX4_prepare_181 ?_
          refine z_cSIp [.ref v1, .int u43.1] hX (fun l hl o ho => c_X4_projectsWithin l hl u43.2 v1 u43.1 o ho) dX4_prepare_182 q_828 okS_X4_projectsWithin rfl ⟨(Nat.le_of_ble_eq_true rfl), (Nat.le_of_ble_eq_true rfl)⟩ rfl (Nat.le_of_ble_eq_true rfl) rfl rfl ⟨(Nat.le_of_ble_eq_true rfl), (Nat.le_of_ble_eq_true rfl)⟩ (fun o49 => ?_)
          refine z_wI hX dX4_prepare_185 (fun M50 => ?_)
          refine z_iinc hX 2 [(2, .int (u43.1 + 1)), (0, .ref v0), (1, .ref v1)] rfl rfl (by decide) rfl dX4_prepare_186 ?_
          refine z_goto hX 167 (by decide) dX4_prepare_189 ?_
          refine z_sub [1, 2, 0] rfl ?_
          exact hrc46 (u43.1 + 1, M50)
    · intro kk30 rc31 hkk30 hrc31 u28
      unfold bd_X4_prepare_113
      refine z_iload_n hX 2 rfl rfl dX4_prepare_113 ?_
      refine z_aload_n hX 1 rfl rfl dX4_prepare_114 ?_
      refine z_gFI 0 0 hX (by decide) rfl (by decide) rfl q_319 dX4_prepare_115 (fun x32 => ?_)
      refine z_icmp_ge hX 165 (by decide) dX4_prepare_118 (fun _ => ?_) (fun _ => ?_)
      · refine z_sub [0, 1] rfl ?_
        exact hkk30 (u28.1, u28.2)
      · refine z_iconst (v := 0) hX (by decide) dX4_prepare_121 ?_
        refine z_istore_n hX [(3, .int 0), (0, .ref v0), (1, .ref v1), (2, .int u28.1)] rfl (by decide) rfl dX4_prepare_122 ?_
        refine z_sub [1, 2, 3, 0] rfl ?_
        refine z_lp (x0 := (0, u28.2)) (bd_X4_prepare_123 v0 v1 u28) 123 159 (fun (u33 : Int32 × Mem) => [(0, .ref v0), (1, .ref v1), (2, .int u28.1), (3, .int u33.1)]) (fun (e34 : Int32 × Mem) => [(0, .ref v0), (1, .ref v1), (2, .int u28.1)]) (fun (u33 : Int32 × Mem) => u33.2) ?_ ?_
        · intro e34
          refine z_iinc hX 2 [(2, .int (u28.1 + 1)), (0, .ref v0), (1, .ref v1)] rfl rfl (by decide) rfl dX4_prepare_159 ?_
          refine z_goto hX 113 (by decide) dX4_prepare_162 ?_
          refine z_sub [1, 2, 0] rfl ?_
          exact hrc31 (u28.1 + 1, e34.2)
        · intro kk35 rc36 hkk35 hrc36 u33
          unfold bd_X4_prepare_123
          refine z_iload_n hX 3 rfl rfl dX4_prepare_123 ?_
          refine z_iconst (v := 1) hX (by decide) dX4_prepare_124 ?_
          refine z_iload_n hX 2 rfl rfl dX4_prepare_125 ?_
          refine z_ishl hX dX4_prepare_126 ?_
          refine z_icmp_ge hX 159 (by decide) dX4_prepare_127 (fun _ => ?_) (fun _ => ?_)
          · refine z_sub [0, 1, 2] rfl ?_
            exact hkk35 (u33.1, u33.2)
          · refine z_aload_n hX 0 rfl rfl dX4_prepare_130 ?_
            refine z_gFR 4 3 hX (by decide) rfl (by decide) rfl q_291 dX4_prepare_131 (fun r37 => ?_)
            refine z_iload_n hX 3 rfl rfl dX4_prepare_134 ?_
            refine z_iconst (v := 1) hX (by decide) dX4_prepare_135 ?_
            refine z_iload_n hX 2 rfl rfl dX4_prepare_136 ?_
            refine z_ishl hX dX4_prepare_137 ?_
            refine z_ior hX dX4_prepare_138 ?_
            refine z_aload_n hX 0 rfl rfl dX4_prepare_139 ?_
            refine z_gFR 4 3 hX (by decide) rfl (by decide) rfl q_291 dX4_prepare_140 (fun r38 => ?_)
            refine z_iload_n hX 3 rfl rfl dX4_prepare_143 ?_
            refine z_aI hX dX4_prepare_144 (fun x39 => ?_)
            refine z_aload_n hX 1 rfl rfl dX4_prepare_145 ?_
            refine z_gFR 0 4 hX (by decide) rfl (by decide) rfl q_339 dX4_prepare_146 (fun r40 => ?_)
            refine z_iload_n hX 2 rfl rfl dX4_prepare_149 ?_
            refine z_aI hX dX4_prepare_150 (fun x41 => ?_)
            refine z_iadd hX dX4_prepare_151 ?_
            refine z_wI hX dX4_prepare_152 (fun M42 => ?_)
            refine z_iinc hX 3 [(3, .int (u33.1 + 1)), (0, .ref v0), (1, .ref v1), (2, .int u28.1)] rfl rfl (by decide) rfl dX4_prepare_153 ?_
            refine z_goto hX 123 (by decide) dX4_prepare_156 ?_
            refine z_sub [1, 2, 3, 0] rfl ?_
            exact hrc36 (u33.1 + 1, M42)
  · intro kk7 rc8 hkk7 hrc8 u5
    unfold bd_X4_prepare_22
    refine z_iload_n hX 2 rfl rfl dX4_prepare_22 ?_
    refine z_aload_n hX 1 rfl rfl dX4_prepare_23 ?_
    refine z_gFI 0 1 hX (by decide) rfl (by decide) rfl q_324 dX4_prepare_24 (fun x9 => ?_)
    refine z_icmp_ge hX 111 (by decide) dX4_prepare_27 (fun _ => ?_) (fun _ => ?_)
    · refine z_sub [0, 1] rfl ?_
      exact hkk7 (u5.1, u5.2)
    · refine z_aload_n hX 1 rfl rfl dX4_prepare_30 ?_
      refine z_gFR 0 13 hX (by decide) rfl (by decide) rfl q_385 dX4_prepare_31 (fun r10 => ?_)
      refine z_iload_n hX 2 rfl rfl dX4_prepare_34 ?_
      refine z_aI hX dX4_prepare_35 (fun x11 => ?_)
      refine z_aload_n hX 1 rfl rfl dX4_prepare_36 ?_
      refine z_iload_n hX 2 rfl rfl dX4_prepare_37 ?_
      refine z_cVIp 0 [.int u5.1] hX (fun l hl o ho => c_X0_worth l hl u5.2 v1 u5.1 o ho) dX4_prepare_38 (by decide) rfl rfl q_824 okV_X0_worth rfl ⟨(Nat.le_of_ble_eq_true rfl), (Nat.le_of_ble_eq_true rfl)⟩ rfl (Nat.le_of_ble_eq_true rfl) rfl rfl ⟨(Nat.le_of_ble_eq_true rfl), (Nat.le_of_ble_eq_true rfl)⟩ (fun o12 => ?_)
      refine z_imul hX dX4_prepare_41 ?_
      refine z_ltI (fun x13 => ?_)
      refine z_istore_n hX [(3, .int x13), (0, .ref v0), (1, .ref v1), (2, .int u5.1)] rfl (by decide) rfl dX4_prepare_42 ?_
      refine z_iconst (v := 0) hX (by decide) dX4_prepare_43 ?_
      refine z_istore hX [(4, .int 0), (3, .int x13), (0, .ref v0), (1, .ref v1), (2, .int u5.1)] (by decide) rfl dX4_prepare_44 ?_
      refine z_sub [2, 3, 4, 1, 0] rfl ?_
      refine z_lp (x0 := (0, u5.2)) (bd_X4_prepare_46 v0 v1 u5 x13) 46 105 (fun (u14 : Int32 × Mem) => [(0, .ref v0), (1, .ref v1), (2, .int u5.1), (3, .int x13), (4, .int u14.1)]) (fun (e15 : Int32 × Mem) => [(0, .ref v0), (1, .ref v1), (2, .int u5.1)]) (fun (u14 : Int32 × Mem) => u14.2) ?_ ?_
      · intro e15
        refine z_iinc hX 2 [(2, .int (u5.1 + 1)), (0, .ref v0), (1, .ref v1)] rfl rfl (by decide) rfl dX4_prepare_105 ?_
        refine z_goto hX 22 (by decide) dX4_prepare_108 ?_
        refine z_sub [1, 2, 0] rfl ?_
        exact hrc8 (u5.1 + 1, e15.2)
      · intro kk16 rc17 hkk16 hrc17 u14
        unfold bd_X4_prepare_46
        refine z_iload hX 4 rfl dX4_prepare_46 ?_
        refine z_iconst (v := 1) hX (by decide) dX4_prepare_48 ?_
        refine z_iload_n hX 2 rfl rfl dX4_prepare_49 ?_
        refine z_ishl hX dX4_prepare_50 ?_
        refine z_icmp_ge hX 105 (by decide) dX4_prepare_51 (fun _ => ?_) (fun _ => ?_)
        · refine z_sub [0, 1, 2] rfl ?_
          exact hkk16 (u14.1, u14.2)
        · refine z_aload_n hX 0 rfl rfl dX4_prepare_54 ?_
          refine z_gFR 4 0 hX (by decide) rfl (by decide) rfl q_287 dX4_prepare_55 (fun r18 => ?_)
          refine z_iload hX 4 rfl dX4_prepare_58 ?_
          refine z_iconst (v := 1) hX (by decide) dX4_prepare_60 ?_
          refine z_iload_n hX 2 rfl rfl dX4_prepare_61 ?_
          refine z_ishl hX dX4_prepare_62 ?_
          refine z_ior hX dX4_prepare_63 ?_
          refine z_aload_n hX 0 rfl rfl dX4_prepare_64 ?_
          refine z_gFR 4 0 hX (by decide) rfl (by decide) rfl q_287 dX4_prepare_65 (fun r19 => ?_)
          refine z_iload hX 4 rfl dX4_prepare_68 ?_
          refine z_aI hX dX4_prepare_70 (fun x20 => ?_)
          refine z_iload_n hX 3 rfl rfl dX4_prepare_71 ?_
          refine z_iadd hX dX4_prepare_72 ?_
          refine z_wI hX dX4_prepare_73 (fun M21 => ?_)
          refine z_aload_n hX 0 rfl rfl dX4_prepare_74 ?_
          refine z_gFR 4 1 hX (by decide) rfl (by decide) rfl q_289 dX4_prepare_75 (fun r22 => ?_)
          refine z_iload hX 4 rfl dX4_prepare_78 ?_
          refine z_iconst (v := 1) hX (by decide) dX4_prepare_80 ?_
          refine z_iload_n hX 2 rfl rfl dX4_prepare_81 ?_
          refine z_ishl hX dX4_prepare_82 ?_
          refine z_ior hX dX4_prepare_83 ?_
          refine z_aload_n hX 0 rfl rfl dX4_prepare_84 ?_
          refine z_gFR 4 1 hX (by decide) rfl (by decide) rfl q_289 dX4_prepare_85 (fun r23 => ?_)
          refine z_iload hX 4 rfl dX4_prepare_88 ?_
          refine z_aI hX dX4_prepare_90 (fun x24 => ?_)
          refine z_aload_n hX 1 rfl rfl dX4_prepare_91 ?_
          refine z_gFR 0 6 hX (by decide) rfl (by decide) rfl q_349 dX4_prepare_92 (fun r25 => ?_)
          refine z_iload_n hX 2 rfl rfl dX4_prepare_95 ?_
          refine z_aI hX dX4_prepare_96 (fun x26 => ?_)
          refine z_iadd hX dX4_prepare_97 ?_
          refine z_wI hX dX4_prepare_98 (fun M27 => ?_)
          refine z_iinc hX 4 [(4, .int (u14.1 + 1)), (0, .ref v0), (1, .ref v1), (2, .int u5.1), (3, .int x13)] rfl rfl (by decide) rfl dX4_prepare_99 ?_
          refine z_goto hX 46 (by decide) dX4_prepare_102 ?_
          refine z_sub [1, 2, 3, 4, 0] rfl ?_
          exact hrc17 (u14.1 + 1, M27)
theorem c_X4_prepare (l : Launch) (hl : l.stackTraces = false) (M : Mem) (v0 : Nat) (v1 : Nat) (o : Mem) (ho : f_X4_prepare M v0 v1 = some o) : Ct l yX4_prepare cX4_prepare 5 (none) rm_X4_prepare [.ref v0, .ref v1] M (none) o :=
  Ct.of hl (by decide +kernel) (Nat.le_of_ble_eq_true rfl) rfl (fun X hX hin => z_X4_prepare hX M v0 v1 o ho)
theorem okV_X4_prepare : okV yX4_prepare cX4_prepare 5 (none) 1 := ⟨q_821, q_822, q_93, q_823, by unfold okY; decide +kernel⟩
/-! ParticipatoryBudget$Optimum.canPay(I)Z -/
abbrev rm_X4_canPay : Room := { frames := 0, cells := 0, slots := 0, locals := 0 }
set_option maxRecDepth 20000 in
set_option maxHeartbeats 4000000 in
theorem z_X4_canPay {X : Cxt} (hX : okX X cX4_canPay RX4 rm_X4_canPay (some .boolean) 3) (M : Mem) (v0 : Nat) (v1 : Int32) : Zj X (fun o : Int32 => Qr X rm_X4_canPay.cells rm_X4_canPay.slots (some (.int o)) M) 0 0 0 [(0, .ref v0), (1, .int v1)] [] M (f_X4_canPay M v0 v1) := by
  unfold f_X4_canPay
  refine z_iconst (v := 0) hX (by decide) dX4_canPay_0 ?_
  refine z_istore_n hX [(2, .int 0), (0, .ref v0), (1, .int v1)] rfl (by decide) rfl dX4_canPay_1 ?_
  refine z_sub [1, 2, 0] rfl ?_
  refine z_lp (x0 := 0) (bd_X4_canPay_2 M v0 v1) 2 40 (fun (u1 : Int32) => [(0, .ref v0), (1, .int v1), (2, .int u1)]) (fun (e2 : Int32) => []) (fun (u1 : Int32) => M) ?_ ?_
  · intro e2
    refine z_iconst (v := 1) hX (by decide) dX4_canPay_40 ?_
    exact z_zretP hX dX4_canPay_41 (Nat.le_of_ble_eq_true rfl) (Nat.le_of_ble_eq_true rfl)
  · intro kk3 rc4 hkk3 hrc4 u1
    unfold bd_X4_canPay_2
    refine z_iload_n hX 2 rfl rfl dX4_canPay_2 ?_
    refine z_aload_n hX 0 rfl rfl dX4_canPay_3 ?_
    refine z_gFI 4 5 hX (by decide) rfl (by decide) rfl q_293 dX4_canPay_4 (fun x5 => ?_)
    refine z_icmp_ge hX 40 (by decide) dX4_canPay_7 (fun _ => ?_) (fun _ => ?_)
    · refine z_sub [] rfl ?_
      exact hkk3 u1
    · refine z_aload_n hX 0 rfl rfl dX4_canPay_10 ?_
      refine z_gFR 4 1 hX (by decide) rfl (by decide) rfl q_289 dX4_canPay_11 (fun r6 => ?_)
      refine z_iload_n hX 1 rfl rfl dX4_canPay_14 ?_
      refine z_aload_n hX 0 rfl rfl dX4_canPay_15 ?_
      refine z_gFR 4 2 hX (by decide) rfl (by decide) rfl q_290 dX4_canPay_16 (fun r7 => ?_)
      refine z_iload_n hX 2 rfl rfl dX4_canPay_19 ?_
      refine z_aI hX dX4_canPay_20 (fun x8 => ?_)
      refine z_iand hX dX4_canPay_21 ?_
      refine z_aI hX dX4_canPay_22 (fun x9 => ?_)
      refine z_aload_n hX 0 rfl rfl dX4_canPay_23 ?_
      refine z_gFR 4 3 hX (by decide) rfl (by decide) rfl q_291 dX4_canPay_24 (fun r10 => ?_)
      refine z_iload_n hX 2 rfl rfl dX4_canPay_27 ?_
      refine z_aI hX dX4_canPay_28 (fun x11 => ?_)
      refine z_icmp_le hX 34 (by decide) dX4_canPay_29 (fun _ => ?_) (fun _ => ?_)
      · refine z_iinc hX 2 [(2, .int (u1 + 1)), (0, .ref v0), (1, .int v1)] rfl rfl (by decide) rfl dX4_canPay_34 ?_
        refine z_goto hX 2 (by decide) dX4_canPay_37 ?_
        refine z_sub [1, 2, 0] rfl ?_
        exact hrc4 (u1 + 1)
      · refine z_iconst (v := 0) hX (by decide) dX4_canPay_32 ?_
        exact z_zretP hX dX4_canPay_33 (Nat.le_of_ble_eq_true rfl) (Nat.le_of_ble_eq_true rfl)
theorem c_X4_canPay (l : Launch) (hl : l.stackTraces = false) (M : Mem) (v0 : Nat) (v1 : Int32) (o : Int32) (ho : f_X4_canPay M v0 v1 = some o) : Ct l yX4_canPay cX4_canPay 3 (some .boolean) rm_X4_canPay [.ref v0, .int v1] M (some (.int o)) M :=
  Ct.of hl (by decide +kernel) (Nat.le_of_ble_eq_true rfl) rfl (fun X hX hin => z_X4_canPay hX M v0 v1 o ho)
theorem okV_X4_canPay : okV yX4_canPay cX4_canPay 3 (some .boolean) 1 := ⟨q_836, q_837, q_93, q_838, by unfold okY; decide +kernel⟩
/-! ParticipatoryBudget$Optimum.best(I)I -/
abbrev rm_X4_best : Room := { frames := 1, cells := 0, slots := 0, locals := 22 }
set_option maxRecDepth 20000 in
set_option maxHeartbeats 4000000 in
theorem z_X4_best {X : Cxt} (hX : okX X cX4_best RX4 rm_X4_best (some .int) 5) (M : Mem) (v0 : Nat) (v1 : Int32) : Zj X (fun o : Int32 => Qr X rm_X4_best.cells rm_X4_best.slots (some (.int o)) M) 0 0 0 [(0, .ref v0), (1, .int v1)] [] M (f_X4_best M v0 v1) := by
  unfold f_X4_best
  refine z_iconst (v := 0) hX (by decide) dX4_best_0 ?_
  refine z_istore_n hX [(2, .int 0), (0, .ref v0), (1, .int v1)] rfl (by decide) rfl dX4_best_1 ?_
  refine z_iconst (v := 1) hX (by decide) dX4_best_2 ?_
  refine z_istore_n hX [(3, .int 1), (2, .int 0), (0, .ref v0), (1, .int v1)] rfl (by decide) rfl dX4_best_3 ?_
  refine z_sub [2, 3, 1, 0] rfl ?_
  refine z_lp (x0 := (0, 1)) (bd_X4_best_4 M v0 v1) 4 91 (fun (u1 : Int32 × Int32) => [(0, .ref v0), (1, .int v1), (2, .int u1.1), (3, .int u1.2)]) (fun (e2 : Int32 × Int32) => [(2, .int e2.1)]) (fun (u1 : Int32 × Int32) => M) ?_ ?_
  · intro e2
    refine z_iload_n hX 0 rfl rfl dX4_best_91 ?_
    exact z_iretP hX dX4_best_92 (Nat.le_of_ble_eq_true rfl) (Nat.le_of_ble_eq_true rfl)
  · intro kk3 rc4 hkk3 hrc4 u1
    unfold bd_X4_best_4
    refine z_iload_n hX 3 rfl rfl dX4_best_4 ?_
    refine z_aload_n hX 0 rfl rfl dX4_best_5 ?_
    refine z_gFI 4 4 hX (by decide) rfl (by decide) rfl q_292 dX4_best_6 (fun x5 => ?_)
    refine z_icmp_ge hX 91 (by decide) dX4_best_9 (fun _ => ?_) (fun _ => ?_)
    · refine z_sub [2] rfl ?_
      exact hkk3 (u1.1, u1.2)
    · refine z_aload_n hX 0 rfl rfl dX4_best_12 ?_
      refine z_gFR 4 0 hX (by decide) rfl (by decide) rfl q_287 dX4_best_13 (fun r6 => ?_)
      refine z_iload_n hX 3 rfl rfl dX4_best_16 ?_
      refine z_aI hX dX4_best_17 (fun x7 => ?_)
      refine z_aload_n hX 0 rfl rfl dX4_best_18 ?_
      refine z_gFR 4 0 hX (by decide) rfl (by decide) rfl q_287 dX4_best_19 (fun r8 => ?_)
      refine z_iload_n hX 2 rfl rfl dX4_best_22 ?_
      refine z_aI hX dX4_best_23 (fun x9 => ?_)
      refine z_jn (C' := 0) (S' := 0) 62 (fun (j10 : Int32) => [(0, .ref v0), (1, .int v1), (2, .int u1.1), (3, .int u1.2)]) (fun (j10 : Int32) => [.int j10]) (fun (j10 : Int32) => M) (fun j10 => ?_) (fun kj10 => ?_)
      · refine z_istore hX [(4, .int j10), (0, .ref v0), (1, .int v1), (2, .int u1.1), (3, .int u1.2)] (by decide) rfl dX4_best_62 ?_
        refine z_iload hX 0 rfl dX4_best_64 ?_
        refine z_jn (C' := 0) (S' := 0) 85 (fun (j11 : Int32) => [(0, .ref v0), (1, .int v1), (2, .int j11), (3, .int u1.2)]) (fun (j11 : Int32) => []) (fun (j11 : Int32) => M) (fun j11 => ?_) (fun kj11 => ?_)
        · refine z_iinc hX 3 [(3, .int (u1.2 + 1)), (0, .ref v0), (1, .int v1), (2, .int j11)] rfl rfl (by decide) rfl dX4_best_85 ?_
          refine z_goto hX 4 (by decide) dX4_best_88 ?_
          refine z_sub [1, 2, 3, 0] rfl ?_
          exact hrc4 (j11, u1.2 + 1)
        · refine z_iteB ?_
          refine z_if_eq hX 85 (by decide) dX4_best_66 (fun _ => ?_) (fun _ => ?_)
          · refine z_pure ?_
            refine z_sub [1, 2, 3, 4] rfl ?_
            exact kj11 u1.1
          · refine z_iload_n hX 4 rfl rfl dX4_best_69 ?_
            refine z_iload_n hX 2 rfl rfl dX4_best_70 ?_
            refine z_iand hX dX4_best_71 ?_
            refine z_iteB ?_
            refine z_if_ne hX 85 (by decide) dX4_best_72 (fun _ => ?_) (fun _ => ?_)
            · refine z_pure ?_
              refine z_sub [1, 2, 3, 4] rfl ?_
              exact kj11 u1.1
            · refine z_aload_n hX 1 rfl rfl dX4_best_75 ?_
              refine z_iload_n hX 4 rfl rfl dX4_best_76 ?_
              refine z_asc ?_
              refine z_asc2 ?_
              refine z_cVIp 4 [.int u1.2] hX (fun l hl o ho => c_X4_canPay l hl M v0 u1.2 o ho) dX4_best_77 (by decide) rfl rfl q_835 okV_X4_canPay rfl ⟨(Nat.le_of_ble_eq_true rfl), (Nat.le_of_ble_eq_true rfl)⟩ rfl (Nat.le_of_ble_eq_true rfl) rfl rfl ⟨(Nat.le_of_ble_eq_true rfl), (Nat.le_of_ble_eq_true rfl)⟩ (fun o12 => ?_)
              refine z_iteB ?_
              refine z_if_eq hX 85 (by decide) dX4_best_80 (fun _ => ?_) (fun _ => ?_)
              · refine z_pure ?_
                refine z_sub [1, 2, 3, 4] rfl ?_
                exact kj11 u1.1
              · refine z_iload_n hX 4 rfl rfl dX4_best_83 ?_
                refine z_istore_n hX [(2, .int u1.2), (4, .int j10), (0, .ref v0), (1, .int v1), (3, .int u1.2)] rfl (by decide) rfl dX4_best_84 ?_
                refine z_pure ?_
                refine z_sub [2, 3, 0, 4] rfl ?_
                exact kj11 u1.2
      · refine z_iteB ?_
        refine z_icmp_gt hX 57 (by decide) dX4_best_24 (fun _ => ?_) (fun _ => ?_)
        · refine z_iconst (v := 1) hX (by decide) dX4_best_57 ?_
          refine z_goto hX 62 (by decide) dX4_best_58 ?_
          refine z_pure ?_
          refine z_sub [0, 1, 2, 3] rfl ?_
          exact kj10 1
        · refine z_aload_n hX 0 rfl rfl dX4_best_27 ?_
          refine z_asc ?_
          refine z_gFR 4 0 hX (by decide) rfl (by decide) rfl q_287 dX4_best_28 (fun r13 => ?_)
          refine z_iload_n hX 3 rfl rfl dX4_best_31 ?_
          refine z_asc ?_
          refine z_aI hX dX4_best_32 (fun x14 => ?_)
          refine z_aload_n hX 0 rfl rfl dX4_best_33 ?_
          refine z_asc ?_
          refine z_gFR 4 0 hX (by decide) rfl (by decide) rfl q_287 dX4_best_34 (fun r15 => ?_)
          refine z_iload_n hX 2 rfl rfl dX4_best_37 ?_
          refine z_asc ?_
          refine z_aI hX dX4_best_38 (fun x16 => ?_)
          refine z_iteB ?_
          refine z_icmp_ne hX 61 (by decide) dX4_best_39 (fun _ => ?_) (fun _ => ?_)
          · refine z_iconst (v := 0) hX (by decide) dX4_best_61 ?_
            refine z_pure ?_
            refine z_sub [0, 1, 2, 3] rfl ?_
            exact kj10 0
          · refine z_aload_n hX 0 rfl rfl dX4_best_42 ?_
            refine z_asc ?_
            refine z_gFR 4 1 hX (by decide) rfl (by decide) rfl q_289 dX4_best_43 (fun r17 => ?_)
            refine z_iload_n hX 3 rfl rfl dX4_best_46 ?_
            refine z_asc ?_
            refine z_aI hX dX4_best_47 (fun x18 => ?_)
            refine z_aload_n hX 0 rfl rfl dX4_best_48 ?_
            refine z_asc ?_
            refine z_gFR 4 1 hX (by decide) rfl (by decide) rfl q_289 dX4_best_49 (fun r19 => ?_)
            refine z_iload_n hX 2 rfl rfl dX4_best_52 ?_
            refine z_asc ?_
            refine z_aI hX dX4_best_53 (fun x20 => ?_)
            refine z_iteB ?_
            refine z_icmp_ge hX 61 (by decide) dX4_best_54 (fun _ => ?_) (fun _ => ?_)
            · refine z_iconst (v := 0) hX (by decide) dX4_best_61 ?_
              refine z_pure ?_
              refine z_sub [0, 1, 2, 3] rfl ?_
              exact kj10 0
            · refine z_iconst (v := 1) hX (by decide) dX4_best_57 ?_
              refine z_goto hX 62 (by decide) dX4_best_58 ?_
              refine z_pure ?_
              refine z_sub [0, 1, 2, 3] rfl ?_
              exact kj10 1
theorem c_X4_best (l : Launch) (hl : l.stackTraces = false) (M : Mem) (v0 : Nat) (v1 : Int32) (o : Int32) (ho : f_X4_best M v0 v1 = some o) : Ct l yX4_best cX4_best 5 (some .int) rm_X4_best [.ref v0, .int v1] M (some (.int o)) M :=
  Ct.of hl (by decide +kernel) (Nat.le_of_ble_eq_true rfl) rfl (fun X hX hin => z_X4_best hX M v0 v1 o ho)
theorem okV_X4_best : okV yX4_best cX4_best 5 (some .int) 1 := ⟨q_832, q_833, q_93, q_834, by unfold okY; decide +kernel⟩
/-! ParticipatoryBudget$Optimum.cheapest(I)I -/
abbrev rm_X4_cheapest : Room := { frames := 1, cells := 0, slots := 0, locals := 22 }
set_option maxRecDepth 20000 in
set_option maxHeartbeats 4000000 in
theorem z_X4_cheapest {X : Cxt} (hX : okX X cX4_cheapest RX4 rm_X4_cheapest (some .int) 5) (M : Mem) (v0 : Nat) (v1 : Int32) : Zj X (fun o : Int32 => Qr X rm_X4_cheapest.cells rm_X4_cheapest.slots (some (.int o)) M) 0 0 0 [(0, .ref v0), (1, .int v1)] [] M (f_X4_cheapest M v0 v1) := by
  unfold f_X4_cheapest
  refine z_iconst (v := (-1)) hX (by decide) dX4_cheapest_0 ?_
  refine z_ltI (fun x1 => ?_)
  refine z_istore_n hX [(2, .int x1), (0, .ref v0), (1, .int v1)] rfl (by decide) rfl dX4_cheapest_1 ?_
  refine z_iconst (v := 0) hX (by decide) dX4_cheapest_2 ?_
  refine z_istore_n hX [(3, .int 0), (2, .int x1), (0, .ref v0), (1, .int v1)] rfl (by decide) rfl dX4_cheapest_3 ?_
  refine z_sub [2, 3, 1, 0] rfl ?_
  refine z_lp (x0 := (x1, 0)) (bd_X4_cheapest_4 M v0 v1) 4 69 (fun (u2 : Int32 × Int32) => [(0, .ref v0), (1, .int v1), (2, .int u2.1), (3, .int u2.2)]) (fun (e3 : Int32 × Int32) => [(2, .int e3.1)]) (fun (u2 : Int32 × Int32) => M) ?_ ?_
  · intro e3
    refine z_iload_n hX 0 rfl rfl dX4_cheapest_69 ?_
    exact z_iretP hX dX4_cheapest_70 (Nat.le_of_ble_eq_true rfl) (Nat.le_of_ble_eq_true rfl)
  · intro kk4 rc5 hkk4 hrc5 u2
    unfold bd_X4_cheapest_4
    refine z_iload_n hX 3 rfl rfl dX4_cheapest_4 ?_
    refine z_aload_n hX 0 rfl rfl dX4_cheapest_5 ?_
    refine z_gFI 4 4 hX (by decide) rfl (by decide) rfl q_292 dX4_cheapest_6 (fun x6 => ?_)
    refine z_icmp_ge hX 69 (by decide) dX4_cheapest_9 (fun _ => ?_) (fun _ => ?_)
    · refine z_sub [2] rfl ?_
      exact hkk4 (u2.1, u2.2)
    · refine z_aload_n hX 0 rfl rfl dX4_cheapest_12 ?_
      refine z_gFR 4 0 hX (by decide) rfl (by decide) rfl q_287 dX4_cheapest_13 (fun r7 => ?_)
      refine z_iload_n hX 3 rfl rfl dX4_cheapest_16 ?_
      refine z_aI hX dX4_cheapest_17 (fun x8 => ?_)
      refine z_iload_n hX 1 rfl rfl dX4_cheapest_18 ?_
      refine z_jn (C' := 0) (S' := 0) 46 (fun (j9 : Int32) => [(0, .ref v0), (1, .int v1), (2, .int u2.1), (3, .int u2.2)]) (fun (j9 : Int32) => [.int j9]) (fun (j9 : Int32) => M) (fun j9 => ?_) (fun kj9 => ?_)
      · refine z_istore hX [(4, .int j9), (0, .ref v0), (1, .int v1), (2, .int u2.1), (3, .int u2.2)] (by decide) rfl dX4_cheapest_46 ?_
        refine z_iload hX 0 rfl dX4_cheapest_48 ?_
        refine z_jn (C' := 0) (S' := 0) 63 (fun (j10 : Int32) => [(0, .ref v0), (1, .int v1), (2, .int j10), (3, .int u2.2)]) (fun (j10 : Int32) => []) (fun (j10 : Int32) => M) (fun j10 => ?_) (fun kj10 => ?_)
        · refine z_iinc hX 3 [(3, .int (u2.2 + 1)), (0, .ref v0), (1, .int v1), (2, .int j10)] rfl rfl (by decide) rfl dX4_cheapest_63 ?_
          refine z_goto hX 4 (by decide) dX4_cheapest_66 ?_
          refine z_sub [1, 2, 3, 0] rfl ?_
          exact hrc5 (j10, u2.2 + 1)
        · refine z_iteB ?_
          refine z_if_eq hX 63 (by decide) dX4_cheapest_50 (fun _ => ?_) (fun _ => ?_)
          · refine z_pure ?_
            refine z_sub [1, 2, 3, 4] rfl ?_
            exact kj10 u2.1
          · refine z_aload_n hX 1 rfl rfl dX4_cheapest_53 ?_
            refine z_iload_n hX 4 rfl rfl dX4_cheapest_54 ?_
            refine z_asc ?_
            refine z_asc2 ?_
            refine z_cVIp 4 [.int u2.2] hX (fun l hl o ho => c_X4_canPay l hl M v0 u2.2 o ho) dX4_cheapest_55 (by decide) rfl rfl q_835 okV_X4_canPay rfl ⟨(Nat.le_of_ble_eq_true rfl), (Nat.le_of_ble_eq_true rfl)⟩ rfl (Nat.le_of_ble_eq_true rfl) rfl rfl ⟨(Nat.le_of_ble_eq_true rfl), (Nat.le_of_ble_eq_true rfl)⟩ (fun o11 => ?_)
            refine z_iteB ?_
            refine z_if_eq hX 63 (by decide) dX4_cheapest_58 (fun _ => ?_) (fun _ => ?_)
            · refine z_pure ?_
              refine z_sub [1, 2, 3, 4] rfl ?_
              exact kj10 u2.1
            · refine z_iload_n hX 4 rfl rfl dX4_cheapest_61 ?_
              refine z_istore_n hX [(2, .int u2.2), (4, .int j9), (0, .ref v0), (1, .int v1), (3, .int u2.2)] rfl (by decide) rfl dX4_cheapest_62 ?_
              refine z_pure ?_
              refine z_sub [2, 3, 0, 4] rfl ?_
              exact kj10 u2.2
      · refine z_iteB ?_
        refine z_icmp_lt hX 45 (by decide) dX4_cheapest_19 (fun _ => ?_) (fun _ => ?_)
        · refine z_iconst (v := 0) hX (by decide) dX4_cheapest_45 ?_
          refine z_pure ?_
          refine z_sub [0, 1, 2, 3] rfl ?_
          exact kj9 0
        · refine z_iload_n hX 2 rfl rfl dX4_cheapest_22 ?_
          refine z_iteB ?_
          refine z_if_lt hX 41 (by decide) dX4_cheapest_23 (fun _ => ?_) (fun _ => ?_)
          · refine z_iconst (v := 1) hX (by decide) dX4_cheapest_41 ?_
            refine z_goto hX 46 (by decide) dX4_cheapest_42 ?_
            refine z_pure ?_
            refine z_sub [0, 1, 2, 3] rfl ?_
            exact kj9 1
          · refine z_aload_n hX 0 rfl rfl dX4_cheapest_26 ?_
            refine z_asc ?_
            refine z_gFR 4 1 hX (by decide) rfl (by decide) rfl q_289 dX4_cheapest_27 (fun r12 => ?_)
            refine z_iload_n hX 3 rfl rfl dX4_cheapest_30 ?_
            refine z_asc ?_
            refine z_aI hX dX4_cheapest_31 (fun x13 => ?_)
            refine z_aload_n hX 0 rfl rfl dX4_cheapest_32 ?_
            refine z_asc ?_
            refine z_gFR 4 1 hX (by decide) rfl (by decide) rfl q_289 dX4_cheapest_33 (fun r14 => ?_)
            refine z_iload_n hX 2 rfl rfl dX4_cheapest_36 ?_
            refine z_asc ?_
            refine z_aI hX dX4_cheapest_37 (fun x15 => ?_)
            refine z_iteB ?_
            refine z_icmp_ge hX 45 (by decide) dX4_cheapest_38 (fun _ => ?_) (fun _ => ?_)
            · refine z_iconst (v := 0) hX (by decide) dX4_cheapest_45 ?_
              refine z_pure ?_
              refine z_sub [0, 1, 2, 3] rfl ?_
              exact kj9 0
            · refine z_iconst (v := 1) hX (by decide) dX4_cheapest_41 ?_
              refine z_goto hX 46 (by decide) dX4_cheapest_42 ?_
              refine z_pure ?_
              refine z_sub [0, 1, 2, 3] rfl ?_
              exact kj9 1
theorem c_X4_cheapest (l : Launch) (hl : l.stackTraces = false) (M : Mem) (v0 : Nat) (v1 : Int32) (o : Int32) (ho : f_X4_cheapest M v0 v1 = some o) : Ct l yX4_cheapest cX4_cheapest 5 (some .int) rm_X4_cheapest [.ref v0, .int v1] M (some (.int o)) M :=
  Ct.of hl (by decide +kernel) (Nat.le_of_ble_eq_true rfl) rfl (fun X hX hin => z_X4_cheapest hX M v0 v1 o ho)
theorem okV_X4_cheapest : okV yX4_cheapest cX4_cheapest 5 (some .int) 1 := ⟨q_937, q_938, q_93, q_939, by unfold okY; decide +kernel⟩
/-! ParticipatoryBudget$Reader.<init>()V -/
abbrev rm_X5_init : Room := { frames := 1, cells := 0, slots := 0, locals := 13 }
set_option maxRecDepth 20000 in
set_option maxHeartbeats 4000000 in
theorem z_X5_init {X : Cxt} (hX : okX X cX5_init RX5 rm_X5_init (none) 1) (hin : inX X) (M : Mem) (v0 : Nat) : Zj X (fun o : Mem => Qr X rm_X5_init.cells rm_X5_init.slots (none) o) 0 0 0 [(0, .ref v0)] [] M (f_X5_init M v0) := by
  unfold f_X5_init
  refine z_aload_n hX 0 rfl rfl dX5_init_0 ?_
  refine z_oI hX dX5_init_1 q_150 q_114 q_115 (Nat.le_of_ble_eq_true rfl) (Nat.le_of_ble_eq_true rfl) ?_
  exact z_vretM hX dX5_init_4 (Nat.le_of_ble_eq_true rfl) (Nat.le_of_ble_eq_true rfl)
theorem c_X5_init (l : Launch) (hl : l.stackTraces = false) (M : Mem) (v0 : Nat) (o : Mem) (ho : f_X5_init M v0 = some o) : Ct l yX5_init cX5_init 1 (none) rm_X5_init [.ref v0] M (none) o :=
  Ct.of hl (by decide +kernel) (Nat.le_of_ble_eq_true rfl) rfl (fun X hX hin => z_X5_init hX (hin rfl) M v0 o ho)
theorem okI_X5_init : okI yX5_init cX5_init 1 0 := ⟨rfl, q_148, q_88, q_149, by unfold okY; decide +kernel⟩
/-! ParticipatoryBudget$Text.isLetter(I)Z -/
abbrev rm_X7_isLetter : Room := { frames := 0, cells := 0, slots := 0, locals := 0 }
set_option maxRecDepth 20000 in
set_option maxHeartbeats 4000000 in
theorem z_X7_isLetter {X : Cxt} (hX : okX X cX7_isLetter RX7 rm_X7_isLetter (some .boolean) 1) (M : Mem) (v0 : Int32) : Zj X (fun o : Int32 => Qr X rm_X7_isLetter.cells rm_X7_isLetter.slots (some (.int o)) M) 0 0 0 [(0, .int v0)] [] M (f_X7_isLetter M v0) := by
  unfold f_X7_isLetter
  refine z_iload_n hX 0 rfl rfl dX7_isLetter_0 ?_
  refine z_bipush (v := 97) hX (by decide) dX7_isLetter_1 ?_
  refine z_jn (C' := 0) (S' := 0) 17 (fun (j1 : Int32) => []) (fun (j1 : Int32) => [.int j1]) (fun (j1 : Int32) => M) (fun j1 => ?_) (fun kj1 => ?_)
  · exact z_zretP hX dX7_isLetter_17 (Nat.le_of_ble_eq_true rfl) (Nat.le_of_ble_eq_true rfl)
  · refine z_iteB ?_
    refine z_icmp_lt hX 16 (by decide) dX7_isLetter_3 (fun _ => ?_) (fun _ => ?_)
    · refine z_iconst (v := 0) hX (by decide) dX7_isLetter_16 ?_
      refine z_pure ?_
      refine z_sub [] rfl ?_
      exact kj1 0
    · refine z_iload_n hX 0 rfl rfl dX7_isLetter_6 ?_
      refine z_bipush (v := 122) hX (by decide) dX7_isLetter_7 ?_
      refine z_iteB ?_
      refine z_icmp_gt hX 16 (by decide) dX7_isLetter_9 (fun _ => ?_) (fun _ => ?_)
      · refine z_iconst (v := 0) hX (by decide) dX7_isLetter_16 ?_
        refine z_pure ?_
        refine z_sub [] rfl ?_
        exact kj1 0
      · refine z_iconst (v := 1) hX (by decide) dX7_isLetter_12 ?_
        refine z_goto hX 17 (by decide) dX7_isLetter_13 ?_
        refine z_pure ?_
        refine z_sub [] rfl ?_
        exact kj1 1
theorem c_X7_isLetter (l : Launch) (hl : l.stackTraces = false) (M : Mem) (v0 : Int32) (o : Int32) (ho : f_X7_isLetter M v0 = some o) : Ct l yX7_isLetter cX7_isLetter 1 (some .boolean) rm_X7_isLetter [.int v0] M (some (.int o)) M :=
  Ct.of hl (by decide +kernel) (Nat.le_of_ble_eq_true rfl) rfl (fun X hX hin => z_X7_isLetter hX M v0 o ho)
theorem okS_X7_isLetter : okS yX7_isLetter cX7_isLetter 1 (some .boolean) 1 := ⟨q_495, q_87, q_496, by unfold okY; decide +kernel⟩
/-! ParticipatoryBudget$Text.isWord(Ljava/lang/String;)Z -/
abbrev rm_X7_isWord : Room := { frames := 7, cells := 0, slots := 0, locals := 181 }
set_option maxRecDepth 20000 in
set_option maxHeartbeats 4000000 in
theorem z_X7_isWord {X : Cxt} (hX : okX X cX7_isWord RX7 rm_X7_isWord (some .boolean) 3) (M : Mem) (v0 : Nat) (v1 : Nat) : Zj X (fun o : Int32 => Qr X rm_X7_isWord.cells rm_X7_isWord.slots (some (.int o)) M) 0 0 0 [(0, .ref v0), (1, .ref v1)] [] M (f_X7_isWord M v0 v1) := by
  unfold f_X7_isWord
  refine z_aload_n hX 0 rfl rfl dX7_isWord_0 ?_
  refine z_gFI 7 5 hX (by decide) rfl (by decide) rfl q_130 dX7_isWord_1 (fun x1 => ?_)
  refine z_aload_n hX 0 rfl rfl dX7_isWord_4 ?_
  refine z_gFI 7 3 hX (by decide) rfl (by decide) rfl q_127 dX7_isWord_5 (fun x2 => ?_)
  refine z_isub hX dX7_isWord_8 ?_
  refine z_aload_n hX 1 rfl rfl dX7_isWord_9 ?_
  refine z_slen hX dX7_isWord_10 q_506 rfl (Nat.le_of_ble_eq_true rfl) (Nat.le_of_ble_eq_true rfl) (Nat.le_of_ble_eq_true rfl) ⟨(Nat.le_of_ble_eq_true rfl), (Nat.le_of_ble_eq_true rfl)⟩ (fun x3 => ?_)
  refine z_icmp_eq hX 18 (by decide) dX7_isWord_13 (fun _ => ?_) (fun _ => ?_)
  · refine z_iconst (v := 0) hX (by decide) dX7_isWord_18 ?_
    refine z_istore_n hX [(2, .int 0), (0, .ref v0), (1, .ref v1)] rfl (by decide) rfl dX7_isWord_19 ?_
    refine z_sub [1, 2, 0] rfl ?_
    refine z_lp (x0 := 0) (bd_X7_isWord_20 M v0 v1) 20 55 (fun (u4 : Int32) => [(0, .ref v0), (1, .ref v1), (2, .int u4)]) (fun (e5 : Int32) => []) (fun (u4 : Int32) => M) ?_ ?_
    · intro e5
      refine z_iconst (v := 1) hX (by decide) dX7_isWord_55 ?_
      exact z_zretP hX dX7_isWord_56 (Nat.le_of_ble_eq_true rfl) (Nat.le_of_ble_eq_true rfl)
    · intro kk6 rc7 hkk6 hrc7 u4
      unfold bd_X7_isWord_20
      refine z_iload_n hX 2 rfl rfl dX7_isWord_20 ?_
      refine z_aload_n hX 1 rfl rfl dX7_isWord_21 ?_
      refine z_slen hX dX7_isWord_22 q_506 rfl (Nat.le_of_ble_eq_true rfl) (Nat.le_of_ble_eq_true rfl) (Nat.le_of_ble_eq_true rfl) ⟨(Nat.le_of_ble_eq_true rfl), (Nat.le_of_ble_eq_true rfl)⟩ (fun x8 => ?_)
      refine z_icmp_ge hX 55 (by decide) dX7_isWord_25 (fun _ => ?_) (fun _ => ?_)
      · refine z_sub [] rfl ?_
        exact hkk6 u4
      · refine z_aload_n hX 0 rfl rfl dX7_isWord_28 ?_
        refine z_gFR 7 0 hX (by decide) rfl (by decide) rfl q_122 dX7_isWord_29 (fun r9 => ?_)
        refine z_aload_n hX 0 rfl rfl dX7_isWord_32 ?_
        refine z_gFI 7 3 hX (by decide) rfl (by decide) rfl q_127 dX7_isWord_33 (fun x10 => ?_)
        refine z_iload_n hX 2 rfl rfl dX7_isWord_36 ?_
        refine z_iadd hX dX7_isWord_37 ?_
        refine z_aB hX dX7_isWord_38 (fun x11 => ?_)
        refine z_aload_n hX 1 rfl rfl dX7_isWord_39 ?_
        refine z_iload_n hX 2 rfl rfl dX7_isWord_40 ?_
        refine z_sch hX dX7_isWord_41 q_516 rfl (Nat.le_of_ble_eq_true rfl) (Nat.le_of_ble_eq_true rfl) (Nat.le_of_ble_eq_true rfl) ⟨(Nat.le_of_ble_eq_true rfl), (Nat.le_of_ble_eq_true rfl)⟩ (fun x12 => ?_)
        refine z_icmp_eq hX 49 (by decide) dX7_isWord_44 (fun _ => ?_) (fun _ => ?_)
        · refine z_iinc hX 2 [(2, .int (u4 + 1)), (0, .ref v0), (1, .ref v1)] rfl rfl (by decide) rfl dX7_isWord_49 ?_
          refine z_goto hX 20 (by decide) dX7_isWord_52 ?_
          refine z_sub [1, 2, 0] rfl ?_
          exact hrc7 (u4 + 1)
        · refine z_iconst (v := 0) hX (by decide) dX7_isWord_47 ?_
          exact z_zretP hX dX7_isWord_48 (Nat.le_of_ble_eq_true rfl) (Nat.le_of_ble_eq_true rfl)
  · refine z_iconst (v := 0) hX (by decide) dX7_isWord_16 ?_
    exact z_zretP hX dX7_isWord_17 (Nat.le_of_ble_eq_true rfl) (Nat.le_of_ble_eq_true rfl)
theorem c_X7_isWord (l : Launch) (hl : l.stackTraces = false) (M : Mem) (v0 : Nat) (v1 : Nat) (o : Int32) (ho : f_X7_isWord M v0 v1 = some o) : Ct l yX7_isWord cX7_isWord 3 (some .boolean) rm_X7_isWord [.ref v0, .ref v1] M (some (.int o)) M :=
  Ct.of hl (by decide +kernel) (Nat.le_of_ble_eq_true rfl) rfl (fun X hX hin => z_X7_isWord hX M v0 v1 o ho)
theorem okV_X7_isWord : okV yX7_isWord cX7_isWord 3 (some .boolean) 1 := ⟨q_504, q_1, q_87, q_505, by unfold okY; decide +kernel⟩
