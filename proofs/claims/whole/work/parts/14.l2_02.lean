theorem dL_law_581 : decode cL_law 581 = .ok (.aload_n 1, 1) := by decide +kernel
theorem dL_law_582 : decode cL_law 582 = .ok (.aload_n 0, 1) := by decide +kernel
theorem dL_law_583 : decode cL_law 583 = .ok (.iload 4, 2) := by decide +kernel
theorem dL_law_585 : decode cL_law 585 = .ok (.iconst 1, 1) := by decide +kernel
theorem dL_law_586 : decode cL_law 586 = .ok (.iadd, 1) := by decide +kernel
theorem dL_law_587 : decode cL_law 587 = .ok (.iaload, 1) := by decide +kernel
theorem dL_law_588 : decode cL_law 588 = .ok (.aload_n 3, 1) := by decide +kernel
theorem dL_law_589 : decode cL_law 589 = .ok (.invokestatic 162, 3) := by decide +kernel
theorem dL_law_592 : decode cL_law 592 = .ok (.istore 5, 2) := by decide +kernel
theorem dL_law_594 : decode cL_law 594 = .ok (.aload_n 2, 1) := by decide +kernel
theorem dL_law_595 : decode cL_law 595 = .ok (.aload_n 0, 1) := by decide +kernel
theorem dL_law_596 : decode cL_law 596 = .ok (.iload 4, 2) := by decide +kernel
theorem dL_law_598 : decode cL_law 598 = .ok (.iconst 1, 1) := by decide +kernel
theorem dL_law_599 : decode cL_law 599 = .ok (.iadd, 1) := by decide +kernel
theorem dL_law_600 : decode cL_law 600 = .ok (.iaload, 1) := by decide +kernel
theorem dL_law_601 : decode cL_law 601 = .ok (.invokevirtual 164, 3) := by decide +kernel
theorem dL_law_604 : decode cL_law 604 = .ok (.istore 6, 2) := by decide +kernel
theorem dL_law_606 : decode cL_law 606 = .ok (.aload_n 2, 1) := by decide +kernel
theorem dL_law_607 : decode cL_law 607 = .ok (.invokevirtual 159, 3) := by decide +kernel
theorem dL_law_610 : decode cL_law 610 = .ok (.iload 5, 2) := by decide +kernel
theorem dL_law_612 : decode cL_law 612 = .ok (.if_icmp .eq 5, 3) := by decide +kernel
theorem dL_law_617 : decode cL_law 617 = .ok (.iload 5, 2) := by decide +kernel
theorem dL_law_619 : decode cL_law 619 = .ok (.ifCond .ne 15, 3) := by decide +kernel
theorem dL_law_622 : decode cL_law 622 = .ok (.aload_n 3, 1) := by decide +kernel
theorem dL_law_623 : decode cL_law 623 = .ok (.iconst 0, 1) := by decide +kernel
theorem dL_law_624 : decode cL_law 624 = .ok (.laload, 1) := by decide +kernel
theorem dL_law_625 : decode cL_law 625 = .ok (.iload 6, 2) := by decide +kernel
theorem dL_law_627 : decode cL_law 627 = .ok (.i2l, 1) := by decide +kernel
theorem dL_law_628 : decode cL_law 628 = .ok (.lcmp, 1) := by decide +kernel
theorem dL_law_629 : decode cL_law 629 = .ok (.ifCond .eq 5, 3) := by decide +kernel
theorem dL_law_634 : decode cL_law 634 = .ok (.goto 2531, 3) := by decide +kernel
theorem dL_law_637 : decode cL_law 637 = .ok (.aload_n 1, 1) := by decide +kernel
theorem dL_law_638 : decode cL_law 638 = .ok (.aload_n 0, 1) := by decide +kernel
theorem dL_law_639 : decode cL_law 639 = .ok (.iload 4, 2) := by decide +kernel
theorem dL_law_641 : decode cL_law 641 = .ok (.iconst 1, 1) := by decide +kernel
theorem dL_law_642 : decode cL_law 642 = .ok (.iadd, 1) := by decide +kernel
theorem dL_law_643 : decode cL_law 643 = .ok (.iaload, 1) := by decide +kernel
theorem dL_law_644 : decode cL_law 644 = .ok (.aload_n 3, 1) := by decide +kernel
theorem dL_law_645 : decode cL_law 645 = .ok (.invokestatic 165, 3) := by decide +kernel
theorem dL_law_648 : decode cL_law 648 = .ok (.istore 5, 2) := by decide +kernel
theorem dL_law_650 : decode cL_law 650 = .ok (.aload_n 2, 1) := by decide +kernel
theorem dL_law_651 : decode cL_law 651 = .ok (.aload_n 0, 1) := by decide +kernel
theorem dL_law_652 : decode cL_law 652 = .ok (.iload 4, 2) := by decide +kernel
theorem dL_law_654 : decode cL_law 654 = .ok (.iconst 1, 1) := by decide +kernel
theorem dL_law_655 : decode cL_law 655 = .ok (.iadd, 1) := by decide +kernel
theorem dL_law_656 : decode cL_law 656 = .ok (.iaload, 1) := by decide +kernel
theorem dL_law_657 : decode cL_law 657 = .ok (.invokevirtual 167, 3) := by decide +kernel
theorem dL_law_660 : decode cL_law 660 = .ok (.istore 6, 2) := by decide +kernel
theorem dL_law_662 : decode cL_law 662 = .ok (.aload_n 2, 1) := by decide +kernel
theorem dL_law_663 : decode cL_law 663 = .ok (.invokevirtual 159, 3) := by decide +kernel
theorem dL_law_666 : decode cL_law 666 = .ok (.iload 5, 2) := by decide +kernel
theorem dL_law_668 : decode cL_law 668 = .ok (.if_icmp .eq 5, 3) := by decide +kernel
theorem dL_law_673 : decode cL_law 673 = .ok (.iload 5, 2) := by decide +kernel
theorem dL_law_675 : decode cL_law 675 = .ok (.ifCond .ne 15, 3) := by decide +kernel
theorem dL_law_678 : decode cL_law 678 = .ok (.aload_n 3, 1) := by decide +kernel
theorem dL_law_679 : decode cL_law 679 = .ok (.iconst 0, 1) := by decide +kernel
theorem dL_law_680 : decode cL_law 680 = .ok (.laload, 1) := by decide +kernel
theorem dL_law_681 : decode cL_law 681 = .ok (.iload 6, 2) := by decide +kernel
theorem dL_law_683 : decode cL_law 683 = .ok (.i2l, 1) := by decide +kernel
theorem dL_law_684 : decode cL_law 684 = .ok (.lcmp, 1) := by decide +kernel
theorem dL_law_685 : decode cL_law 685 = .ok (.ifCond .eq 5, 3) := by decide +kernel
theorem dL_law_690 : decode cL_law 690 = .ok (.goto 2475, 3) := by decide +kernel
set_option maxRecDepth 20000 in
set_option maxHeartbeats 4000000 in
theorem zl_10 {X : Cxt} (hX : okX X cL_law RL room_1 (some .boolean) 8) {Qo : Int32 → State → Prop} (hq0 : ∀ st, Qo 0 st) {C S : Nat} (h1 : C + 3 ≤ room_1.cells) (h2 : S + 18 ≤ room_1.slots) (b x m ou : Nat) (i : Int32) (kj : Mem → Option Int32) (hk : ∀ M, Zj X Qo (C + 3) (S + 18) 3165 [(0, .ref b), (1, .ref x), (2, .ref m), (3, .ref ou), (4, .int i)] [] M (kj M)) (M : Mem) : Zj X Qo C S 581 [(0, .ref b), (1, .ref x), (2, .ref m), (3, .ref ou), (4, .int i)] [] M (cs_10 b x m ou i kj M) := by
  have hc0 : C + 0 ≤ room_1.cells := Nat.le_trans (by omega) h1
  have hs0 : S + 0 ≤ room_1.slots := Nat.le_trans (by omega) h2
  have hc1 : C + 1 ≤ room_1.cells := Nat.le_trans (by omega) h1
  have hs1 : S + 6 ≤ room_1.slots := Nat.le_trans (by omega) h2
  have hc2 : C + 2 ≤ room_1.cells := Nat.le_trans (by omega) h1
  have hs2 : S + 12 ≤ room_1.slots := Nat.le_trans (by omega) h2
  have hc3 : C + 3 ≤ room_1.cells := Nat.le_trans (by omega) h1
  have hs3 : S + 18 ≤ room_1.slots := Nat.le_trans (by omega) h2
  unfold cs_10
  refine z_aload_n hX 1 rfl rfl dL_law_581 ?_
  refine z_aload_n hX 0 rfl rfl dL_law_582 ?_
  refine z_iload hX 4 rfl dL_law_583 ?_
  refine z_iconst (v := 1) hX (by decide) dL_law_585 ?_
  refine z_iadd hX dL_law_586 ?_
  refine z_aI hX dL_law_587 (fun x1 => ?_)
  refine z_aload_n hX 3 rfl rfl dL_law_588 ?_
  refine z_cSw (C' := C + 1) (S' := S + 6) [.ref x, .int x1, .ref ou] hX (fun l hl o ho => cw_L_costOf l hl M x x1 ou o ho) dL_law_589 q_1066 okW_L_costOf rfl ⟨(Nat.le_of_ble_eq_true rfl), (Nat.le_of_ble_eq_true rfl)⟩ rfl (Nat.le_of_ble_eq_true rfl) rfl rfl ⟨hc1, hs1⟩ (fun o2 => ?_)
  refine z_istore hX [(5, .int o2.1), (0, .ref b), (1, .ref x), (2, .ref m), (3, .ref ou), (4, .int i)] (by decide) rfl dL_law_592 ?_
  refine z_aload_n hX 3 rfl rfl dL_law_594 ?_
  refine z_aload_n hX 1 rfl rfl dL_law_595 ?_
  refine z_iload hX 5 rfl dL_law_596 ?_
  refine z_iconst (v := 1) hX (by decide) dL_law_598 ?_
  refine z_iadd hX dL_law_599 ?_
  refine z_aI hX dL_law_600 (fun x3 => ?_)
  refine z_cVIm (C' := (C + 1)) (S' := (S + 6)) 9 [.int x3] hX (fun l hl o ho => c_X9_costOf l hl o2.2 m x3 o ho) dL_law_601 (by decide) rfl rfl q_1591 okV_X9_costOf rfl ⟨(Nat.le_of_ble_eq_true rfl), (Nat.le_of_ble_eq_true rfl)⟩ rfl (Nat.le_of_ble_eq_true rfl) (Nat.add_zero _) (Nat.add_zero _) ⟨hc1, hs1⟩ (fun o4 => ?_)
  refine z_istore hX [(6, .int o4.1), (5, .int o2.1), (0, .ref b), (1, .ref x), (2, .ref m), (3, .ref ou), (4, .int i)] (by decide) rfl dL_law_604 ?_
  refine z_aload_n hX 4 rfl rfl dL_law_606 ?_
  refine z_cVIp (C' := (C + 1)) (S' := (S + 6)) 9 [] hX (fun l hl o ho => c_X9_thrown l hl o4.2 m o ho) dL_law_607 (by decide) rfl rfl q_1439 okV_X9_thrown rfl ⟨(Nat.le_of_ble_eq_true rfl), (Nat.le_of_ble_eq_true rfl)⟩ rfl (Nat.le_of_ble_eq_true rfl) (Nat.add_zero _) (Nat.add_zero _) ⟨hc1, hs1⟩ (fun o5 => ?_)
  refine z_iload hX 1 rfl dL_law_610 ?_
  refine z_icmp_eq hX 617 (by decide) dL_law_612 (fun _ => ?_) (fun _ => ?_)
  · refine z_iload hX 1 rfl dL_law_617 ?_
    refine z_if_ne hX 634 (by decide) dL_law_619 (fun _ => ?_) (fun _ => ?_)
    · refine z_goto hX 3165 (by decide) dL_law_634 ?_
      refine z_sub [2, 3, 4, 5, 6] rfl ?_
      exact z_widen (by omega) (by omega) (hk o4.2)
    · refine z_aload_n hX 5 rfl rfl dL_law_622 ?_
      refine z_iconst (v := 0) hX (by decide) dL_law_623 ?_
      refine z_aL hX dL_law_624 (fun x6 => ?_)
      refine z_iload hX 0 rfl dL_law_625 ?_
      refine z_i2l hX rfl dL_law_627 ?_
      refine z_lcmp hX dL_law_628 ?_
      refine z_if_eq hX 634 (by decide) dL_law_629 (fun _ => ?_) (fun _ => ?_)
      · refine z_goto hX 3165 (by decide) dL_law_634 ?_
        refine z_sub [2, 3, 4, 5, 6] rfl ?_
        exact z_widen (by omega) (by omega) (hk o4.2)
      · exact z_any hq0
  · exact z_any hq0
set_option maxRecDepth 20000 in
set_option maxHeartbeats 4000000 in
theorem zl_11 {X : Cxt} (hX : okX X cL_law RL room_1 (some .boolean) 8) {Qo : Int32 → State → Prop} (hq0 : ∀ st, Qo 0 st) {C S : Nat} (h1 : C + 3 ≤ room_1.cells) (h2 : S + 18 ≤ room_1.slots) (b x m ou : Nat) (i : Int32) (kj : Mem → Option Int32) (hk : ∀ M, Zj X Qo (C + 3) (S + 18) 3165 [(0, .ref b), (1, .ref x), (2, .ref m), (3, .ref ou), (4, .int i)] [] M (kj M)) (M : Mem) : Zj X Qo C S 637 [(0, .ref b), (1, .ref x), (2, .ref m), (3, .ref ou), (4, .int i)] [] M (cs_11 b x m ou i kj M) := by
  have hc0 : C + 0 ≤ room_1.cells := Nat.le_trans (by omega) h1
  have hs0 : S + 0 ≤ room_1.slots := Nat.le_trans (by omega) h2
  have hc1 : C + 1 ≤ room_1.cells := Nat.le_trans (by omega) h1
  have hs1 : S + 6 ≤ room_1.slots := Nat.le_trans (by omega) h2
  have hc2 : C + 2 ≤ room_1.cells := Nat.le_trans (by omega) h1
  have hs2 : S + 12 ≤ room_1.slots := Nat.le_trans (by omega) h2
  have hc3 : C + 3 ≤ room_1.cells := Nat.le_trans (by omega) h1
  have hs3 : S + 18 ≤ room_1.slots := Nat.le_trans (by omega) h2
  unfold cs_11
  refine z_aload_n hX 1 rfl rfl dL_law_637 ?_
  refine z_aload_n hX 0 rfl rfl dL_law_638 ?_
  refine z_iload hX 4 rfl dL_law_639 ?_
  refine z_iconst (v := 1) hX (by decide) dL_law_641 ?_
  refine z_iadd hX dL_law_642 ?_
  refine z_aI hX dL_law_643 (fun x1 => ?_)
  refine z_aload_n hX 3 rfl rfl dL_law_644 ?_
  refine z_cSw (C' := C + 1) (S' := S + 6) [.ref x, .int x1, .ref ou] hX (fun l hl o ho => cw_L_districtsOf l hl M x x1 ou o ho) dL_law_645 q_1073 okW_L_districtsOf rfl ⟨(Nat.le_of_ble_eq_true rfl), (Nat.le_of_ble_eq_true rfl)⟩ rfl (Nat.le_of_ble_eq_true rfl) rfl rfl ⟨hc1, hs1⟩ (fun o2 => ?_)
  refine z_istore hX [(5, .int o2.1), (0, .ref b), (1, .ref x), (2, .ref m), (3, .ref ou), (4, .int i)] (by decide) rfl dL_law_648 ?_
  refine z_aload_n hX 3 rfl rfl dL_law_650 ?_
  refine z_aload_n hX 1 rfl rfl dL_law_651 ?_
  refine z_iload hX 5 rfl dL_law_652 ?_
  refine z_iconst (v := 1) hX (by decide) dL_law_654 ?_
  refine z_iadd hX dL_law_655 ?_
  refine z_aI hX dL_law_656 (fun x3 => ?_)
  refine z_cVIm (C' := (C + 1)) (S' := (S + 6)) 9 [.int x3] hX (fun l hl o ho => c_X9_districtsOf l hl o2.2 m x3 o ho) dL_law_657 (by decide) rfl rfl q_1599 okV_X9_districtsOf rfl ⟨(Nat.le_of_ble_eq_true rfl), (Nat.le_of_ble_eq_true rfl)⟩ rfl (Nat.le_of_ble_eq_true rfl) (Nat.add_zero _) (Nat.add_zero _) ⟨hc1, hs1⟩ (fun o4 => ?_)
  refine z_istore hX [(6, .int o4.1), (5, .int o2.1), (0, .ref b), (1, .ref x), (2, .ref m), (3, .ref ou), (4, .int i)] (by decide) rfl dL_law_660 ?_
  refine z_aload_n hX 4 rfl rfl dL_law_662 ?_
  refine z_cVIp (C' := (C + 1)) (S' := (S + 6)) 9 [] hX (fun l hl o ho => c_X9_thrown l hl o4.2 m o ho) dL_law_663 (by decide) rfl rfl q_1439 okV_X9_thrown rfl ⟨(Nat.le_of_ble_eq_true rfl), (Nat.le_of_ble_eq_true rfl)⟩ rfl (Nat.le_of_ble_eq_true rfl) (Nat.add_zero _) (Nat.add_zero _) ⟨hc1, hs1⟩ (fun o5 => ?_)
  refine z_iload hX 1 rfl dL_law_666 ?_
  refine z_icmp_eq hX 673 (by decide) dL_law_668 (fun _ => ?_) (fun _ => ?_)
  · refine z_iload hX 1 rfl dL_law_673 ?_
    refine z_if_ne hX 690 (by decide) dL_law_675 (fun _ => ?_) (fun _ => ?_)
    · refine z_goto hX 3165 (by decide) dL_law_690 ?_
      refine z_sub [2, 3, 4, 5, 6] rfl ?_
      exact z_widen (by omega) (by omega) (hk o4.2)
    · refine z_aload_n hX 5 rfl rfl dL_law_678 ?_
      refine z_iconst (v := 0) hX (by decide) dL_law_679 ?_
      refine z_aL hX dL_law_680 (fun x6 => ?_)
      refine z_iload hX 0 rfl dL_law_681 ?_
      refine z_i2l hX rfl dL_law_683 ?_
      refine z_lcmp hX dL_law_684 ?_
      refine z_if_eq hX 690 (by decide) dL_law_685 (fun _ => ?_) (fun _ => ?_)
      · refine z_goto hX 3165 (by decide) dL_law_690 ?_
        refine z_sub [2, 3, 4, 5, 6] rfl ?_
        exact z_widen (by omega) (by omega) (hk o4.2)
      · exact z_any hq0
  · exact z_any hq0
