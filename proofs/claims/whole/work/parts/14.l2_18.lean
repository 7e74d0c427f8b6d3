theorem dL_law_2576 : decode cL_law 2576 = .ok (.aload_n 1, 1) := by decide +kernel
theorem dL_law_2577 : decode cL_law 2577 = .ok (.aload_n 0, 1) := by decide +kernel
theorem dL_law_2578 : decode cL_law 2578 = .ok (.iload 4, 2) := by decide +kernel
theorem dL_law_2580 : decode cL_law 2580 = .ok (.iconst 1, 1) := by decide +kernel
theorem dL_law_2581 : decode cL_law 2581 = .ok (.iadd, 1) := by decide +kernel
theorem dL_law_2582 : decode cL_law 2582 = .ok (.iaload, 1) := by decide +kernel
theorem dL_law_2583 : decode cL_law 2583 = .ok (.aload_n 0, 1) := by decide +kernel
theorem dL_law_2584 : decode cL_law 2584 = .ok (.iload 4, 2) := by decide +kernel
theorem dL_law_2586 : decode cL_law 2586 = .ok (.iconst 2, 1) := by decide +kernel
theorem dL_law_2587 : decode cL_law 2587 = .ok (.iadd, 1) := by decide +kernel
theorem dL_law_2588 : decode cL_law 2588 = .ok (.iaload, 1) := by decide +kernel
theorem dL_law_2589 : decode cL_law 2589 = .ok (.aload_n 3, 1) := by decide +kernel
theorem dL_law_2590 : decode cL_law 2590 = .ok (.invokestatic 302, 3) := by decide +kernel
theorem dL_law_2593 : decode cL_law 2593 = .ok (.istore 5, 2) := by decide +kernel
theorem dL_law_2595 : decode cL_law 2595 = .ok (.aload_n 2, 1) := by decide +kernel
theorem dL_law_2596 : decode cL_law 2596 = .ok (.aload_n 0, 1) := by decide +kernel
theorem dL_law_2597 : decode cL_law 2597 = .ok (.iload 4, 2) := by decide +kernel
theorem dL_law_2599 : decode cL_law 2599 = .ok (.iconst 1, 1) := by decide +kernel
theorem dL_law_2600 : decode cL_law 2600 = .ok (.iadd, 1) := by decide +kernel
theorem dL_law_2601 : decode cL_law 2601 = .ok (.iaload, 1) := by decide +kernel
theorem dL_law_2602 : decode cL_law 2602 = .ok (.aload_n 0, 1) := by decide +kernel
theorem dL_law_2603 : decode cL_law 2603 = .ok (.iload 4, 2) := by decide +kernel
theorem dL_law_2605 : decode cL_law 2605 = .ok (.iconst 2, 1) := by decide +kernel
theorem dL_law_2606 : decode cL_law 2606 = .ok (.iadd, 1) := by decide +kernel
theorem dL_law_2607 : decode cL_law 2607 = .ok (.iaload, 1) := by decide +kernel
theorem dL_law_2608 : decode cL_law 2608 = .ok (.invokevirtual 304, 3) := by decide +kernel
theorem dL_law_2611 : decode cL_law 2611 = .ok (.istore 6, 2) := by decide +kernel
theorem dL_law_2613 : decode cL_law 2613 = .ok (.aload_n 2, 1) := by decide +kernel
theorem dL_law_2614 : decode cL_law 2614 = .ok (.invokevirtual 159, 3) := by decide +kernel
theorem dL_law_2617 : decode cL_law 2617 = .ok (.iload 5, 2) := by decide +kernel
theorem dL_law_2619 : decode cL_law 2619 = .ok (.if_icmp .eq 5, 3) := by decide +kernel
theorem dL_law_2624 : decode cL_law 2624 = .ok (.iload 5, 2) := by decide +kernel
theorem dL_law_2626 : decode cL_law 2626 = .ok (.ifCond .ne 15, 3) := by decide +kernel
theorem dL_law_2629 : decode cL_law 2629 = .ok (.aload_n 3, 1) := by decide +kernel
theorem dL_law_2630 : decode cL_law 2630 = .ok (.iconst 0, 1) := by decide +kernel
theorem dL_law_2631 : decode cL_law 2631 = .ok (.laload, 1) := by decide +kernel
theorem dL_law_2632 : decode cL_law 2632 = .ok (.iload 6, 2) := by decide +kernel
theorem dL_law_2634 : decode cL_law 2634 = .ok (.i2l, 1) := by decide +kernel
theorem dL_law_2635 : decode cL_law 2635 = .ok (.lcmp, 1) := by decide +kernel
theorem dL_law_2636 : decode cL_law 2636 = .ok (.ifCond .eq 5, 3) := by decide +kernel
theorem dL_law_2641 : decode cL_law 2641 = .ok (.goto 524, 3) := by decide +kernel
theorem dL_law_2644 : decode cL_law 2644 = .ok (.aload_n 1, 1) := by decide +kernel
theorem dL_law_2645 : decode cL_law 2645 = .ok (.aload_n 0, 1) := by decide +kernel
theorem dL_law_2646 : decode cL_law 2646 = .ok (.iload 4, 2) := by decide +kernel
theorem dL_law_2648 : decode cL_law 2648 = .ok (.iconst 1, 1) := by decide +kernel
theorem dL_law_2649 : decode cL_law 2649 = .ok (.iadd, 1) := by decide +kernel
theorem dL_law_2650 : decode cL_law 2650 = .ok (.iaload, 1) := by decide +kernel
theorem dL_law_2651 : decode cL_law 2651 = .ok (.aload_n 3, 1) := by decide +kernel
theorem dL_law_2652 : decode cL_law 2652 = .ok (.invokestatic 305, 3) := by decide +kernel
theorem dL_law_2655 : decode cL_law 2655 = .ok (.istore 5, 2) := by decide +kernel
theorem dL_law_2657 : decode cL_law 2657 = .ok (.aload_n 2, 1) := by decide +kernel
theorem dL_law_2658 : decode cL_law 2658 = .ok (.aload_n 0, 1) := by decide +kernel
theorem dL_law_2659 : decode cL_law 2659 = .ok (.iload 4, 2) := by decide +kernel
theorem dL_law_2661 : decode cL_law 2661 = .ok (.iconst 1, 1) := by decide +kernel
theorem dL_law_2662 : decode cL_law 2662 = .ok (.iadd, 1) := by decide +kernel
theorem dL_law_2663 : decode cL_law 2663 = .ok (.iaload, 1) := by decide +kernel
theorem dL_law_2664 : decode cL_law 2664 = .ok (.invokevirtual 307, 3) := by decide +kernel
theorem dL_law_2667 : decode cL_law 2667 = .ok (.istore 6, 2) := by decide +kernel
theorem dL_law_2669 : decode cL_law 2669 = .ok (.aload_n 2, 1) := by decide +kernel
theorem dL_law_2670 : decode cL_law 2670 = .ok (.invokevirtual 159, 3) := by decide +kernel
theorem dL_law_2673 : decode cL_law 2673 = .ok (.iload 5, 2) := by decide +kernel
theorem dL_law_2675 : decode cL_law 2675 = .ok (.if_icmp .eq 5, 3) := by decide +kernel
theorem dL_law_2680 : decode cL_law 2680 = .ok (.iload 5, 2) := by decide +kernel
theorem dL_law_2682 : decode cL_law 2682 = .ok (.ifCond .ne 15, 3) := by decide +kernel
theorem dL_law_2685 : decode cL_law 2685 = .ok (.aload_n 3, 1) := by decide +kernel
theorem dL_law_2686 : decode cL_law 2686 = .ok (.iconst 0, 1) := by decide +kernel
theorem dL_law_2687 : decode cL_law 2687 = .ok (.laload, 1) := by decide +kernel
theorem dL_law_2688 : decode cL_law 2688 = .ok (.iload 6, 2) := by decide +kernel
theorem dL_law_2690 : decode cL_law 2690 = .ok (.i2l, 1) := by decide +kernel
theorem dL_law_2691 : decode cL_law 2691 = .ok (.lcmp, 1) := by decide +kernel
theorem dL_law_2692 : decode cL_law 2692 = .ok (.ifCond .eq 5, 3) := by decide +kernel
theorem dL_law_2697 : decode cL_law 2697 = .ok (.goto 468, 3) := by decide +kernel
set_option maxRecDepth 20000 in
set_option maxHeartbeats 4000000 in
theorem zl_51 {X : Cxt} (hX : okX X cL_law RL room_1 (some .boolean) 8) {Qo : Int32 → State → Prop} (hq0 : ∀ st, Qo 0 st) {C S : Nat} (h1 : C + 3 ≤ room_1.cells) (h2 : S + 18 ≤ room_1.slots) (b x m ou : Nat) (i : Int32) (kj : Mem → Option Int32) (hk : ∀ M, Zj X Qo (C + 3) (S + 18) 3165 [(0, .ref b), (1, .ref x), (2, .ref m), (3, .ref ou), (4, .int i)] [] M (kj M)) (M : Mem) : Zj X Qo C S 2576 [(0, .ref b), (1, .ref x), (2, .ref m), (3, .ref ou), (4, .int i)] [] M (cs_51 b x m ou i kj M) := by
  have hc0 : C + 0 ≤ room_1.cells := Nat.le_trans (by omega) h1
  have hs0 : S + 0 ≤ room_1.slots := Nat.le_trans (by omega) h2
  have hc1 : C + 1 ≤ room_1.cells := Nat.le_trans (by omega) h1
  have hs1 : S + 6 ≤ room_1.slots := Nat.le_trans (by omega) h2
  have hc2 : C + 2 ≤ room_1.cells := Nat.le_trans (by omega) h1
  have hs2 : S + 12 ≤ room_1.slots := Nat.le_trans (by omega) h2
  have hc3 : C + 3 ≤ room_1.cells := Nat.le_trans (by omega) h1
  have hs3 : S + 18 ≤ room_1.slots := Nat.le_trans (by omega) h2
  unfold cs_51
  refine z_aload_n hX 1 rfl rfl dL_law_2576 ?_
  refine z_aload_n hX 0 rfl rfl dL_law_2577 ?_
  refine z_iload hX 4 rfl dL_law_2578 ?_
  refine z_iconst (v := 1) hX (by decide) dL_law_2580 ?_
  refine z_iadd hX dL_law_2581 ?_
  refine z_aI hX dL_law_2582 (fun x1 => ?_)
  refine z_aload_n hX 0 rfl rfl dL_law_2583 ?_
  refine z_iload hX 4 rfl dL_law_2584 ?_
  refine z_iconst (v := 2) hX (by decide) dL_law_2586 ?_
  refine z_iadd hX dL_law_2587 ?_
  refine z_aI hX dL_law_2588 (fun x2 => ?_)
  refine z_aload_n hX 3 rfl rfl dL_law_2589 ?_
  refine z_cSw (C' := C + 1) (S' := S + 6) [.ref x, .int x1, .int x2, .ref ou] hX (fun l hl o ho => cw_L_fundedWithCost l hl M x x1 x2 ou o ho) dL_law_2590 q_1274 okW_L_fundedWithCost rfl ⟨(Nat.le_of_ble_eq_true rfl), (Nat.le_of_ble_eq_true rfl)⟩ rfl (Nat.le_of_ble_eq_true rfl) rfl rfl ⟨hc1, hs1⟩ (fun o3 => ?_)
  refine z_istore hX [(5, .int o3.1), (0, .ref b), (1, .ref x), (2, .ref m), (3, .ref ou), (4, .int i)] (by decide) rfl dL_law_2593 ?_
  refine z_aload_n hX 3 rfl rfl dL_law_2595 ?_
  refine z_aload_n hX 1 rfl rfl dL_law_2596 ?_
  refine z_iload hX 5 rfl dL_law_2597 ?_
  refine z_iconst (v := 1) hX (by decide) dL_law_2599 ?_
  refine z_iadd hX dL_law_2600 ?_
  refine z_aI hX dL_law_2601 (fun x4 => ?_)
  refine z_aload_n hX 1 rfl rfl dL_law_2602 ?_
  refine z_iload hX 5 rfl dL_law_2603 ?_
  refine z_iconst (v := 2) hX (by decide) dL_law_2605 ?_
  refine z_iadd hX dL_law_2606 ?_
  refine z_aI hX dL_law_2607 (fun x5 => ?_)
  refine z_cVIm (C' := (C + 1)) (S' := (S + 6)) 9 [.int x4, .int x5] hX (fun l hl o ho => c_X9_fundedWithCost l hl o3.2 m x4 x5 o ho) dL_law_2608 (by decide) rfl rfl q_1904 okV_X9_fundedWithCost rfl ⟨(Nat.le_of_ble_eq_true rfl), (Nat.le_of_ble_eq_true rfl)⟩ rfl (Nat.le_of_ble_eq_true rfl) (Nat.add_zero _) (Nat.add_zero _) ⟨hc1, hs1⟩ (fun o6 => ?_)
  refine z_istore hX [(6, .int o6.1), (5, .int o3.1), (0, .ref b), (1, .ref x), (2, .ref m), (3, .ref ou), (4, .int i)] (by decide) rfl dL_law_2611 ?_
  refine z_aload_n hX 4 rfl rfl dL_law_2613 ?_
  refine z_cVIp (C' := (C + 1)) (S' := (S + 6)) 9 [] hX (fun l hl o ho => c_X9_thrown l hl o6.2 m o ho) dL_law_2614 (by decide) rfl rfl q_1439 okV_X9_thrown rfl ⟨(Nat.le_of_ble_eq_true rfl), (Nat.le_of_ble_eq_true rfl)⟩ rfl (Nat.le_of_ble_eq_true rfl) (Nat.add_zero _) (Nat.add_zero _) ⟨hc1, hs1⟩ (fun o7 => ?_)
  refine z_iload hX 1 rfl dL_law_2617 ?_
  refine z_icmp_eq hX 2624 (by decide) dL_law_2619 (fun _ => ?_) (fun _ => ?_)
  · refine z_iload hX 1 rfl dL_law_2624 ?_
    refine z_if_ne hX 2641 (by decide) dL_law_2626 (fun _ => ?_) (fun _ => ?_)
    · refine z_goto hX 3165 (by decide) dL_law_2641 ?_
      refine z_sub [2, 3, 4, 5, 6] rfl ?_
      exact z_widen (by omega) (by omega) (hk o6.2)
    · refine z_aload_n hX 5 rfl rfl dL_law_2629 ?_
      refine z_iconst (v := 0) hX (by decide) dL_law_2630 ?_
      refine z_aL hX dL_law_2631 (fun x8 => ?_)
      refine z_iload hX 0 rfl dL_law_2632 ?_
      refine z_i2l hX rfl dL_law_2634 ?_
      refine z_lcmp hX dL_law_2635 ?_
      refine z_if_eq hX 2641 (by decide) dL_law_2636 (fun _ => ?_) (fun _ => ?_)
      · refine z_goto hX 3165 (by decide) dL_law_2641 ?_
        refine z_sub [2, 3, 4, 5, 6] rfl ?_
        exact z_widen (by omega) (by omega) (hk o6.2)
      · exact z_any hq0
  · exact z_any hq0
set_option maxRecDepth 20000 in
set_option maxHeartbeats 4000000 in
theorem zl_52 {X : Cxt} (hX : okX X cL_law RL room_1 (some .boolean) 8) {Qo : Int32 → State → Prop} (hq0 : ∀ st, Qo 0 st) {C S : Nat} (h1 : C + 3 ≤ room_1.cells) (h2 : S + 18 ≤ room_1.slots) (b x m ou : Nat) (i : Int32) (kj : Mem → Option Int32) (hk : ∀ M, Zj X Qo (C + 3) (S + 18) 3165 [(0, .ref b), (1, .ref x), (2, .ref m), (3, .ref ou), (4, .int i)] [] M (kj M)) (M : Mem) : Zj X Qo C S 2644 [(0, .ref b), (1, .ref x), (2, .ref m), (3, .ref ou), (4, .int i)] [] M (cs_52 b x m ou i kj M) := by
  have hc0 : C + 0 ≤ room_1.cells := Nat.le_trans (by omega) h1
  have hs0 : S + 0 ≤ room_1.slots := Nat.le_trans (by omega) h2
  have hc1 : C + 1 ≤ room_1.cells := Nat.le_trans (by omega) h1
  have hs1 : S + 6 ≤ room_1.slots := Nat.le_trans (by omega) h2
  have hc2 : C + 2 ≤ room_1.cells := Nat.le_trans (by omega) h1
  have hs2 : S + 12 ≤ room_1.slots := Nat.le_trans (by omega) h2
  have hc3 : C + 3 ≤ room_1.cells := Nat.le_trans (by omega) h1
  have hs3 : S + 18 ≤ room_1.slots := Nat.le_trans (by omega) h2
  unfold cs_52
  refine z_aload_n hX 1 rfl rfl dL_law_2644 ?_
  refine z_aload_n hX 0 rfl rfl dL_law_2645 ?_
  refine z_iload hX 4 rfl dL_law_2646 ?_
  refine z_iconst (v := 1) hX (by decide) dL_law_2648 ?_
  refine z_iadd hX dL_law_2649 ?_
  refine z_aI hX dL_law_2650 (fun x1 => ?_)
  refine z_aload_n hX 3 rfl rfl dL_law_2651 ?_
  refine z_cSw (C' := C + 1) (S' := S + 6) [.ref x, .int x1, .ref ou] hX (fun l hl o ho => cw_L_fundedWithout l hl M x x1 ou o ho) dL_law_2652 q_1281 okW_L_fundedWithout rfl ⟨(Nat.le_of_ble_eq_true rfl), (Nat.le_of_ble_eq_true rfl)⟩ rfl (Nat.le_of_ble_eq_true rfl) rfl rfl ⟨hc1, hs1⟩ (fun o2 => ?_)
  refine z_istore hX [(5, .int o2.1), (0, .ref b), (1, .ref x), (2, .ref m), (3, .ref ou), (4, .int i)] (by decide) rfl dL_law_2655 ?_
  refine z_aload_n hX 3 rfl rfl dL_law_2657 ?_
  refine z_aload_n hX 1 rfl rfl dL_law_2658 ?_
  refine z_iload hX 5 rfl dL_law_2659 ?_
  refine z_iconst (v := 1) hX (by decide) dL_law_2661 ?_
  refine z_iadd hX dL_law_2662 ?_
  refine z_aI hX dL_law_2663 (fun x3 => ?_)
  refine z_cVIm (C' := (C + 1)) (S' := (S + 6)) 9 [.int x3] hX (fun l hl o ho => c_X9_fundedWithout l hl o2.2 m x3 o ho) dL_law_2664 (by decide) rfl rfl q_1908 okV_X9_fundedWithout rfl ⟨(Nat.le_of_ble_eq_true rfl), (Nat.le_of_ble_eq_true rfl)⟩ rfl (Nat.le_of_ble_eq_true rfl) (Nat.add_zero _) (Nat.add_zero _) ⟨hc1, hs1⟩ (fun o4 => ?_)
  refine z_istore hX [(6, .int o4.1), (5, .int o2.1), (0, .ref b), (1, .ref x), (2, .ref m), (3, .ref ou), (4, .int i)] (by decide) rfl dL_law_2667 ?_
  refine z_aload_n hX 4 rfl rfl dL_law_2669 ?_
  refine z_cVIp (C' := (C + 1)) (S' := (S + 6)) 9 [] hX (fun l hl o ho => c_X9_thrown l hl o4.2 m o ho) dL_law_2670 (by decide) rfl rfl q_1439 okV_X9_thrown rfl ⟨(Nat.le_of_ble_eq_true rfl), (Nat.le_of_ble_eq_true rfl)⟩ rfl (Nat.le_of_ble_eq_true rfl) (Nat.add_zero _) (Nat.add_zero _) ⟨hc1, hs1⟩ (fun o5 => ?_)
  refine z_iload hX 1 rfl dL_law_2673 ?_
  refine z_icmp_eq hX 2680 (by decide) dL_law_2675 (fun _ => ?_) (fun _ => ?_)
  · refine z_iload hX 1 rfl dL_law_2680 ?_
    refine z_if_ne hX 2697 (by decide) dL_law_2682 (fun _ => ?_) (fun _ => ?_)
    · refine z_goto hX 3165 (by decide) dL_law_2697 ?_
      refine z_sub [2, 3, 4, 5, 6] rfl ?_
      exact z_widen (by omega) (by omega) (hk o4.2)
    · refine z_aload_n hX 5 rfl rfl dL_law_2685 ?_
      refine z_iconst (v := 0) hX (by decide) dL_law_2686 ?_
      refine z_aL hX dL_law_2687 (fun x6 => ?_)
      refine z_iload hX 0 rfl dL_law_2688 ?_
      refine z_i2l hX rfl dL_law_2690 ?_
      refine z_lcmp hX dL_law_2691 ?_
      refine z_if_eq hX 2697 (by decide) dL_law_2692 (fun _ => ?_) (fun _ => ?_)
      · refine z_goto hX 3165 (by decide) dL_law_2697 ?_
        refine z_sub [2, 3, 4, 5, 6] rfl ?_
        exact z_widen (by omega) (by omega) (hk o4.2)
      · exact z_any hq0
  · exact z_any hq0
