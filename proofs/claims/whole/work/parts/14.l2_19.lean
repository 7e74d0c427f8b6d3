theorem dL_law_2700 : decode cL_law 2700 = .ok (.aload_n 1, 1) := by decide +kernel
theorem dL_law_2701 : decode cL_law 2701 = .ok (.aload_n 0, 1) := by decide +kernel
theorem dL_law_2702 : decode cL_law 2702 = .ok (.iload 4, 2) := by decide +kernel
theorem dL_law_2704 : decode cL_law 2704 = .ok (.iconst 1, 1) := by decide +kernel
theorem dL_law_2705 : decode cL_law 2705 = .ok (.iadd, 1) := by decide +kernel
theorem dL_law_2706 : decode cL_law 2706 = .ok (.iaload, 1) := by decide +kernel
theorem dL_law_2707 : decode cL_law 2707 = .ok (.invokevirtual 308, 3) := by decide +kernel
theorem dL_law_2710 : decode cL_law 2710 = .ok (.aload_n 2, 1) := by decide +kernel
theorem dL_law_2711 : decode cL_law 2711 = .ok (.aload_n 0, 1) := by decide +kernel
theorem dL_law_2712 : decode cL_law 2712 = .ok (.iload 4, 2) := by decide +kernel
theorem dL_law_2714 : decode cL_law 2714 = .ok (.iconst 1, 1) := by decide +kernel
theorem dL_law_2715 : decode cL_law 2715 = .ok (.iadd, 1) := by decide +kernel
theorem dL_law_2716 : decode cL_law 2716 = .ok (.iaload, 1) := by decide +kernel
theorem dL_law_2717 : decode cL_law 2717 = .ok (.invokevirtual 311, 3) := by decide +kernel
theorem dL_law_2720 : decode cL_law 2720 = .ok (.if_icmp .eq 445, 3) := by decide +kernel
theorem dL_law_2725 : decode cL_law 2725 = .ok (.aload_n 1, 1) := by decide +kernel
theorem dL_law_2726 : decode cL_law 2726 = .ok (.aload_n 0, 1) := by decide +kernel
theorem dL_law_2727 : decode cL_law 2727 = .ok (.iload 4, 2) := by decide +kernel
theorem dL_law_2729 : decode cL_law 2729 = .ok (.iconst 1, 1) := by decide +kernel
theorem dL_law_2730 : decode cL_law 2730 = .ok (.iadd, 1) := by decide +kernel
theorem dL_law_2731 : decode cL_law 2731 = .ok (.iaload, 1) := by decide +kernel
theorem dL_law_2732 : decode cL_law 2732 = .ok (.aload_n 0, 1) := by decide +kernel
theorem dL_law_2733 : decode cL_law 2733 = .ok (.iload 4, 2) := by decide +kernel
theorem dL_law_2735 : decode cL_law 2735 = .ok (.iconst 2, 1) := by decide +kernel
theorem dL_law_2736 : decode cL_law 2736 = .ok (.iadd, 1) := by decide +kernel
theorem dL_law_2737 : decode cL_law 2737 = .ok (.iaload, 1) := by decide +kernel
theorem dL_law_2738 : decode cL_law 2738 = .ok (.aload_n 3, 1) := by decide +kernel
theorem dL_law_2739 : decode cL_law 2739 = .ok (.invokestatic 312, 3) := by decide +kernel
theorem dL_law_2742 : decode cL_law 2742 = .ok (.istore 5, 2) := by decide +kernel
theorem dL_law_2744 : decode cL_law 2744 = .ok (.aload_n 2, 1) := by decide +kernel
theorem dL_law_2745 : decode cL_law 2745 = .ok (.aload_n 0, 1) := by decide +kernel
theorem dL_law_2746 : decode cL_law 2746 = .ok (.iload 4, 2) := by decide +kernel
theorem dL_law_2748 : decode cL_law 2748 = .ok (.iconst 1, 1) := by decide +kernel
theorem dL_law_2749 : decode cL_law 2749 = .ok (.iadd, 1) := by decide +kernel
theorem dL_law_2750 : decode cL_law 2750 = .ok (.iaload, 1) := by decide +kernel
theorem dL_law_2751 : decode cL_law 2751 = .ok (.aload_n 0, 1) := by decide +kernel
theorem dL_law_2752 : decode cL_law 2752 = .ok (.iload 4, 2) := by decide +kernel
theorem dL_law_2754 : decode cL_law 2754 = .ok (.iconst 2, 1) := by decide +kernel
theorem dL_law_2755 : decode cL_law 2755 = .ok (.iadd, 1) := by decide +kernel
theorem dL_law_2756 : decode cL_law 2756 = .ok (.iaload, 1) := by decide +kernel
theorem dL_law_2757 : decode cL_law 2757 = .ok (.invokevirtual 314, 3) := by decide +kernel
theorem dL_law_2760 : decode cL_law 2760 = .ok (.istore 6, 2) := by decide +kernel
theorem dL_law_2762 : decode cL_law 2762 = .ok (.aload_n 2, 1) := by decide +kernel
theorem dL_law_2763 : decode cL_law 2763 = .ok (.invokevirtual 159, 3) := by decide +kernel
theorem dL_law_2766 : decode cL_law 2766 = .ok (.iload 5, 2) := by decide +kernel
theorem dL_law_2768 : decode cL_law 2768 = .ok (.if_icmp .eq 5, 3) := by decide +kernel
theorem dL_law_2773 : decode cL_law 2773 = .ok (.iload 5, 2) := by decide +kernel
theorem dL_law_2775 : decode cL_law 2775 = .ok (.ifCond .ne 15, 3) := by decide +kernel
theorem dL_law_2778 : decode cL_law 2778 = .ok (.aload_n 3, 1) := by decide +kernel
theorem dL_law_2779 : decode cL_law 2779 = .ok (.iconst 0, 1) := by decide +kernel
theorem dL_law_2780 : decode cL_law 2780 = .ok (.laload, 1) := by decide +kernel
theorem dL_law_2781 : decode cL_law 2781 = .ok (.iload 6, 2) := by decide +kernel
theorem dL_law_2783 : decode cL_law 2783 = .ok (.i2l, 1) := by decide +kernel
theorem dL_law_2784 : decode cL_law 2784 = .ok (.lcmp, 1) := by decide +kernel
theorem dL_law_2785 : decode cL_law 2785 = .ok (.ifCond .eq 5, 3) := by decide +kernel
theorem dL_law_2790 : decode cL_law 2790 = .ok (.goto 375, 3) := by decide +kernel
theorem dL_law_2793 : decode cL_law 2793 = .ok (.aload_n 1, 1) := by decide +kernel
theorem dL_law_2794 : decode cL_law 2794 = .ok (.aload_n 0, 1) := by decide +kernel
theorem dL_law_2795 : decode cL_law 2795 = .ok (.iload 4, 2) := by decide +kernel
theorem dL_law_2797 : decode cL_law 2797 = .ok (.iconst 1, 1) := by decide +kernel
theorem dL_law_2798 : decode cL_law 2798 = .ok (.iadd, 1) := by decide +kernel
theorem dL_law_2799 : decode cL_law 2799 = .ok (.iaload, 1) := by decide +kernel
theorem dL_law_2800 : decode cL_law 2800 = .ok (.aload_n 0, 1) := by decide +kernel
theorem dL_law_2801 : decode cL_law 2801 = .ok (.iload 4, 2) := by decide +kernel
theorem dL_law_2803 : decode cL_law 2803 = .ok (.iconst 2, 1) := by decide +kernel
theorem dL_law_2804 : decode cL_law 2804 = .ok (.iadd, 1) := by decide +kernel
theorem dL_law_2805 : decode cL_law 2805 = .ok (.iaload, 1) := by decide +kernel
theorem dL_law_2806 : decode cL_law 2806 = .ok (.aload_n 3, 1) := by decide +kernel
theorem dL_law_2807 : decode cL_law 2807 = .ok (.invokestatic 315, 3) := by decide +kernel
theorem dL_law_2810 : decode cL_law 2810 = .ok (.istore 5, 2) := by decide +kernel
theorem dL_law_2812 : decode cL_law 2812 = .ok (.aload_n 2, 1) := by decide +kernel
theorem dL_law_2813 : decode cL_law 2813 = .ok (.aload_n 0, 1) := by decide +kernel
theorem dL_law_2814 : decode cL_law 2814 = .ok (.iload 4, 2) := by decide +kernel
theorem dL_law_2816 : decode cL_law 2816 = .ok (.iconst 1, 1) := by decide +kernel
theorem dL_law_2817 : decode cL_law 2817 = .ok (.iadd, 1) := by decide +kernel
theorem dL_law_2818 : decode cL_law 2818 = .ok (.iaload, 1) := by decide +kernel
theorem dL_law_2819 : decode cL_law 2819 = .ok (.aload_n 0, 1) := by decide +kernel
theorem dL_law_2820 : decode cL_law 2820 = .ok (.iload 4, 2) := by decide +kernel
theorem dL_law_2822 : decode cL_law 2822 = .ok (.iconst 2, 1) := by decide +kernel
theorem dL_law_2823 : decode cL_law 2823 = .ok (.iadd, 1) := by decide +kernel
theorem dL_law_2824 : decode cL_law 2824 = .ok (.iaload, 1) := by decide +kernel
theorem dL_law_2825 : decode cL_law 2825 = .ok (.invokevirtual 317, 3) := by decide +kernel
theorem dL_law_2828 : decode cL_law 2828 = .ok (.istore 6, 2) := by decide +kernel
theorem dL_law_2830 : decode cL_law 2830 = .ok (.aload_n 2, 1) := by decide +kernel
theorem dL_law_2831 : decode cL_law 2831 = .ok (.invokevirtual 159, 3) := by decide +kernel
theorem dL_law_2834 : decode cL_law 2834 = .ok (.iload 5, 2) := by decide +kernel
theorem dL_law_2836 : decode cL_law 2836 = .ok (.if_icmp .eq 5, 3) := by decide +kernel
theorem dL_law_2841 : decode cL_law 2841 = .ok (.iload 5, 2) := by decide +kernel
theorem dL_law_2843 : decode cL_law 2843 = .ok (.ifCond .ne 15, 3) := by decide +kernel
theorem dL_law_2846 : decode cL_law 2846 = .ok (.aload_n 3, 1) := by decide +kernel
theorem dL_law_2847 : decode cL_law 2847 = .ok (.iconst 0, 1) := by decide +kernel
theorem dL_law_2848 : decode cL_law 2848 = .ok (.laload, 1) := by decide +kernel
theorem dL_law_2849 : decode cL_law 2849 = .ok (.iload 6, 2) := by decide +kernel
theorem dL_law_2851 : decode cL_law 2851 = .ok (.i2l, 1) := by decide +kernel
theorem dL_law_2852 : decode cL_law 2852 = .ok (.lcmp, 1) := by decide +kernel
theorem dL_law_2853 : decode cL_law 2853 = .ok (.ifCond .eq 5, 3) := by decide +kernel
theorem dL_law_2858 : decode cL_law 2858 = .ok (.goto 307, 3) := by decide +kernel
set_option maxRecDepth 20000 in
set_option maxHeartbeats 4000000 in
theorem zl_53 {X : Cxt} (hX : okX X cL_law RL room_1 (some .boolean) 8) {Qo : Int32 → State → Prop} (hq0 : ∀ st, Qo 0 st) {C S : Nat} (h1 : C + 3 ≤ room_1.cells) (h2 : S + 18 ≤ room_1.slots) (b x m ou : Nat) (i : Int32) (kj : Mem → Option Int32) (hk : ∀ M, Zj X Qo (C + 3) (S + 18) 3165 [(0, .ref b), (1, .ref x), (2, .ref m), (3, .ref ou), (4, .int i)] [] M (kj M)) (M : Mem) : Zj X Qo C S 2700 [(0, .ref b), (1, .ref x), (2, .ref m), (3, .ref ou), (4, .int i)] [] M (cs_53 b x m ou i kj M) := by
  have hc0 : C + 0 ≤ room_1.cells := Nat.le_trans (by omega) h1
  have hs0 : S + 0 ≤ room_1.slots := Nat.le_trans (by omega) h2
  have hc1 : C + 1 ≤ room_1.cells := Nat.le_trans (by omega) h1
  have hs1 : S + 6 ≤ room_1.slots := Nat.le_trans (by omega) h2
  have hc2 : C + 2 ≤ room_1.cells := Nat.le_trans (by omega) h1
  have hs2 : S + 12 ≤ room_1.slots := Nat.le_trans (by omega) h2
  have hc3 : C + 3 ≤ room_1.cells := Nat.le_trans (by omega) h1
  have hs3 : S + 18 ≤ room_1.slots := Nat.le_trans (by omega) h2
  unfold cs_53
  refine z_aload_n hX 1 rfl rfl dL_law_2700 ?_
  refine z_aload_n hX 0 rfl rfl dL_law_2701 ?_
  refine z_iload hX 4 rfl dL_law_2702 ?_
  refine z_iconst (v := 1) hX (by decide) dL_law_2704 ?_
  refine z_iadd hX dL_law_2705 ?_
  refine z_aI hX dL_law_2706 (fun x1 => ?_)
  refine z_cVIm (C' := C) (S' := S) 8 [.int x1] hX (fun l hl o ho => c_X8_cheapestSet l hl M x x1 o ho) dL_law_2707 (by decide) rfl rfl q_932 okV_X8_cheapestSet rfl ⟨(Nat.le_of_ble_eq_true rfl), (Nat.le_of_ble_eq_true rfl)⟩ rfl (Nat.le_of_ble_eq_true rfl) (Nat.add_zero _) (Nat.add_zero _) ⟨hc0, hs0⟩ (fun o2 => ?_)
  refine z_aload_n hX 2 rfl rfl dL_law_2710 ?_
  refine z_aload_n hX 0 rfl rfl dL_law_2711 ?_
  refine z_iload hX 4 rfl dL_law_2712 ?_
  refine z_iconst (v := 1) hX (by decide) dL_law_2714 ?_
  refine z_iadd hX dL_law_2715 ?_
  refine z_aI hX dL_law_2716 (fun x3 => ?_)
  refine z_cVIm (C' := C) (S' := S) 9 [.int x3] hX (fun l hl o ho => c_X9_cheapestSet l hl o2.2 m x3 o ho) dL_law_2717 (by decide) rfl rfl q_1915 okV_X9_cheapestSet rfl ⟨(Nat.le_of_ble_eq_true rfl), (Nat.le_of_ble_eq_true rfl)⟩ rfl (Nat.le_of_ble_eq_true rfl) (Nat.add_zero _) (Nat.add_zero _) ⟨hc0, hs0⟩ (fun o4 => ?_)
  refine z_icmp_eq hX 3165 (by decide) dL_law_2720 (fun _ => ?_) (fun _ => ?_)
  · refine z_sub [0, 1, 2, 3, 4] rfl ?_
    exact z_widen (by omega) (by omega) (hk o4.2)
  · exact z_any hq0
set_option maxRecDepth 20000 in
set_option maxHeartbeats 4000000 in
theorem zl_54 {X : Cxt} (hX : okX X cL_law RL room_1 (some .boolean) 8) {Qo : Int32 → State → Prop} (hq0 : ∀ st, Qo 0 st) {C S : Nat} (h1 : C + 3 ≤ room_1.cells) (h2 : S + 18 ≤ room_1.slots) (b x m ou : Nat) (i : Int32) (kj : Mem → Option Int32) (hk : ∀ M, Zj X Qo (C + 3) (S + 18) 3165 [(0, .ref b), (1, .ref x), (2, .ref m), (3, .ref ou), (4, .int i)] [] M (kj M)) (M : Mem) : Zj X Qo C S 2725 [(0, .ref b), (1, .ref x), (2, .ref m), (3, .ref ou), (4, .int i)] [] M (cs_54 b x m ou i kj M) := by
  have hc0 : C + 0 ≤ room_1.cells := Nat.le_trans (by omega) h1
  have hs0 : S + 0 ≤ room_1.slots := Nat.le_trans (by omega) h2
  have hc1 : C + 1 ≤ room_1.cells := Nat.le_trans (by omega) h1
  have hs1 : S + 6 ≤ room_1.slots := Nat.le_trans (by omega) h2
  have hc2 : C + 2 ≤ room_1.cells := Nat.le_trans (by omega) h1
  have hs2 : S + 12 ≤ room_1.slots := Nat.le_trans (by omega) h2
  have hc3 : C + 3 ≤ room_1.cells := Nat.le_trans (by omega) h1
  have hs3 : S + 18 ≤ room_1.slots := Nat.le_trans (by omega) h2
  unfold cs_54
  refine z_aload_n hX 1 rfl rfl dL_law_2725 ?_
  refine z_aload_n hX 0 rfl rfl dL_law_2726 ?_
  refine z_iload hX 4 rfl dL_law_2727 ?_
  refine z_iconst (v := 1) hX (by decide) dL_law_2729 ?_
  refine z_iadd hX dL_law_2730 ?_
  refine z_aI hX dL_law_2731 (fun x1 => ?_)
  refine z_aload_n hX 0 rfl rfl dL_law_2732 ?_
  refine z_iload hX 4 rfl dL_law_2733 ?_
  refine z_iconst (v := 2) hX (by decide) dL_law_2735 ?_
  refine z_iadd hX dL_law_2736 ?_
  refine z_aI hX dL_law_2737 (fun x2 => ?_)
  refine z_aload_n hX 3 rfl rfl dL_law_2738 ?_
  refine z_cSw (C' := C + 1) (S' := S + 6) [.ref x, .int x1, .int x2, .ref ou] hX (fun l hl o ho => cw_L_districtWelfare l hl M x x1 x2 ou o ho) dL_law_2739 q_1288 okW_L_districtWelfare rfl ⟨(Nat.le_of_ble_eq_true rfl), (Nat.le_of_ble_eq_true rfl)⟩ rfl (Nat.le_of_ble_eq_true rfl) rfl rfl ⟨hc1, hs1⟩ (fun o3 => ?_)
  refine z_istore hX [(5, .int o3.1), (0, .ref b), (1, .ref x), (2, .ref m), (3, .ref ou), (4, .int i)] (by decide) rfl dL_law_2742 ?_
  refine z_aload_n hX 3 rfl rfl dL_law_2744 ?_
  refine z_aload_n hX 1 rfl rfl dL_law_2745 ?_
  refine z_iload hX 5 rfl dL_law_2746 ?_
  refine z_iconst (v := 1) hX (by decide) dL_law_2748 ?_
  refine z_iadd hX dL_law_2749 ?_
  refine z_aI hX dL_law_2750 (fun x4 => ?_)
  refine z_aload_n hX 1 rfl rfl dL_law_2751 ?_
  refine z_iload hX 5 rfl dL_law_2752 ?_
  refine z_iconst (v := 2) hX (by decide) dL_law_2754 ?_
  refine z_iadd hX dL_law_2755 ?_
  refine z_aI hX dL_law_2756 (fun x5 => ?_)
  refine z_cVIm (C' := (C + 1)) (S' := (S + 6)) 9 [.int x4, .int x5] hX (fun l hl o ho => c_X9_districtWelfare l hl o3.2 m x4 x5 o ho) dL_law_2757 (by decide) rfl rfl q_1919 okV_X9_districtWelfare rfl ⟨(Nat.le_of_ble_eq_true rfl), (Nat.le_of_ble_eq_true rfl)⟩ rfl (Nat.le_of_ble_eq_true rfl) (Nat.add_zero _) (Nat.add_zero _) ⟨hc1, hs1⟩ (fun o6 => ?_)
  refine z_istore hX [(6, .int o6.1), (5, .int o3.1), (0, .ref b), (1, .ref x), (2, .ref m), (3, .ref ou), (4, .int i)] (by decide) rfl dL_law_2760 ?_
  refine z_aload_n hX 4 rfl rfl dL_law_2762 ?_
  refine z_cVIp (C' := (C + 1)) (S' := (S + 6)) 9 [] hX (fun l hl o ho => c_X9_thrown l hl o6.2 m o ho) dL_law_2763 (by decide) rfl rfl q_1439 okV_X9_thrown rfl ⟨(Nat.le_of_ble_eq_true rfl), (Nat.le_of_ble_eq_true rfl)⟩ rfl (Nat.le_of_ble_eq_true rfl) (Nat.add_zero _) (Nat.add_zero _) ⟨hc1, hs1⟩ (fun o7 => ?_)
  refine z_iload hX 1 rfl dL_law_2766 ?_
  refine z_icmp_eq hX 2773 (by decide) dL_law_2768 (fun _ => ?_) (fun _ => ?_)
  · refine z_iload hX 1 rfl dL_law_2773 ?_
    refine z_if_ne hX 2790 (by decide) dL_law_2775 (fun _ => ?_) (fun _ => ?_)
    · refine z_goto hX 3165 (by decide) dL_law_2790 ?_
      refine z_sub [2, 3, 4, 5, 6] rfl ?_
      exact z_widen (by omega) (by omega) (hk o6.2)
    · refine z_aload_n hX 5 rfl rfl dL_law_2778 ?_
      refine z_iconst (v := 0) hX (by decide) dL_law_2779 ?_
      refine z_aL hX dL_law_2780 (fun x8 => ?_)
      refine z_iload hX 0 rfl dL_law_2781 ?_
      refine z_i2l hX rfl dL_law_2783 ?_
      refine z_lcmp hX dL_law_2784 ?_
      refine z_if_eq hX 2790 (by decide) dL_law_2785 (fun _ => ?_) (fun _ => ?_)
      · refine z_goto hX 3165 (by decide) dL_law_2790 ?_
        refine z_sub [2, 3, 4, 5, 6] rfl ?_
        exact z_widen (by omega) (by omega) (hk o6.2)
      · exact z_any hq0
  · exact z_any hq0
set_option maxRecDepth 20000 in
set_option maxHeartbeats 4000000 in
theorem zl_55 {X : Cxt} (hX : okX X cL_law RL room_1 (some .boolean) 8) {Qo : Int32 → State → Prop} (hq0 : ∀ st, Qo 0 st) {C S : Nat} (h1 : C + 3 ≤ room_1.cells) (h2 : S + 18 ≤ room_1.slots) (b x m ou : Nat) (i : Int32) (kj : Mem → Option Int32) (hk : ∀ M, Zj X Qo (C + 3) (S + 18) 3165 [(0, .ref b), (1, .ref x), (2, .ref m), (3, .ref ou), (4, .int i)] [] M (kj M)) (M : Mem) : Zj X Qo C S 2793 [(0, .ref b), (1, .ref x), (2, .ref m), (3, .ref ou), (4, .int i)] [] M (cs_55 b x m ou i kj M) := by
  have hc0 : C + 0 ≤ room_1.cells := Nat.le_trans (by omega) h1
  have hs0 : S + 0 ≤ room_1.slots := Nat.le_trans (by omega) h2
  have hc1 : C + 1 ≤ room_1.cells := Nat.le_trans (by omega) h1
  have hs1 : S + 6 ≤ room_1.slots := Nat.le_trans (by omega) h2
  have hc2 : C + 2 ≤ room_1.cells := Nat.le_trans (by omega) h1
  have hs2 : S + 12 ≤ room_1.slots := Nat.le_trans (by omega) h2
  have hc3 : C + 3 ≤ room_1.cells := Nat.le_trans (by omega) h1
  have hs3 : S + 18 ≤ room_1.slots := Nat.le_trans (by omega) h2
  unfold cs_55
  refine z_aload_n hX 1 rfl rfl dL_law_2793 ?_
  refine z_aload_n hX 0 rfl rfl dL_law_2794 ?_
  refine z_iload hX 4 rfl dL_law_2795 ?_
  refine z_iconst (v := 1) hX (by decide) dL_law_2797 ?_
  refine z_iadd hX dL_law_2798 ?_
  refine z_aI hX dL_law_2799 (fun x1 => ?_)
  refine z_aload_n hX 0 rfl rfl dL_law_2800 ?_
  refine z_iload hX 4 rfl dL_law_2801 ?_
  refine z_iconst (v := 2) hX (by decide) dL_law_2803 ?_
  refine z_iadd hX dL_law_2804 ?_
  refine z_aI hX dL_law_2805 (fun x2 => ?_)
  refine z_aload_n hX 3 rfl rfl dL_law_2806 ?_
  refine z_cSw (C' := C + 1) (S' := S + 6) [.ref x, .int x1, .int x2, .ref ou] hX (fun l hl o ho => cw_L_rankOf l hl M x x1 x2 ou o ho) dL_law_2807 q_1295 okW_L_rankOf rfl ⟨(Nat.le_of_ble_eq_true rfl), (Nat.le_of_ble_eq_true rfl)⟩ rfl (Nat.le_of_ble_eq_true rfl) rfl rfl ⟨hc1, hs1⟩ (fun o3 => ?_)
  refine z_istore hX [(5, .int o3.1), (0, .ref b), (1, .ref x), (2, .ref m), (3, .ref ou), (4, .int i)] (by decide) rfl dL_law_2810 ?_
  refine z_aload_n hX 3 rfl rfl dL_law_2812 ?_
  refine z_aload_n hX 1 rfl rfl dL_law_2813 ?_
  refine z_iload hX 5 rfl dL_law_2814 ?_
  refine z_iconst (v := 1) hX (by decide) dL_law_2816 ?_
  refine z_iadd hX dL_law_2817 ?_
  refine z_aI hX dL_law_2818 (fun x4 => ?_)
  refine z_aload_n hX 1 rfl rfl dL_law_2819 ?_
  refine z_iload hX 5 rfl dL_law_2820 ?_
  refine z_iconst (v := 2) hX (by decide) dL_law_2822 ?_
  refine z_iadd hX dL_law_2823 ?_
  refine z_aI hX dL_law_2824 (fun x5 => ?_)
  refine z_cVIm (C' := (C + 1)) (S' := (S + 6)) 9 [.int x4, .int x5] hX (fun l hl o ho => c_X9_rankOf l hl o3.2 m x4 x5 o ho) dL_law_2825 (by decide) rfl rfl q_1923 okV_X9_rankOf rfl ⟨(Nat.le_of_ble_eq_true rfl), (Nat.le_of_ble_eq_true rfl)⟩ rfl (Nat.le_of_ble_eq_true rfl) (Nat.add_zero _) (Nat.add_zero _) ⟨hc1, hs1⟩ (fun o6 => ?_)
  refine z_istore hX [(6, .int o6.1), (5, .int o3.1), (0, .ref b), (1, .ref x), (2, .ref m), (3, .ref ou), (4, .int i)] (by decide) rfl dL_law_2828 ?_
  refine z_aload_n hX 4 rfl rfl dL_law_2830 ?_
  refine z_cVIp (C' := (C + 1)) (S' := (S + 6)) 9 [] hX (fun l hl o ho => c_X9_thrown l hl o6.2 m o ho) dL_law_2831 (by decide) rfl rfl q_1439 okV_X9_thrown rfl ⟨(Nat.le_of_ble_eq_true rfl), (Nat.le_of_ble_eq_true rfl)⟩ rfl (Nat.le_of_ble_eq_true rfl) (Nat.add_zero _) (Nat.add_zero _) ⟨hc1, hs1⟩ (fun o7 => ?_)
  refine z_iload hX 1 rfl dL_law_2834 ?_
  refine z_icmp_eq hX 2841 (by decide) dL_law_2836 (fun _ => ?_) (fun _ => ?_)
  · refine z_iload hX 1 rfl dL_law_2841 ?_
    refine z_if_ne hX 2858 (by decide) dL_law_2843 (fun _ => ?_) (fun _ => ?_)
    · refine z_goto hX 3165 (by decide) dL_law_2858 ?_
      refine z_sub [2, 3, 4, 5, 6] rfl ?_
      exact z_widen (by omega) (by omega) (hk o6.2)
    · refine z_aload_n hX 5 rfl rfl dL_law_2846 ?_
      refine z_iconst (v := 0) hX (by decide) dL_law_2847 ?_
      refine z_aL hX dL_law_2848 (fun x8 => ?_)
      refine z_iload hX 0 rfl dL_law_2849 ?_
      refine z_i2l hX rfl dL_law_2851 ?_
      refine z_lcmp hX dL_law_2852 ?_
      refine z_if_eq hX 2858 (by decide) dL_law_2853 (fun _ => ?_) (fun _ => ?_)
      · refine z_goto hX 3165 (by decide) dL_law_2858 ?_
        refine z_sub [2, 3, 4, 5, 6] rfl ?_
        exact z_widen (by omega) (by omega) (hk o6.2)
      · exact z_any hq0
  · exact z_any hq0
