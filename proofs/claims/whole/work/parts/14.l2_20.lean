theorem dL_law_2861 : decode cL_law 2861 = .ok (.aload_n 1, 1) := by decide +kernel
theorem dL_law_2862 : decode cL_law 2862 = .ok (.invokevirtual 318, 3) := by decide +kernel
theorem dL_law_2865 : decode cL_law 2865 = .ok (.aload_n 2, 1) := by decide +kernel
theorem dL_law_2866 : decode cL_law 2866 = .ok (.invokevirtual 321, 3) := by decide +kernel
theorem dL_law_2869 : decode cL_law 2869 = .ok (.if_icmp .eq 296, 3) := by decide +kernel
theorem dL_law_2874 : decode cL_law 2874 = .ok (.aload_n 1, 1) := by decide +kernel
theorem dL_law_2875 : decode cL_law 2875 = .ok (.aload_n 0, 1) := by decide +kernel
theorem dL_law_2876 : decode cL_law 2876 = .ok (.iload 4, 2) := by decide +kernel
theorem dL_law_2878 : decode cL_law 2878 = .ok (.iconst 1, 1) := by decide +kernel
theorem dL_law_2879 : decode cL_law 2879 = .ok (.iadd, 1) := by decide +kernel
theorem dL_law_2880 : decode cL_law 2880 = .ok (.iaload, 1) := by decide +kernel
theorem dL_law_2881 : decode cL_law 2881 = .ok (.aload_n 0, 1) := by decide +kernel
theorem dL_law_2882 : decode cL_law 2882 = .ok (.iload 4, 2) := by decide +kernel
theorem dL_law_2884 : decode cL_law 2884 = .ok (.iconst 2, 1) := by decide +kernel
theorem dL_law_2885 : decode cL_law 2885 = .ok (.iadd, 1) := by decide +kernel
theorem dL_law_2886 : decode cL_law 2886 = .ok (.iaload, 1) := by decide +kernel
theorem dL_law_2887 : decode cL_law 2887 = .ok (.invokevirtual 322, 3) := by decide +kernel
theorem dL_law_2890 : decode cL_law 2890 = .ok (.aload_n 2, 1) := by decide +kernel
theorem dL_law_2891 : decode cL_law 2891 = .ok (.aload_n 0, 1) := by decide +kernel
theorem dL_law_2892 : decode cL_law 2892 = .ok (.iload 4, 2) := by decide +kernel
theorem dL_law_2894 : decode cL_law 2894 = .ok (.iconst 1, 1) := by decide +kernel
theorem dL_law_2895 : decode cL_law 2895 = .ok (.iadd, 1) := by decide +kernel
theorem dL_law_2896 : decode cL_law 2896 = .ok (.iaload, 1) := by decide +kernel
theorem dL_law_2897 : decode cL_law 2897 = .ok (.aload_n 0, 1) := by decide +kernel
theorem dL_law_2898 : decode cL_law 2898 = .ok (.iload 4, 2) := by decide +kernel
theorem dL_law_2900 : decode cL_law 2900 = .ok (.iconst 2, 1) := by decide +kernel
theorem dL_law_2901 : decode cL_law 2901 = .ok (.iadd, 1) := by decide +kernel
theorem dL_law_2902 : decode cL_law 2902 = .ok (.iaload, 1) := by decide +kernel
theorem dL_law_2903 : decode cL_law 2903 = .ok (.invokevirtual 325, 3) := by decide +kernel
theorem dL_law_2906 : decode cL_law 2906 = .ok (.if_icmp .eq 259, 3) := by decide +kernel
theorem dL_law_2911 : decode cL_law 2911 = .ok (.aload_n 1, 1) := by decide +kernel
theorem dL_law_2912 : decode cL_law 2912 = .ok (.aload_n 0, 1) := by decide +kernel
theorem dL_law_2913 : decode cL_law 2913 = .ok (.iload 4, 2) := by decide +kernel
theorem dL_law_2915 : decode cL_law 2915 = .ok (.iconst 1, 1) := by decide +kernel
theorem dL_law_2916 : decode cL_law 2916 = .ok (.iadd, 1) := by decide +kernel
theorem dL_law_2917 : decode cL_law 2917 = .ok (.iaload, 1) := by decide +kernel
theorem dL_law_2918 : decode cL_law 2918 = .ok (.aload_n 0, 1) := by decide +kernel
theorem dL_law_2919 : decode cL_law 2919 = .ok (.iload 4, 2) := by decide +kernel
theorem dL_law_2921 : decode cL_law 2921 = .ok (.iconst 2, 1) := by decide +kernel
theorem dL_law_2922 : decode cL_law 2922 = .ok (.iadd, 1) := by decide +kernel
theorem dL_law_2923 : decode cL_law 2923 = .ok (.iaload, 1) := by decide +kernel
theorem dL_law_2924 : decode cL_law 2924 = .ok (.invokevirtual 326, 3) := by decide +kernel
theorem dL_law_2927 : decode cL_law 2927 = .ok (.aload_n 2, 1) := by decide +kernel
theorem dL_law_2928 : decode cL_law 2928 = .ok (.aload_n 0, 1) := by decide +kernel
theorem dL_law_2929 : decode cL_law 2929 = .ok (.iload 4, 2) := by decide +kernel
theorem dL_law_2931 : decode cL_law 2931 = .ok (.iconst 1, 1) := by decide +kernel
theorem dL_law_2932 : decode cL_law 2932 = .ok (.iadd, 1) := by decide +kernel
theorem dL_law_2933 : decode cL_law 2933 = .ok (.iaload, 1) := by decide +kernel
theorem dL_law_2934 : decode cL_law 2934 = .ok (.aload_n 0, 1) := by decide +kernel
theorem dL_law_2935 : decode cL_law 2935 = .ok (.iload 4, 2) := by decide +kernel
theorem dL_law_2937 : decode cL_law 2937 = .ok (.iconst 2, 1) := by decide +kernel
theorem dL_law_2938 : decode cL_law 2938 = .ok (.iadd, 1) := by decide +kernel
theorem dL_law_2939 : decode cL_law 2939 = .ok (.iaload, 1) := by decide +kernel
theorem dL_law_2940 : decode cL_law 2940 = .ok (.invokevirtual 329, 3) := by decide +kernel
theorem dL_law_2943 : decode cL_law 2943 = .ok (.if_icmp .eq 222, 3) := by decide +kernel
theorem dL_law_2948 : decode cL_law 2948 = .ok (.aload_n 1, 1) := by decide +kernel
theorem dL_law_2949 : decode cL_law 2949 = .ok (.aload_n 0, 1) := by decide +kernel
theorem dL_law_2950 : decode cL_law 2950 = .ok (.iload 4, 2) := by decide +kernel
theorem dL_law_2952 : decode cL_law 2952 = .ok (.iconst 1, 1) := by decide +kernel
theorem dL_law_2953 : decode cL_law 2953 = .ok (.iadd, 1) := by decide +kernel
theorem dL_law_2954 : decode cL_law 2954 = .ok (.iaload, 1) := by decide +kernel
theorem dL_law_2955 : decode cL_law 2955 = .ok (.aload_n 0, 1) := by decide +kernel
theorem dL_law_2956 : decode cL_law 2956 = .ok (.iload 4, 2) := by decide +kernel
theorem dL_law_2958 : decode cL_law 2958 = .ok (.iconst 2, 1) := by decide +kernel
theorem dL_law_2959 : decode cL_law 2959 = .ok (.iadd, 1) := by decide +kernel
theorem dL_law_2960 : decode cL_law 2960 = .ok (.iaload, 1) := by decide +kernel
theorem dL_law_2961 : decode cL_law 2961 = .ok (.invokevirtual 330, 3) := by decide +kernel
theorem dL_law_2964 : decode cL_law 2964 = .ok (.aload_n 2, 1) := by decide +kernel
theorem dL_law_2965 : decode cL_law 2965 = .ok (.aload_n 0, 1) := by decide +kernel
theorem dL_law_2966 : decode cL_law 2966 = .ok (.iload 4, 2) := by decide +kernel
theorem dL_law_2968 : decode cL_law 2968 = .ok (.iconst 1, 1) := by decide +kernel
theorem dL_law_2969 : decode cL_law 2969 = .ok (.iadd, 1) := by decide +kernel
theorem dL_law_2970 : decode cL_law 2970 = .ok (.iaload, 1) := by decide +kernel
theorem dL_law_2971 : decode cL_law 2971 = .ok (.aload_n 0, 1) := by decide +kernel
theorem dL_law_2972 : decode cL_law 2972 = .ok (.iload 4, 2) := by decide +kernel
theorem dL_law_2974 : decode cL_law 2974 = .ok (.iconst 2, 1) := by decide +kernel
theorem dL_law_2975 : decode cL_law 2975 = .ok (.iadd, 1) := by decide +kernel
theorem dL_law_2976 : decode cL_law 2976 = .ok (.iaload, 1) := by decide +kernel
theorem dL_law_2977 : decode cL_law 2977 = .ok (.invokevirtual 333, 3) := by decide +kernel
theorem dL_law_2980 : decode cL_law 2980 = .ok (.if_icmp .eq 185, 3) := by decide +kernel
set_option maxRecDepth 20000 in
set_option maxHeartbeats 4000000 in
theorem zl_56 {X : Cxt} (hX : okX X cL_law RL room_1 (some .boolean) 8) {Qo : Int32 → State → Prop} (hq0 : ∀ st, Qo 0 st) {C S : Nat} (h1 : C + 3 ≤ room_1.cells) (h2 : S + 18 ≤ room_1.slots) (b x m ou : Nat) (i : Int32) (kj : Mem → Option Int32) (hk : ∀ M, Zj X Qo (C + 3) (S + 18) 3165 [(0, .ref b), (1, .ref x), (2, .ref m), (3, .ref ou), (4, .int i)] [] M (kj M)) (M : Mem) : Zj X Qo C S 2861 [(0, .ref b), (1, .ref x), (2, .ref m), (3, .ref ou), (4, .int i)] [] M (cs_56 b x m ou i kj M) := by
  have hc0 : C + 0 ≤ room_1.cells := Nat.le_trans (by omega) h1
  have hs0 : S + 0 ≤ room_1.slots := Nat.le_trans (by omega) h2
  have hc1 : C + 1 ≤ room_1.cells := Nat.le_trans (by omega) h1
  have hs1 : S + 6 ≤ room_1.slots := Nat.le_trans (by omega) h2
  have hc2 : C + 2 ≤ room_1.cells := Nat.le_trans (by omega) h1
  have hs2 : S + 12 ≤ room_1.slots := Nat.le_trans (by omega) h2
  have hc3 : C + 3 ≤ room_1.cells := Nat.le_trans (by omega) h1
  have hs3 : S + 18 ≤ room_1.slots := Nat.le_trans (by omega) h2
  unfold cs_56
  refine z_aload_n hX 1 rfl rfl dL_law_2861 ?_
  refine z_cVIm (C' := C) (S' := S) 8 [] hX (fun l hl o ho => c_X8_richest l hl M x o ho) dL_law_2862 (by decide) rfl rfl q_658 okV_X8_richest rfl ⟨(Nat.le_of_ble_eq_true rfl), (Nat.le_of_ble_eq_true rfl)⟩ rfl (Nat.le_of_ble_eq_true rfl) (Nat.add_zero _) (Nat.add_zero _) ⟨hc0, hs0⟩ (fun o1 => ?_)
  refine z_aload_n hX 2 rfl rfl dL_law_2865 ?_
  refine z_cVIm (C' := C) (S' := S) 9 [] hX (fun l hl o ho => c_X9_richest l hl o1.2 m o ho) dL_law_2866 (by decide) rfl rfl q_1927 okV_X9_richest rfl ⟨(Nat.le_of_ble_eq_true rfl), (Nat.le_of_ble_eq_true rfl)⟩ rfl (Nat.le_of_ble_eq_true rfl) (Nat.add_zero _) (Nat.add_zero _) ⟨hc0, hs0⟩ (fun o2 => ?_)
  refine z_icmp_eq hX 3165 (by decide) dL_law_2869 (fun _ => ?_) (fun _ => ?_)
  · refine z_sub [0, 1, 2, 3, 4] rfl ?_
    exact z_widen (by omega) (by omega) (hk o2.2)
  · exact z_any hq0
set_option maxRecDepth 20000 in
set_option maxHeartbeats 4000000 in
theorem zl_57 {X : Cxt} (hX : okX X cL_law RL room_1 (some .boolean) 8) {Qo : Int32 → State → Prop} (hq0 : ∀ st, Qo 0 st) {C S : Nat} (h1 : C + 3 ≤ room_1.cells) (h2 : S + 18 ≤ room_1.slots) (b x m ou : Nat) (i : Int32) (kj : Mem → Option Int32) (hk : ∀ M, Zj X Qo (C + 3) (S + 18) 3165 [(0, .ref b), (1, .ref x), (2, .ref m), (3, .ref ou), (4, .int i)] [] M (kj M)) (M : Mem) : Zj X Qo C S 2874 [(0, .ref b), (1, .ref x), (2, .ref m), (3, .ref ou), (4, .int i)] [] M (cs_57 b x m ou i kj M) := by
  have hc0 : C + 0 ≤ room_1.cells := Nat.le_trans (by omega) h1
  have hs0 : S + 0 ≤ room_1.slots := Nat.le_trans (by omega) h2
  have hc1 : C + 1 ≤ room_1.cells := Nat.le_trans (by omega) h1
  have hs1 : S + 6 ≤ room_1.slots := Nat.le_trans (by omega) h2
  have hc2 : C + 2 ≤ room_1.cells := Nat.le_trans (by omega) h1
  have hs2 : S + 12 ≤ room_1.slots := Nat.le_trans (by omega) h2
  have hc3 : C + 3 ≤ room_1.cells := Nat.le_trans (by omega) h1
  have hs3 : S + 18 ≤ room_1.slots := Nat.le_trans (by omega) h2
  unfold cs_57
  refine z_aload_n hX 1 rfl rfl dL_law_2874 ?_
  refine z_aload_n hX 0 rfl rfl dL_law_2875 ?_
  refine z_iload hX 4 rfl dL_law_2876 ?_
  refine z_iconst (v := 1) hX (by decide) dL_law_2878 ?_
  refine z_iadd hX dL_law_2879 ?_
  refine z_aI hX dL_law_2880 (fun x1 => ?_)
  refine z_aload_n hX 0 rfl rfl dL_law_2881 ?_
  refine z_iload hX 4 rfl dL_law_2882 ?_
  refine z_iconst (v := 2) hX (by decide) dL_law_2884 ?_
  refine z_iadd hX dL_law_2885 ?_
  refine z_aI hX dL_law_2886 (fun x2 => ?_)
  refine z_cVIm (C' := C) (S' := S) 8 [.int x1, .int x2] hX (fun l hl o ho => c_X8_setBudget l hl M x x1 x2 o ho) dL_law_2887 (by decide) rfl rfl q_940 okV_X8_setBudget rfl ⟨(Nat.le_of_ble_eq_true rfl), (Nat.le_of_ble_eq_true rfl)⟩ rfl (Nat.le_of_ble_eq_true rfl) (Nat.add_zero _) (Nat.add_zero _) ⟨hc0, hs0⟩ (fun o3 => ?_)
  refine z_aload_n hX 2 rfl rfl dL_law_2890 ?_
  refine z_aload_n hX 0 rfl rfl dL_law_2891 ?_
  refine z_iload hX 4 rfl dL_law_2892 ?_
  refine z_iconst (v := 1) hX (by decide) dL_law_2894 ?_
  refine z_iadd hX dL_law_2895 ?_
  refine z_aI hX dL_law_2896 (fun x4 => ?_)
  refine z_aload_n hX 0 rfl rfl dL_law_2897 ?_
  refine z_iload hX 4 rfl dL_law_2898 ?_
  refine z_iconst (v := 2) hX (by decide) dL_law_2900 ?_
  refine z_iadd hX dL_law_2901 ?_
  refine z_aI hX dL_law_2902 (fun x5 => ?_)
  refine z_cVIm (C' := C) (S' := S) 9 [.int x4, .int x5] hX (fun l hl o ho => c_X9_setBudget l hl o3.2 m x4 x5 o ho) dL_law_2903 (by decide) rfl rfl q_1935 okV_X9_setBudget rfl ⟨(Nat.le_of_ble_eq_true rfl), (Nat.le_of_ble_eq_true rfl)⟩ rfl (Nat.le_of_ble_eq_true rfl) (Nat.add_zero _) (Nat.add_zero _) ⟨hc0, hs0⟩ (fun o6 => ?_)
  refine z_icmp_eq hX 3165 (by decide) dL_law_2906 (fun _ => ?_) (fun _ => ?_)
  · refine z_sub [0, 1, 2, 3, 4] rfl ?_
    exact z_widen (by omega) (by omega) (hk o6.2)
  · exact z_any hq0
set_option maxRecDepth 20000 in
set_option maxHeartbeats 4000000 in
theorem zl_58 {X : Cxt} (hX : okX X cL_law RL room_1 (some .boolean) 8) {Qo : Int32 → State → Prop} (hq0 : ∀ st, Qo 0 st) {C S : Nat} (h1 : C + 3 ≤ room_1.cells) (h2 : S + 18 ≤ room_1.slots) (b x m ou : Nat) (i : Int32) (kj : Mem → Option Int32) (hk : ∀ M, Zj X Qo (C + 3) (S + 18) 3165 [(0, .ref b), (1, .ref x), (2, .ref m), (3, .ref ou), (4, .int i)] [] M (kj M)) (M : Mem) : Zj X Qo C S 2911 [(0, .ref b), (1, .ref x), (2, .ref m), (3, .ref ou), (4, .int i)] [] M (cs_58 b x m ou i kj M) := by
  have hc0 : C + 0 ≤ room_1.cells := Nat.le_trans (by omega) h1
  have hs0 : S + 0 ≤ room_1.slots := Nat.le_trans (by omega) h2
  have hc1 : C + 1 ≤ room_1.cells := Nat.le_trans (by omega) h1
  have hs1 : S + 6 ≤ room_1.slots := Nat.le_trans (by omega) h2
  have hc2 : C + 2 ≤ room_1.cells := Nat.le_trans (by omega) h1
  have hs2 : S + 12 ≤ room_1.slots := Nat.le_trans (by omega) h2
  have hc3 : C + 3 ≤ room_1.cells := Nat.le_trans (by omega) h1
  have hs3 : S + 18 ≤ room_1.slots := Nat.le_trans (by omega) h2
  unfold cs_58
  refine z_aload_n hX 1 rfl rfl dL_law_2911 ?_
  refine z_aload_n hX 0 rfl rfl dL_law_2912 ?_
  refine z_iload hX 4 rfl dL_law_2913 ?_
  refine z_iconst (v := 1) hX (by decide) dL_law_2915 ?_
  refine z_iadd hX dL_law_2916 ?_
  refine z_aI hX dL_law_2917 (fun x1 => ?_)
  refine z_aload_n hX 0 rfl rfl dL_law_2918 ?_
  refine z_iload hX 4 rfl dL_law_2919 ?_
  refine z_iconst (v := 2) hX (by decide) dL_law_2921 ?_
  refine z_iadd hX dL_law_2922 ?_
  refine z_aI hX dL_law_2923 (fun x2 => ?_)
  refine z_cVIm (C' := C) (S' := S) 8 [.int x1, .int x2] hX (fun l hl o ho => c_X8_setCost l hl M x x1 x2 o ho) dL_law_2924 (by decide) rfl rfl q_961 okV_X8_setCost rfl ⟨(Nat.le_of_ble_eq_true rfl), (Nat.le_of_ble_eq_true rfl)⟩ rfl (Nat.le_of_ble_eq_true rfl) (Nat.add_zero _) (Nat.add_zero _) ⟨hc0, hs0⟩ (fun o3 => ?_)
  refine z_aload_n hX 2 rfl rfl dL_law_2927 ?_
  refine z_aload_n hX 0 rfl rfl dL_law_2928 ?_
  refine z_iload hX 4 rfl dL_law_2929 ?_
  refine z_iconst (v := 1) hX (by decide) dL_law_2931 ?_
  refine z_iadd hX dL_law_2932 ?_
  refine z_aI hX dL_law_2933 (fun x4 => ?_)
  refine z_aload_n hX 0 rfl rfl dL_law_2934 ?_
  refine z_iload hX 4 rfl dL_law_2935 ?_
  refine z_iconst (v := 2) hX (by decide) dL_law_2937 ?_
  refine z_iadd hX dL_law_2938 ?_
  refine z_aI hX dL_law_2939 (fun x5 => ?_)
  refine z_cVIm (C' := C) (S' := S) 9 [.int x4, .int x5] hX (fun l hl o ho => c_X9_setCost l hl o3.2 m x4 x5 o ho) dL_law_2940 (by decide) rfl rfl q_1947 okV_X9_setCost rfl ⟨(Nat.le_of_ble_eq_true rfl), (Nat.le_of_ble_eq_true rfl)⟩ rfl (Nat.le_of_ble_eq_true rfl) (Nat.add_zero _) (Nat.add_zero _) ⟨hc0, hs0⟩ (fun o6 => ?_)
  refine z_icmp_eq hX 3165 (by decide) dL_law_2943 (fun _ => ?_) (fun _ => ?_)
  · refine z_sub [0, 1, 2, 3, 4] rfl ?_
    exact z_widen (by omega) (by omega) (hk o6.2)
  · exact z_any hq0
set_option maxRecDepth 20000 in
set_option maxHeartbeats 4000000 in
theorem zl_59 {X : Cxt} (hX : okX X cL_law RL room_1 (some .boolean) 8) {Qo : Int32 → State → Prop} (hq0 : ∀ st, Qo 0 st) {C S : Nat} (h1 : C + 3 ≤ room_1.cells) (h2 : S + 18 ≤ room_1.slots) (b x m ou : Nat) (i : Int32) (kj : Mem → Option Int32) (hk : ∀ M, Zj X Qo (C + 3) (S + 18) 3165 [(0, .ref b), (1, .ref x), (2, .ref m), (3, .ref ou), (4, .int i)] [] M (kj M)) (M : Mem) : Zj X Qo C S 2948 [(0, .ref b), (1, .ref x), (2, .ref m), (3, .ref ou), (4, .int i)] [] M (cs_59 b x m ou i kj M) := by
  have hc0 : C + 0 ≤ room_1.cells := Nat.le_trans (by omega) h1
  have hs0 : S + 0 ≤ room_1.slots := Nat.le_trans (by omega) h2
  have hc1 : C + 1 ≤ room_1.cells := Nat.le_trans (by omega) h1
  have hs1 : S + 6 ≤ room_1.slots := Nat.le_trans (by omega) h2
  have hc2 : C + 2 ≤ room_1.cells := Nat.le_trans (by omega) h1
  have hs2 : S + 12 ≤ room_1.slots := Nat.le_trans (by omega) h2
  have hc3 : C + 3 ≤ room_1.cells := Nat.le_trans (by omega) h1
  have hs3 : S + 18 ≤ room_1.slots := Nat.le_trans (by omega) h2
  unfold cs_59
  refine z_aload_n hX 1 rfl rfl dL_law_2948 ?_
  refine z_aload_n hX 0 rfl rfl dL_law_2949 ?_
  refine z_iload hX 4 rfl dL_law_2950 ?_
  refine z_iconst (v := 1) hX (by decide) dL_law_2952 ?_
  refine z_iadd hX dL_law_2953 ?_
  refine z_aI hX dL_law_2954 (fun x1 => ?_)
  refine z_aload_n hX 0 rfl rfl dL_law_2955 ?_
  refine z_iload hX 4 rfl dL_law_2956 ?_
  refine z_iconst (v := 2) hX (by decide) dL_law_2958 ?_
  refine z_iadd hX dL_law_2959 ?_
  refine z_aI hX dL_law_2960 (fun x2 => ?_)
  refine z_cVIm (C' := C) (S' := S) 8 [.int x1, .int x2] hX (fun l hl o ho => c_X8_setWeight l hl M x x1 x2 o ho) dL_law_2961 (by decide) rfl rfl q_965 okV_X8_setWeight rfl ⟨(Nat.le_of_ble_eq_true rfl), (Nat.le_of_ble_eq_true rfl)⟩ rfl (Nat.le_of_ble_eq_true rfl) (Nat.add_zero _) (Nat.add_zero _) ⟨hc0, hs0⟩ (fun o3 => ?_)
  refine z_aload_n hX 2 rfl rfl dL_law_2964 ?_
  refine z_aload_n hX 0 rfl rfl dL_law_2965 ?_
  refine z_iload hX 4 rfl dL_law_2966 ?_
  refine z_iconst (v := 1) hX (by decide) dL_law_2968 ?_
  refine z_iadd hX dL_law_2969 ?_
  refine z_aI hX dL_law_2970 (fun x4 => ?_)
  refine z_aload_n hX 0 rfl rfl dL_law_2971 ?_
  refine z_iload hX 4 rfl dL_law_2972 ?_
  refine z_iconst (v := 2) hX (by decide) dL_law_2974 ?_
  refine z_iadd hX dL_law_2975 ?_
  refine z_aI hX dL_law_2976 (fun x5 => ?_)
  refine z_cVIm (C' := C) (S' := S) 9 [.int x4, .int x5] hX (fun l hl o ho => c_X9_setWeight l hl o3.2 m x4 x5 o ho) dL_law_2977 (by decide) rfl rfl q_1951 okV_X9_setWeight rfl ⟨(Nat.le_of_ble_eq_true rfl), (Nat.le_of_ble_eq_true rfl)⟩ rfl (Nat.le_of_ble_eq_true rfl) (Nat.add_zero _) (Nat.add_zero _) ⟨hc0, hs0⟩ (fun o6 => ?_)
  refine z_icmp_eq hX 3165 (by decide) dL_law_2980 (fun _ => ?_) (fun _ => ?_)
  · refine z_sub [0, 1, 2, 3, 4] rfl ?_
    exact z_widen (by omega) (by omega) (hk o6.2)
  · exact z_any hq0
