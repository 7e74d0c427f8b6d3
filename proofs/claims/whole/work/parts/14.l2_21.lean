theorem dL_law_2985 : decode cL_law 2985 = .ok (.aload_n 1, 1) := by decide +kernel
theorem dL_law_2986 : decode cL_law 2986 = .ok (.aload_n 0, 1) := by decide +kernel
theorem dL_law_2987 : decode cL_law 2987 = .ok (.iload 4, 2) := by decide +kernel
theorem dL_law_2989 : decode cL_law 2989 = .ok (.iconst 1, 1) := by decide +kernel
theorem dL_law_2990 : decode cL_law 2990 = .ok (.iadd, 1) := by decide +kernel
theorem dL_law_2991 : decode cL_law 2991 = .ok (.iaload, 1) := by decide +kernel
theorem dL_law_2992 : decode cL_law 2992 = .ok (.aload_n 0, 1) := by decide +kernel
theorem dL_law_2993 : decode cL_law 2993 = .ok (.iload 4, 2) := by decide +kernel
theorem dL_law_2995 : decode cL_law 2995 = .ok (.iconst 2, 1) := by decide +kernel
theorem dL_law_2996 : decode cL_law 2996 = .ok (.iadd, 1) := by decide +kernel
theorem dL_law_2997 : decode cL_law 2997 = .ok (.iaload, 1) := by decide +kernel
theorem dL_law_2998 : decode cL_law 2998 = .ok (.aload_n 0, 1) := by decide +kernel
theorem dL_law_2999 : decode cL_law 2999 = .ok (.iload 4, 2) := by decide +kernel
theorem dL_law_3001 : decode cL_law 3001 = .ok (.iconst 3, 1) := by decide +kernel
theorem dL_law_3002 : decode cL_law 3002 = .ok (.iadd, 1) := by decide +kernel
theorem dL_law_3003 : decode cL_law 3003 = .ok (.iaload, 1) := by decide +kernel
theorem dL_law_3004 : decode cL_law 3004 = .ok (.ifCond .eq 7, 3) := by decide +kernel
theorem dL_law_3007 : decode cL_law 3007 = .ok (.iconst 1, 1) := by decide +kernel
theorem dL_law_3008 : decode cL_law 3008 = .ok (.goto 4, 3) := by decide +kernel
theorem dL_law_3011 : decode cL_law 3011 = .ok (.iconst 0, 1) := by decide +kernel
theorem dL_law_3012 : decode cL_law 3012 = .ok (.invokevirtual 334, 3) := by decide +kernel
theorem dL_law_3015 : decode cL_law 3015 = .ok (.aload_n 2, 1) := by decide +kernel
theorem dL_law_3016 : decode cL_law 3016 = .ok (.aload_n 0, 1) := by decide +kernel
theorem dL_law_3017 : decode cL_law 3017 = .ok (.iload 4, 2) := by decide +kernel
theorem dL_law_3019 : decode cL_law 3019 = .ok (.iconst 1, 1) := by decide +kernel
theorem dL_law_3020 : decode cL_law 3020 = .ok (.iadd, 1) := by decide +kernel
theorem dL_law_3021 : decode cL_law 3021 = .ok (.iaload, 1) := by decide +kernel
theorem dL_law_3022 : decode cL_law 3022 = .ok (.aload_n 0, 1) := by decide +kernel
theorem dL_law_3023 : decode cL_law 3023 = .ok (.iload 4, 2) := by decide +kernel
theorem dL_law_3025 : decode cL_law 3025 = .ok (.iconst 2, 1) := by decide +kernel
theorem dL_law_3026 : decode cL_law 3026 = .ok (.iadd, 1) := by decide +kernel
theorem dL_law_3027 : decode cL_law 3027 = .ok (.iaload, 1) := by decide +kernel
theorem dL_law_3028 : decode cL_law 3028 = .ok (.aload_n 0, 1) := by decide +kernel
theorem dL_law_3029 : decode cL_law 3029 = .ok (.iload 4, 2) := by decide +kernel
theorem dL_law_3031 : decode cL_law 3031 = .ok (.iconst 3, 1) := by decide +kernel
theorem dL_law_3032 : decode cL_law 3032 = .ok (.iadd, 1) := by decide +kernel
theorem dL_law_3033 : decode cL_law 3033 = .ok (.iaload, 1) := by decide +kernel
theorem dL_law_3034 : decode cL_law 3034 = .ok (.ifCond .eq 7, 3) := by decide +kernel
theorem dL_law_3037 : decode cL_law 3037 = .ok (.iconst 1, 1) := by decide +kernel
theorem dL_law_3038 : decode cL_law 3038 = .ok (.goto 4, 3) := by decide +kernel
theorem dL_law_3041 : decode cL_law 3041 = .ok (.iconst 0, 1) := by decide +kernel
theorem dL_law_3042 : decode cL_law 3042 = .ok (.invokevirtual 338, 3) := by decide +kernel
theorem dL_law_3045 : decode cL_law 3045 = .ok (.if_icmp .eq 120, 3) := by decide +kernel
theorem dL_law_3050 : decode cL_law 3050 = .ok (.aload_n 1, 1) := by decide +kernel
theorem dL_law_3051 : decode cL_law 3051 = .ok (.aload_n 0, 1) := by decide +kernel
theorem dL_law_3052 : decode cL_law 3052 = .ok (.iload 4, 2) := by decide +kernel
theorem dL_law_3054 : decode cL_law 3054 = .ok (.iconst 1, 1) := by decide +kernel
theorem dL_law_3055 : decode cL_law 3055 = .ok (.iadd, 1) := by decide +kernel
theorem dL_law_3056 : decode cL_law 3056 = .ok (.iaload, 1) := by decide +kernel
theorem dL_law_3057 : decode cL_law 3057 = .ok (.aload_n 0, 1) := by decide +kernel
theorem dL_law_3058 : decode cL_law 3058 = .ok (.iload 4, 2) := by decide +kernel
theorem dL_law_3060 : decode cL_law 3060 = .ok (.iconst 2, 1) := by decide +kernel
theorem dL_law_3061 : decode cL_law 3061 = .ok (.iadd, 1) := by decide +kernel
theorem dL_law_3062 : decode cL_law 3062 = .ok (.iaload, 1) := by decide +kernel
theorem dL_law_3063 : decode cL_law 3063 = .ok (.aload_n 0, 1) := by decide +kernel
theorem dL_law_3064 : decode cL_law 3064 = .ok (.iload 4, 2) := by decide +kernel
theorem dL_law_3066 : decode cL_law 3066 = .ok (.iconst 3, 1) := by decide +kernel
theorem dL_law_3067 : decode cL_law 3067 = .ok (.iadd, 1) := by decide +kernel
theorem dL_law_3068 : decode cL_law 3068 = .ok (.iaload, 1) := by decide +kernel
theorem dL_law_3069 : decode cL_law 3069 = .ok (.ifCond .eq 7, 3) := by decide +kernel
theorem dL_law_3072 : decode cL_law 3072 = .ok (.iconst 1, 1) := by decide +kernel
theorem dL_law_3073 : decode cL_law 3073 = .ok (.goto 4, 3) := by decide +kernel
theorem dL_law_3076 : decode cL_law 3076 = .ok (.iconst 0, 1) := by decide +kernel
theorem dL_law_3077 : decode cL_law 3077 = .ok (.invokevirtual 339, 3) := by decide +kernel
theorem dL_law_3080 : decode cL_law 3080 = .ok (.aload_n 2, 1) := by decide +kernel
theorem dL_law_3081 : decode cL_law 3081 = .ok (.aload_n 0, 1) := by decide +kernel
theorem dL_law_3082 : decode cL_law 3082 = .ok (.iload 4, 2) := by decide +kernel
theorem dL_law_3084 : decode cL_law 3084 = .ok (.iconst 1, 1) := by decide +kernel
theorem dL_law_3085 : decode cL_law 3085 = .ok (.iadd, 1) := by decide +kernel
theorem dL_law_3086 : decode cL_law 3086 = .ok (.iaload, 1) := by decide +kernel
theorem dL_law_3087 : decode cL_law 3087 = .ok (.aload_n 0, 1) := by decide +kernel
theorem dL_law_3088 : decode cL_law 3088 = .ok (.iload 4, 2) := by decide +kernel
theorem dL_law_3090 : decode cL_law 3090 = .ok (.iconst 2, 1) := by decide +kernel
theorem dL_law_3091 : decode cL_law 3091 = .ok (.iadd, 1) := by decide +kernel
theorem dL_law_3092 : decode cL_law 3092 = .ok (.iaload, 1) := by decide +kernel
theorem dL_law_3093 : decode cL_law 3093 = .ok (.aload_n 0, 1) := by decide +kernel
theorem dL_law_3094 : decode cL_law 3094 = .ok (.iload 4, 2) := by decide +kernel
theorem dL_law_3096 : decode cL_law 3096 = .ok (.iconst 3, 1) := by decide +kernel
theorem dL_law_3097 : decode cL_law 3097 = .ok (.iadd, 1) := by decide +kernel
theorem dL_law_3098 : decode cL_law 3098 = .ok (.iaload, 1) := by decide +kernel
theorem dL_law_3099 : decode cL_law 3099 = .ok (.ifCond .eq 7, 3) := by decide +kernel
theorem dL_law_3102 : decode cL_law 3102 = .ok (.iconst 1, 1) := by decide +kernel
theorem dL_law_3103 : decode cL_law 3103 = .ok (.goto 4, 3) := by decide +kernel
theorem dL_law_3106 : decode cL_law 3106 = .ok (.iconst 0, 1) := by decide +kernel
theorem dL_law_3107 : decode cL_law 3107 = .ok (.invokevirtual 342, 3) := by decide +kernel
theorem dL_law_3110 : decode cL_law 3110 = .ok (.if_icmp .eq 55, 3) := by decide +kernel
set_option maxRecDepth 20000 in
set_option maxHeartbeats 4000000 in
theorem zl_60 {X : Cxt} (hX : okX X cL_law RL room_1 (some .boolean) 8) {Qo : Int32 → State → Prop} (hq0 : ∀ st, Qo 0 st) {C S : Nat} (h1 : C + 3 ≤ room_1.cells) (h2 : S + 18 ≤ room_1.slots) (b x m ou : Nat) (i : Int32) (kj : Mem → Option Int32) (hk : ∀ M, Zj X Qo (C + 3) (S + 18) 3165 [(0, .ref b), (1, .ref x), (2, .ref m), (3, .ref ou), (4, .int i)] [] M (kj M)) (M : Mem) : Zj X Qo C S 2985 [(0, .ref b), (1, .ref x), (2, .ref m), (3, .ref ou), (4, .int i)] [] M (cs_60 b x m ou i kj M) := by
  have hc0 : C + 0 ≤ room_1.cells := Nat.le_trans (by omega) h1
  have hs0 : S + 0 ≤ room_1.slots := Nat.le_trans (by omega) h2
  have hc1 : C + 1 ≤ room_1.cells := Nat.le_trans (by omega) h1
  have hs1 : S + 6 ≤ room_1.slots := Nat.le_trans (by omega) h2
  have hc2 : C + 2 ≤ room_1.cells := Nat.le_trans (by omega) h1
  have hs2 : S + 12 ≤ room_1.slots := Nat.le_trans (by omega) h2
  have hc3 : C + 3 ≤ room_1.cells := Nat.le_trans (by omega) h1
  have hs3 : S + 18 ≤ room_1.slots := Nat.le_trans (by omega) h2
  unfold cs_60
  refine z_aload_n hX 1 rfl rfl dL_law_2985 ?_
  refine z_aload_n hX 0 rfl rfl dL_law_2986 ?_
  refine z_iload hX 4 rfl dL_law_2987 ?_
  refine z_iconst (v := 1) hX (by decide) dL_law_2989 ?_
  refine z_iadd hX dL_law_2990 ?_
  refine z_aI hX dL_law_2991 (fun x1 => ?_)
  refine z_aload_n hX 0 rfl rfl dL_law_2992 ?_
  refine z_iload hX 4 rfl dL_law_2993 ?_
  refine z_iconst (v := 2) hX (by decide) dL_law_2995 ?_
  refine z_iadd hX dL_law_2996 ?_
  refine z_aI hX dL_law_2997 (fun x2 => ?_)
  refine z_aload_n hX 0 rfl rfl dL_law_2998 ?_
  refine z_iload hX 4 rfl dL_law_2999 ?_
  refine z_iconst (v := 3) hX (by decide) dL_law_3001 ?_
  refine z_iadd hX dL_law_3002 ?_
  refine z_aI hX dL_law_3003 (fun x3 => ?_)
  refine z_jn (C' := C) (S' := S) 3012 (fun (j4 : Int32) => [(0, .ref b), (1, .ref x), (2, .ref m), (3, .ref ou), (4, .int i)]) (fun (j4 : Int32) => [.int j4, .int x2, .int x1, .ref x]) (fun (j4 : Int32) => M) (fun j4 => ?_) (fun kj4 => ?_)
  · refine z_cVIm (C' := C) (S' := S) 8 [.int x1, .int x2, .int j4] hX (fun l hl o ho => c_X8_setMember l hl M x x1 x2 j4 o ho) dL_law_3012 (by decide) rfl rfl q_969 okV_X8_setMember rfl ⟨(Nat.le_of_ble_eq_true rfl), (Nat.le_of_ble_eq_true rfl)⟩ rfl (Nat.le_of_ble_eq_true rfl) (Nat.add_zero _) (Nat.add_zero _) ⟨hc0, hs0⟩ (fun o5 => ?_)
    refine z_aload_n hX 2 rfl rfl dL_law_3015 ?_
    refine z_aload_n hX 0 rfl rfl dL_law_3016 ?_
    refine z_iload hX 4 rfl dL_law_3017 ?_
    refine z_iconst (v := 1) hX (by decide) dL_law_3019 ?_
    refine z_iadd hX dL_law_3020 ?_
    refine z_aI hX dL_law_3021 (fun x6 => ?_)
    refine z_aload_n hX 0 rfl rfl dL_law_3022 ?_
    refine z_iload hX 4 rfl dL_law_3023 ?_
    refine z_iconst (v := 2) hX (by decide) dL_law_3025 ?_
    refine z_iadd hX dL_law_3026 ?_
    refine z_aI hX dL_law_3027 (fun x7 => ?_)
    refine z_aload_n hX 0 rfl rfl dL_law_3028 ?_
    refine z_iload hX 4 rfl dL_law_3029 ?_
    refine z_iconst (v := 3) hX (by decide) dL_law_3031 ?_
    refine z_iadd hX dL_law_3032 ?_
    refine z_aI hX dL_law_3033 (fun x8 => ?_)
    refine z_jn (C' := C) (S' := S) 3042 (fun (j9 : Int32) => [(0, .ref b), (1, .ref x), (2, .ref m), (3, .ref ou), (4, .int i)]) (fun (j9 : Int32) => [.int j9, .int x7, .int x6, .ref m, .int o5.1]) (fun (j9 : Int32) => o5.2) (fun j9 => ?_) (fun kj9 => ?_)
    · refine z_cVIm (C' := C) (S' := S) 9 [.int x6, .int x7, .int j9] hX (fun l hl o ho => c_X9_setMember l hl o5.2 m x6 x7 j9 o ho) dL_law_3042 (by decide) rfl rfl q_1955 okV_X9_setMember rfl ⟨(Nat.le_of_ble_eq_true rfl), (Nat.le_of_ble_eq_true rfl)⟩ rfl (Nat.le_of_ble_eq_true rfl) (Nat.add_zero _) (Nat.add_zero _) ⟨hc0, hs0⟩ (fun o10 => ?_)
      refine z_icmp_eq hX 3165 (by decide) dL_law_3045 (fun _ => ?_) (fun _ => ?_)
      · refine z_sub [0, 1, 2, 3, 4] rfl ?_
        exact z_widen (by omega) (by omega) (hk o10.2)
      · exact z_any hq0
    · refine z_iteB ?_
      refine z_if_eq hX 3041 (by decide) dL_law_3034 (fun _ => ?_) (fun _ => ?_)
      · refine z_iconst (v := 0) hX (by decide) dL_law_3041 ?_
        refine z_pure ?_
        refine z_sub [0, 1, 2, 3, 4] rfl ?_
        exact kj9 0
      · refine z_iconst (v := 1) hX (by decide) dL_law_3037 ?_
        refine z_goto hX 3042 (by decide) dL_law_3038 ?_
        refine z_pure ?_
        refine z_sub [0, 1, 2, 3, 4] rfl ?_
        exact kj9 1
  · refine z_iteB ?_
    refine z_if_eq hX 3011 (by decide) dL_law_3004 (fun _ => ?_) (fun _ => ?_)
    · refine z_iconst (v := 0) hX (by decide) dL_law_3011 ?_
      refine z_pure ?_
      refine z_sub [0, 1, 2, 3, 4] rfl ?_
      exact kj4 0
    · refine z_iconst (v := 1) hX (by decide) dL_law_3007 ?_
      refine z_goto hX 3012 (by decide) dL_law_3008 ?_
      refine z_pure ?_
      refine z_sub [0, 1, 2, 3, 4] rfl ?_
      exact kj4 1
set_option maxRecDepth 20000 in
set_option maxHeartbeats 4000000 in
theorem zl_61 {X : Cxt} (hX : okX X cL_law RL room_1 (some .boolean) 8) {Qo : Int32 → State → Prop} (hq0 : ∀ st, Qo 0 st) {C S : Nat} (h1 : C + 3 ≤ room_1.cells) (h2 : S + 18 ≤ room_1.slots) (b x m ou : Nat) (i : Int32) (kj : Mem → Option Int32) (hk : ∀ M, Zj X Qo (C + 3) (S + 18) 3165 [(0, .ref b), (1, .ref x), (2, .ref m), (3, .ref ou), (4, .int i)] [] M (kj M)) (M : Mem) : Zj X Qo C S 3050 [(0, .ref b), (1, .ref x), (2, .ref m), (3, .ref ou), (4, .int i)] [] M (cs_61 b x m ou i kj M) := by
  have hc0 : C + 0 ≤ room_1.cells := Nat.le_trans (by omega) h1
  have hs0 : S + 0 ≤ room_1.slots := Nat.le_trans (by omega) h2
  have hc1 : C + 1 ≤ room_1.cells := Nat.le_trans (by omega) h1
  have hs1 : S + 6 ≤ room_1.slots := Nat.le_trans (by omega) h2
  have hc2 : C + 2 ≤ room_1.cells := Nat.le_trans (by omega) h1
  have hs2 : S + 12 ≤ room_1.slots := Nat.le_trans (by omega) h2
  have hc3 : C + 3 ≤ room_1.cells := Nat.le_trans (by omega) h1
  have hs3 : S + 18 ≤ room_1.slots := Nat.le_trans (by omega) h2
  unfold cs_61
  refine z_aload_n hX 1 rfl rfl dL_law_3050 ?_
  refine z_aload_n hX 0 rfl rfl dL_law_3051 ?_
  refine z_iload hX 4 rfl dL_law_3052 ?_
  refine z_iconst (v := 1) hX (by decide) dL_law_3054 ?_
  refine z_iadd hX dL_law_3055 ?_
  refine z_aI hX dL_law_3056 (fun x1 => ?_)
  refine z_aload_n hX 0 rfl rfl dL_law_3057 ?_
  refine z_iload hX 4 rfl dL_law_3058 ?_
  refine z_iconst (v := 2) hX (by decide) dL_law_3060 ?_
  refine z_iadd hX dL_law_3061 ?_
  refine z_aI hX dL_law_3062 (fun x2 => ?_)
  refine z_aload_n hX 0 rfl rfl dL_law_3063 ?_
  refine z_iload hX 4 rfl dL_law_3064 ?_
  refine z_iconst (v := 3) hX (by decide) dL_law_3066 ?_
  refine z_iadd hX dL_law_3067 ?_
  refine z_aI hX dL_law_3068 (fun x3 => ?_)
  refine z_jn (C' := C) (S' := S) 3077 (fun (j4 : Int32) => [(0, .ref b), (1, .ref x), (2, .ref m), (3, .ref ou), (4, .int i)]) (fun (j4 : Int32) => [.int j4, .int x2, .int x1, .ref x]) (fun (j4 : Int32) => M) (fun j4 => ?_) (fun kj4 => ?_)
  · refine z_cVIm (C' := C) (S' := S) 8 [.int x1, .int x2, .int j4] hX (fun l hl o ho => c_X8_setApproval l hl M x x1 x2 j4 o ho) dL_law_3077 (by decide) rfl rfl q_976 okV_X8_setApproval rfl ⟨(Nat.le_of_ble_eq_true rfl), (Nat.le_of_ble_eq_true rfl)⟩ rfl (Nat.le_of_ble_eq_true rfl) (Nat.add_zero _) (Nat.add_zero _) ⟨hc0, hs0⟩ (fun o5 => ?_)
    refine z_aload_n hX 2 rfl rfl dL_law_3080 ?_
    refine z_aload_n hX 0 rfl rfl dL_law_3081 ?_
    refine z_iload hX 4 rfl dL_law_3082 ?_
    refine z_iconst (v := 1) hX (by decide) dL_law_3084 ?_
    refine z_iadd hX dL_law_3085 ?_
    refine z_aI hX dL_law_3086 (fun x6 => ?_)
    refine z_aload_n hX 0 rfl rfl dL_law_3087 ?_
    refine z_iload hX 4 rfl dL_law_3088 ?_
    refine z_iconst (v := 2) hX (by decide) dL_law_3090 ?_
    refine z_iadd hX dL_law_3091 ?_
    refine z_aI hX dL_law_3092 (fun x7 => ?_)
    refine z_aload_n hX 0 rfl rfl dL_law_3093 ?_
    refine z_iload hX 4 rfl dL_law_3094 ?_
    refine z_iconst (v := 3) hX (by decide) dL_law_3096 ?_
    refine z_iadd hX dL_law_3097 ?_
    refine z_aI hX dL_law_3098 (fun x8 => ?_)
    refine z_jn (C' := C) (S' := S) 3107 (fun (j9 : Int32) => [(0, .ref b), (1, .ref x), (2, .ref m), (3, .ref ou), (4, .int i)]) (fun (j9 : Int32) => [.int j9, .int x7, .int x6, .ref m, .int o5.1]) (fun (j9 : Int32) => o5.2) (fun j9 => ?_) (fun kj9 => ?_)
    · refine z_cVIm (C' := C) (S' := S) 9 [.int x6, .int x7, .int j9] hX (fun l hl o ho => c_X9_setApproval l hl o5.2 m x6 x7 j9 o ho) dL_law_3107 (by decide) rfl rfl q_1959 okV_X9_setApproval rfl ⟨(Nat.le_of_ble_eq_true rfl), (Nat.le_of_ble_eq_true rfl)⟩ rfl (Nat.le_of_ble_eq_true rfl) (Nat.add_zero _) (Nat.add_zero _) ⟨hc0, hs0⟩ (fun o10 => ?_)
      refine z_icmp_eq hX 3165 (by decide) dL_law_3110 (fun _ => ?_) (fun _ => ?_)
      · refine z_sub [0, 1, 2, 3, 4] rfl ?_
        exact z_widen (by omega) (by omega) (hk o10.2)
      · exact z_any hq0
    · refine z_iteB ?_
      refine z_if_eq hX 3106 (by decide) dL_law_3099 (fun _ => ?_) (fun _ => ?_)
      · refine z_iconst (v := 0) hX (by decide) dL_law_3106 ?_
        refine z_pure ?_
        refine z_sub [0, 1, 2, 3, 4] rfl ?_
        exact kj9 0
      · refine z_iconst (v := 1) hX (by decide) dL_law_3102 ?_
        refine z_goto hX 3107 (by decide) dL_law_3103 ?_
        refine z_pure ?_
        refine z_sub [0, 1, 2, 3, 4] rfl ?_
        exact kj9 1
  · refine z_iteB ?_
    refine z_if_eq hX 3076 (by decide) dL_law_3069 (fun _ => ?_) (fun _ => ?_)
    · refine z_iconst (v := 0) hX (by decide) dL_law_3076 ?_
      refine z_pure ?_
      refine z_sub [0, 1, 2, 3, 4] rfl ?_
      exact kj4 0
    · refine z_iconst (v := 1) hX (by decide) dL_law_3072 ?_
      refine z_goto hX 3077 (by decide) dL_law_3073 ?_
      refine z_pure ?_
      refine z_sub [0, 1, 2, 3, 4] rfl ?_
      exact kj4 1
