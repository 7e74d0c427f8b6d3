theorem dL_law_3115 : decode cL_law 3115 = .ok (.aload_n 1, 1) := by decide +kernel
theorem dL_law_3116 : decode cL_law 3116 = .ok (.aload_n 0, 1) := by decide +kernel
theorem dL_law_3117 : decode cL_law 3117 = .ok (.iload 4, 2) := by decide +kernel
theorem dL_law_3119 : decode cL_law 3119 = .ok (.iconst 1, 1) := by decide +kernel
theorem dL_law_3120 : decode cL_law 3120 = .ok (.iadd, 1) := by decide +kernel
theorem dL_law_3121 : decode cL_law 3121 = .ok (.iaload, 1) := by decide +kernel
theorem dL_law_3122 : decode cL_law 3122 = .ok (.aload_n 0, 1) := by decide +kernel
theorem dL_law_3123 : decode cL_law 3123 = .ok (.iload 4, 2) := by decide +kernel
theorem dL_law_3125 : decode cL_law 3125 = .ok (.iconst 2, 1) := by decide +kernel
theorem dL_law_3126 : decode cL_law 3126 = .ok (.iadd, 1) := by decide +kernel
theorem dL_law_3127 : decode cL_law 3127 = .ok (.iaload, 1) := by decide +kernel
theorem dL_law_3128 : decode cL_law 3128 = .ok (.invokevirtual 343, 3) := by decide +kernel
theorem dL_law_3131 : decode cL_law 3131 = .ok (.aload_n 2, 1) := by decide +kernel
theorem dL_law_3132 : decode cL_law 3132 = .ok (.aload_n 0, 1) := by decide +kernel
theorem dL_law_3133 : decode cL_law 3133 = .ok (.iload 4, 2) := by decide +kernel
theorem dL_law_3135 : decode cL_law 3135 = .ok (.iconst 1, 1) := by decide +kernel
theorem dL_law_3136 : decode cL_law 3136 = .ok (.iadd, 1) := by decide +kernel
theorem dL_law_3137 : decode cL_law 3137 = .ok (.iaload, 1) := by decide +kernel
theorem dL_law_3138 : decode cL_law 3138 = .ok (.aload_n 0, 1) := by decide +kernel
theorem dL_law_3139 : decode cL_law 3139 = .ok (.iload 4, 2) := by decide +kernel
theorem dL_law_3141 : decode cL_law 3141 = .ok (.iconst 2, 1) := by decide +kernel
theorem dL_law_3142 : decode cL_law 3142 = .ok (.iadd, 1) := by decide +kernel
theorem dL_law_3143 : decode cL_law 3143 = .ok (.iaload, 1) := by decide +kernel
theorem dL_law_3144 : decode cL_law 3144 = .ok (.invokevirtual 346, 3) := by decide +kernel
theorem dL_law_3147 : decode cL_law 3147 = .ok (.if_icmp .eq 18, 3) := by decide +kernel
theorem dL_law_3152 : decode cL_law 3152 = .ok (.aload_n 1, 1) := by decide +kernel
theorem dL_law_3153 : decode cL_law 3153 = .ok (.invokevirtual 347, 3) := by decide +kernel
theorem dL_law_3156 : decode cL_law 3156 = .ok (.aload_n 2, 1) := by decide +kernel
theorem dL_law_3157 : decode cL_law 3157 = .ok (.invokevirtual 350, 3) := by decide +kernel
theorem dL_law_3160 : decode cL_law 3160 = .ok (.if_icmp .eq 5, 3) := by decide +kernel
set_option maxRecDepth 20000 in
set_option maxHeartbeats 4000000 in
theorem zl_62 {X : Cxt} (hX : okX X cL_law RL room_1 (some .boolean) 8) {Qo : Int32 → State → Prop} (hq0 : ∀ st, Qo 0 st) {C S : Nat} (h1 : C + 3 ≤ room_1.cells) (h2 : S + 18 ≤ room_1.slots) (b x m ou : Nat) (i : Int32) (kj : Mem → Option Int32) (hk : ∀ M, Zj X Qo (C + 3) (S + 18) 3165 [(0, .ref b), (1, .ref x), (2, .ref m), (3, .ref ou), (4, .int i)] [] M (kj M)) (M : Mem) : Zj X Qo C S 3115 [(0, .ref b), (1, .ref x), (2, .ref m), (3, .ref ou), (4, .int i)] [] M (cs_62 b x m ou i kj M) := by
  have hc0 : C + 0 ≤ room_1.cells := Nat.le_trans (by omega) h1
  have hs0 : S + 0 ≤ room_1.slots := Nat.le_trans (by omega) h2
  have hc1 : C + 1 ≤ room_1.cells := Nat.le_trans (by omega) h1
  have hs1 : S + 6 ≤ room_1.slots := Nat.le_trans (by omega) h2
  have hc2 : C + 2 ≤ room_1.cells := Nat.le_trans (by omega) h1
  have hs2 : S + 12 ≤ room_1.slots := Nat.le_trans (by omega) h2
  have hc3 : C + 3 ≤ room_1.cells := Nat.le_trans (by omega) h1
  have hs3 : S + 18 ≤ room_1.slots := Nat.le_trans (by omega) h2
  unfold cs_62
  refine z_aload_n hX 1 rfl rfl dL_law_3115 ?_
  refine z_aload_n hX 0 rfl rfl dL_law_3116 ?_
  refine z_iload hX 4 rfl dL_law_3117 ?_
  refine z_iconst (v := 1) hX (by decide) dL_law_3119 ?_
  refine z_iadd hX dL_law_3120 ?_
  refine z_aI hX dL_law_3121 (fun x1 => ?_)
  refine z_aload_n hX 0 rfl rfl dL_law_3122 ?_
  refine z_iload hX 4 rfl dL_law_3123 ?_
  refine z_iconst (v := 2) hX (by decide) dL_law_3125 ?_
  refine z_iadd hX dL_law_3126 ?_
  refine z_aI hX dL_law_3127 (fun x2 => ?_)
  refine z_cVIm (C' := C) (S' := S) 8 [.int x1, .int x2] hX (fun l hl o ho => c_X8_setSetting l hl M x x1 x2 o ho) dL_law_3128 (by decide) rfl rfl q_980 okV_X8_setSetting rfl ⟨(Nat.le_of_ble_eq_true rfl), (Nat.le_of_ble_eq_true rfl)⟩ rfl (Nat.le_of_ble_eq_true rfl) (Nat.add_zero _) (Nat.add_zero _) ⟨hc0, hs0⟩ (fun o3 => ?_)
  refine z_aload_n hX 2 rfl rfl dL_law_3131 ?_
  refine z_aload_n hX 0 rfl rfl dL_law_3132 ?_
  refine z_iload hX 4 rfl dL_law_3133 ?_
  refine z_iconst (v := 1) hX (by decide) dL_law_3135 ?_
  refine z_iadd hX dL_law_3136 ?_
  refine z_aI hX dL_law_3137 (fun x4 => ?_)
  refine z_aload_n hX 0 rfl rfl dL_law_3138 ?_
  refine z_iload hX 4 rfl dL_law_3139 ?_
  refine z_iconst (v := 2) hX (by decide) dL_law_3141 ?_
  refine z_iadd hX dL_law_3142 ?_
  refine z_aI hX dL_law_3143 (fun x5 => ?_)
  refine z_cVIm (C' := C) (S' := S) 9 [.int x4, .int x5] hX (fun l hl o ho => c_X9_setSetting l hl o3.2 m x4 x5 o ho) dL_law_3144 (by decide) rfl rfl q_1963 okV_X9_setSetting rfl ⟨(Nat.le_of_ble_eq_true rfl), (Nat.le_of_ble_eq_true rfl)⟩ rfl (Nat.le_of_ble_eq_true rfl) (Nat.add_zero _) (Nat.add_zero _) ⟨hc0, hs0⟩ (fun o6 => ?_)
  refine z_icmp_eq hX 3165 (by decide) dL_law_3147 (fun _ => ?_) (fun _ => ?_)
  · refine z_sub [0, 1, 2, 3, 4] rfl ?_
    exact z_widen (by omega) (by omega) (hk o6.2)
  · exact z_any hq0
set_option maxRecDepth 20000 in
set_option maxHeartbeats 4000000 in
theorem zl_63 {X : Cxt} (hX : okX X cL_law RL room_1 (some .boolean) 8) {Qo : Int32 → State → Prop} (hq0 : ∀ st, Qo 0 st) {C S : Nat} (h1 : C + 3 ≤ room_1.cells) (h2 : S + 18 ≤ room_1.slots) (b x m ou : Nat) (i : Int32) (kj : Mem → Option Int32) (hk : ∀ M, Zj X Qo (C + 3) (S + 18) 3165 [(0, .ref b), (1, .ref x), (2, .ref m), (3, .ref ou), (4, .int i)] [] M (kj M)) (M : Mem) : Zj X Qo C S 3152 [(0, .ref b), (1, .ref x), (2, .ref m), (3, .ref ou), (4, .int i)] [] M (cs_63 b x m ou i kj M) := by
  have hc0 : C + 0 ≤ room_1.cells := Nat.le_trans (by omega) h1
  have hs0 : S + 0 ≤ room_1.slots := Nat.le_trans (by omega) h2
  have hc1 : C + 1 ≤ room_1.cells := Nat.le_trans (by omega) h1
  have hs1 : S + 6 ≤ room_1.slots := Nat.le_trans (by omega) h2
  have hc2 : C + 2 ≤ room_1.cells := Nat.le_trans (by omega) h1
  have hs2 : S + 12 ≤ room_1.slots := Nat.le_trans (by omega) h2
  have hc3 : C + 3 ≤ room_1.cells := Nat.le_trans (by omega) h1
  have hs3 : S + 18 ≤ room_1.slots := Nat.le_trans (by omega) h2
  unfold cs_63
  refine z_aload_n hX 1 rfl rfl dL_law_3152 ?_
  refine z_cVIm (C' := C) (S' := S) 8 [] hX (fun l hl o ho => c_X8_undo l hl M x o ho) dL_law_3153 (by decide) rfl rfl q_986 okV_X8_undo rfl ⟨(Nat.le_of_ble_eq_true rfl), (Nat.le_of_ble_eq_true rfl)⟩ rfl (Nat.le_of_ble_eq_true rfl) (Nat.add_zero _) (Nat.add_zero _) ⟨hc0, hs0⟩ (fun o1 => ?_)
  refine z_aload_n hX 2 rfl rfl dL_law_3156 ?_
  refine z_cVIm (C' := C) (S' := S) 9 [] hX (fun l hl o ho => c_X9_undo l hl o1.2 m o ho) dL_law_3157 (by decide) rfl rfl q_1443 okV_X9_undo rfl ⟨(Nat.le_of_ble_eq_true rfl), (Nat.le_of_ble_eq_true rfl)⟩ rfl (Nat.le_of_ble_eq_true rfl) (Nat.add_zero _) (Nat.add_zero _) ⟨hc0, hs0⟩ (fun o2 => ?_)
  refine z_icmp_eq hX 3165 (by decide) dL_law_3160 (fun _ => ?_) (fun _ => ?_)
  · refine z_sub [0, 1, 2, 3, 4] rfl ?_
    exact z_widen (by omega) (by omega) (hk o2.2)
  · exact z_any hq0
