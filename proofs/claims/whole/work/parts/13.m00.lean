/-! ParticipatoryBudget$Ballot.<init>()V -/
abbrev rm_X0_init : Room := { frames := 1, cells := 11, slots := 144, locals := 40 }
set_option maxRecDepth 20000 in
set_option maxHeartbeats 4000000 in
theorem z_X0_init {X : Cxt} (hX : okX X cX0_init RX0 rm_X0_init (none) 1) (hin : inX X) (M : Mem) (v0 : Nat) : Zj X (fun o : Mem => Qr X rm_X0_init.cells rm_X0_init.slots (none) o) 0 0 0 [(0, .ref v0)] [] M (f_X0_init M v0) := by
  unfold f_X0_init
  refine z_aload_n hX 0 rfl rfl dX0_init_0 ?_
  refine z_oI hX dX0_init_1 q_312 q_114 q_115 (Nat.le_of_ble_eq_true rfl) (Nat.le_of_ble_eq_true rfl) ?_
  refine z_aload_n hX 0 rfl rfl dX0_init_4 ?_
  refine z_iconst (v := 4) hX (by decide) dX0_init_5 ?_
  refine z_newA (aty := .int) 20 4 hX (Or.inl ⟨rfl, rfl⟩) q_175 (by decide) (by decide) (by decide) dX0_init_6 rfl rfl (Nat.le_of_ble_eq_true rfl) (Nat.le_of_ble_eq_true rfl) (fun o1 => ?_)
  refine z_pFRf 0 3 hX hin (by decide) rfl (by decide) rfl q_335 rfl rfl pd_0 rfl rfl dX0_init_8 (fun M2 => ?_)
  refine z_aload_n hX 0 rfl rfl dX0_init_11 ?_
  refine z_iconst (v := 4) hX (by decide) dX0_init_12 ?_
  refine z_newA (aty := .int) 20 4 hX (Or.inl ⟨rfl, rfl⟩) q_175 (by decide) (by decide) (by decide) dX0_init_13 rfl rfl (Nat.le_of_ble_eq_true rfl) (Nat.le_of_ble_eq_true rfl) (fun o3 => ?_)
  refine z_pFRf 0 4 hX hin (by decide) rfl (by decide) rfl q_338 rfl rfl pd_0 rfl rfl dX0_init_15 (fun M4 => ?_)
  refine z_aload_n hX 0 rfl rfl dX0_init_18 ?_
  refine z_bipush (v := 12) hX (by decide) dX0_init_19 ?_
  refine z_newA (aty := .int) 20 12 hX (Or.inl ⟨rfl, rfl⟩) q_175 (by decide) (by decide) (by decide) dX0_init_21 rfl rfl (Nat.le_of_ble_eq_true rfl) (Nat.le_of_ble_eq_true rfl) (fun o5 => ?_)
  refine z_pFRf 0 5 hX hin (by decide) rfl (by decide) rfl q_345 rfl rfl pd_0 rfl rfl dX0_init_23 (fun M6 => ?_)
  refine z_aload_n hX 0 rfl rfl dX0_init_26 ?_
  refine z_bipush (v := 12) hX (by decide) dX0_init_27 ?_
  refine z_newA (aty := .int) 20 12 hX (Or.inl ⟨rfl, rfl⟩) q_175 (by decide) (by decide) (by decide) dX0_init_29 rfl rfl (Nat.le_of_ble_eq_true rfl) (Nat.le_of_ble_eq_true rfl) (fun o7 => ?_)
  refine z_pFRf 0 6 hX hin (by decide) rfl (by decide) rfl q_348 rfl rfl pd_0 rfl rfl dX0_init_31 (fun M8 => ?_)
  refine z_aload_n hX 0 rfl rfl dX0_init_34 ?_
  refine z_bipush (v := 12) hX (by decide) dX0_init_35 ?_
  refine z_newA (aty := .int) 20 12 hX (Or.inl ⟨rfl, rfl⟩) q_175 (by decide) (by decide) (by decide) dX0_init_37 rfl rfl (Nat.le_of_ble_eq_true rfl) (Nat.le_of_ble_eq_true rfl) (fun o9 => ?_)
  refine z_pFRf 0 7 hX hin (by decide) rfl (by decide) rfl q_355 rfl rfl pd_0 rfl rfl dX0_init_39 (fun M10 => ?_)
  refine z_aload_n hX 0 rfl rfl dX0_init_42 ?_
  refine z_bipush (v := 24) hX (by decide) dX0_init_43 ?_
  refine z_newA (aty := .int) 20 24 hX (Or.inl ⟨rfl, rfl⟩) q_175 (by decide) (by decide) (by decide) dX0_init_45 rfl rfl (Nat.le_of_ble_eq_true rfl) (Nat.le_of_ble_eq_true rfl) (fun o11 => ?_)
  refine z_pFRf 0 8 hX hin (by decide) rfl (by decide) rfl q_361 rfl rfl pd_0 rfl rfl dX0_init_47 (fun M12 => ?_)
  refine z_aload_n hX 0 rfl rfl dX0_init_50 ?_
  refine z_bipush (v := 24) hX (by decide) dX0_init_51 ?_
  refine z_newA (aty := .int) 20 24 hX (Or.inl ⟨rfl, rfl⟩) q_175 (by decide) (by decide) (by decide) dX0_init_53 rfl rfl (Nat.le_of_ble_eq_true rfl) (Nat.le_of_ble_eq_true rfl) (fun o13 => ?_)
  refine z_pFRf 0 9 hX hin (by decide) rfl (by decide) rfl q_366 rfl rfl pd_0 rfl rfl dX0_init_55 (fun M14 => ?_)
  refine z_aload_n hX 0 rfl rfl dX0_init_58 ?_
  refine z_bipush (v := 24) hX (by decide) dX0_init_59 ?_
  refine z_newA (aty := .int) 20 24 hX (Or.inl ⟨rfl, rfl⟩) q_175 (by decide) (by decide) (by decide) dX0_init_61 rfl rfl (Nat.le_of_ble_eq_true rfl) (Nat.le_of_ble_eq_true rfl) (fun o15 => ?_)
  refine z_pFRf 0 10 hX hin (by decide) rfl (by decide) rfl q_371 rfl rfl pd_0 rfl rfl dX0_init_63 (fun M16 => ?_)
  refine z_aload_n hX 0 rfl rfl dX0_init_66 ?_
  refine z_iconst (v := 4) hX (by decide) dX0_init_67 ?_
  refine z_newA (aty := .int) 20 4 hX (Or.inl ⟨rfl, rfl⟩) q_175 (by decide) (by decide) (by decide) dX0_init_68 rfl rfl (Nat.le_of_ble_eq_true rfl) (Nat.le_of_ble_eq_true rfl) (fun o17 => ?_)
  refine z_pFRf 0 11 hX hin (by decide) rfl (by decide) rfl q_375 rfl rfl pd_0 rfl rfl dX0_init_70 (fun M18 => ?_)
  refine z_aload_n hX 0 rfl rfl dX0_init_73 ?_
  refine z_bipush (v := 12) hX (by decide) dX0_init_74 ?_
  refine z_newA (aty := .int) 20 12 hX (Or.inl ⟨rfl, rfl⟩) q_175 (by decide) (by decide) (by decide) dX0_init_76 rfl rfl (Nat.le_of_ble_eq_true rfl) (Nat.le_of_ble_eq_true rfl) (fun o19 => ?_)
  refine z_pFRf 0 12 hX hin (by decide) rfl (by decide) rfl q_381 rfl rfl pd_0 rfl rfl dX0_init_78 (fun M20 => ?_)
  refine z_aload_n hX 0 rfl rfl dX0_init_81 ?_
  refine z_bipush (v := 12) hX (by decide) dX0_init_82 ?_
  refine z_newA (aty := .int) 20 12 hX (Or.inl ⟨rfl, rfl⟩) q_175 (by decide) (by decide) (by decide) dX0_init_84 rfl rfl (Nat.le_of_ble_eq_true rfl) (Nat.le_of_ble_eq_true rfl) (fun o21 => ?_)
  refine z_pFRf 0 13 hX hin (by decide) rfl (by decide) rfl q_384 rfl rfl pd_0 rfl rfl dX0_init_86 (fun M22 => ?_)
  refine z_gSTN 0 hX (by decide) rfl nw_8 dX0_init_89 (fun r23 => ?_)
  refine z_iconst (v := 0) hX (by decide) dX0_init_92 ?_
  refine z_aload_n hX 0 rfl rfl dX0_init_93 ?_
  refine z_gFR 0 11 hX (by decide) rfl (by decide) rfl q_375 dX0_init_94 (fun r24 => ?_)
  refine z_iconst (v := 0) hX (by decide) dX0_init_97 ?_
  refine z_iconst (v := 4) hX (by decide) dX0_init_98 ?_
  refine z_cpI hX dX0_init_99 q_315 q_317 q_316 q_95 (Nat.le_of_ble_eq_true rfl) (Nat.le_of_ble_eq_true rfl) (fun M25 => ?_)
  exact z_vretM hX dX0_init_102 (Nat.le_of_ble_eq_true rfl) (Nat.le_of_ble_eq_true rfl)
theorem c_X0_init (l : Launch) (hl : l.stackTraces = false) (M : Mem) (v0 : Nat) (o : Mem) (ho : f_X0_init M v0 = some o) : Ct l yX0_init cX0_init 1 (none) rm_X0_init [.ref v0] M (none) o :=
  Ct.of hl (by decide +kernel) (Nat.le_of_ble_eq_true rfl) rfl (fun X hX hin => z_X0_init hX (hin rfl) M v0 o ho)
theorem okI_X0_init : okI yX0_init cX0_init 1 0 := ⟨rfl, q_310, q_94, q_311, by unfold okY; decide +kernel⟩
/-! ParticipatoryBudget$Ballot.clear()V -/
abbrev rm_X0_clear : Room := { frames := 1, cells := 0, slots := 0, locals := 40 }
set_option maxRecDepth 20000 in
set_option maxHeartbeats 4000000 in
theorem z_X0_clear {X : Cxt} (hX : okX X cX0_clear RX0 rm_X0_clear (none) 1) (M : Mem) (v0 : Nat) : Zj X (fun o : Mem => Qr X rm_X0_clear.cells rm_X0_clear.slots (none) o) 0 0 0 [(0, .ref v0)] [] M (f_X0_clear M v0) := by
  unfold f_X0_clear
  refine z_aload_n hX 0 rfl rfl dX0_clear_0 ?_
  refine z_iconst (v := 0) hX (by decide) dX0_clear_1 ?_
  refine z_pFI 0 0 hX (by decide) rfl (by decide) rfl q_318 rfl pd_1 rfl rfl dX0_clear_2 (fun M1 => ?_)
  refine z_aload_n hX 0 rfl rfl dX0_clear_5 ?_
  refine z_iconst (v := 0) hX (by decide) dX0_clear_6 ?_
  refine z_pFI 0 1 hX (by decide) rfl (by decide) rfl q_325 rfl pd_1 rfl rfl dX0_clear_7 (fun M2 => ?_)
  refine z_aload_n hX 0 rfl rfl dX0_clear_10 ?_
  refine z_iconst (v := 0) hX (by decide) dX0_clear_11 ?_
  refine z_pFI 0 2 hX (by decide) rfl (by decide) rfl q_331 rfl pd_1 rfl rfl dX0_clear_12 (fun M3 => ?_)
  refine z_gSTN 0 hX (by decide) rfl nw_8 dX0_clear_15 (fun r4 => ?_)
  refine z_iconst (v := 0) hX (by decide) dX0_clear_18 ?_
  refine z_aload_n hX 0 rfl rfl dX0_clear_19 ?_
  refine z_gFR 0 11 hX (by decide) rfl (by decide) rfl q_375 dX0_clear_20 (fun r5 => ?_)
  refine z_iconst (v := 0) hX (by decide) dX0_clear_23 ?_
  refine z_iconst (v := 4) hX (by decide) dX0_clear_24 ?_
  refine z_cpI hX dX0_clear_25 q_315 q_317 q_316 q_95 (Nat.le_of_ble_eq_true rfl) (Nat.le_of_ble_eq_true rfl) (fun M6 => ?_)
  exact z_vretM hX dX0_clear_28 (Nat.le_of_ble_eq_true rfl) (Nat.le_of_ble_eq_true rfl)
theorem c_X0_clear (l : Launch) (hl : l.stackTraces = false) (M : Mem) (v0 : Nat) (o : Mem) (ho : f_X0_clear M v0 = some o) : Ct l yX0_clear cX0_clear 1 (none) rm_X0_clear [.ref v0] M (none) o :=
  Ct.of hl (by decide +kernel) (Nat.le_of_ble_eq_true rfl) rfl (fun X hX hin => z_X0_clear hX M v0 o ho)
theorem okV_X0_clear : okV yX0_clear cX0_clear 1 (none) 0 := ⟨q_487, q_488, q_94, q_489, by unfold okY; decide +kernel⟩
/-! ParticipatoryBudget$Ballot.copy(LParticipatoryBudget$Ballot;)V -/
abbrev rm_X0_copy : Room := { frames := 1, cells := 0, slots := 0, locals := 40 }
set_option maxRecDepth 20000 in
set_option maxHeartbeats 4000000 in
theorem z_X0_copy {X : Cxt} (hX : okX X cX0_copy RX0 rm_X0_copy (none) 2) (M : Mem) (v0 : Nat) (v1 : Nat) : Zj X (fun o : Mem => Qr X rm_X0_copy.cells rm_X0_copy.slots (none) o) 0 0 0 [(0, .ref v0), (1, .ref v1)] [] M (f_X0_copy M v0 v1) := by
  unfold f_X0_copy
  refine z_aload_n hX 0 rfl rfl dX0_copy_0 ?_
  refine z_aload_n hX 1 rfl rfl dX0_copy_1 ?_
  refine z_gFI 0 0 hX (by decide) rfl (by decide) rfl q_318 dX0_copy_2 (fun x1 => ?_)
  refine z_pFI 0 0 hX (by decide) rfl (by decide) rfl q_318 rfl pd_1 rfl rfl dX0_copy_5 (fun M2 => ?_)
  refine z_aload_n hX 0 rfl rfl dX0_copy_8 ?_
  refine z_aload_n hX 1 rfl rfl dX0_copy_9 ?_
  refine z_gFI 0 1 hX (by decide) rfl (by decide) rfl q_325 dX0_copy_10 (fun x3 => ?_)
  refine z_pFI 0 1 hX (by decide) rfl (by decide) rfl q_325 rfl pd_1 rfl rfl dX0_copy_13 (fun M4 => ?_)
  refine z_aload_n hX 0 rfl rfl dX0_copy_16 ?_
  refine z_aload_n hX 1 rfl rfl dX0_copy_17 ?_
  refine z_gFI 0 2 hX (by decide) rfl (by decide) rfl q_331 dX0_copy_18 (fun x5 => ?_)
  refine z_pFI 0 2 hX (by decide) rfl (by decide) rfl q_331 rfl pd_1 rfl rfl dX0_copy_21 (fun M6 => ?_)
  refine z_aload_n hX 1 rfl rfl dX0_copy_24 ?_
  refine z_gFR 0 3 hX (by decide) rfl (by decide) rfl q_335 dX0_copy_25 (fun r7 => ?_)
  refine z_iconst (v := 0) hX (by decide) dX0_copy_28 ?_
  refine z_aload_n hX 0 rfl rfl dX0_copy_29 ?_
  refine z_gFR 0 3 hX (by decide) rfl (by decide) rfl q_335 dX0_copy_30 (fun r8 => ?_)
  refine z_iconst (v := 0) hX (by decide) dX0_copy_33 ?_
  refine z_iconst (v := 4) hX (by decide) dX0_copy_34 ?_
  refine z_cpI hX dX0_copy_35 q_315 q_317 q_316 q_95 (Nat.le_of_ble_eq_true rfl) (Nat.le_of_ble_eq_true rfl) (fun M9 => ?_)
  refine z_aload_n hX 1 rfl rfl dX0_copy_38 ?_
  refine z_gFR 0 4 hX (by decide) rfl (by decide) rfl q_338 dX0_copy_39 (fun r10 => ?_)
  refine z_iconst (v := 0) hX (by decide) dX0_copy_42 ?_
  refine z_aload_n hX 0 rfl rfl dX0_copy_43 ?_
  refine z_gFR 0 4 hX (by decide) rfl (by decide) rfl q_338 dX0_copy_44 (fun r11 => ?_)
  refine z_iconst (v := 0) hX (by decide) dX0_copy_47 ?_
  refine z_iconst (v := 4) hX (by decide) dX0_copy_48 ?_
  refine z_cpI hX dX0_copy_49 q_315 q_317 q_316 q_95 (Nat.le_of_ble_eq_true rfl) (Nat.le_of_ble_eq_true rfl) (fun M12 => ?_)
  refine z_aload_n hX 1 rfl rfl dX0_copy_52 ?_
  refine z_gFR 0 5 hX (by decide) rfl (by decide) rfl q_345 dX0_copy_53 (fun r13 => ?_)
  refine z_iconst (v := 0) hX (by decide) dX0_copy_56 ?_
  refine z_aload_n hX 0 rfl rfl dX0_copy_57 ?_
  refine z_gFR 0 5 hX (by decide) rfl (by decide) rfl q_345 dX0_copy_58 (fun r14 => ?_)
  refine z_iconst (v := 0) hX (by decide) dX0_copy_61 ?_
  refine z_bipush (v := 12) hX (by decide) dX0_copy_62 ?_
  refine z_cpI hX dX0_copy_64 q_315 q_317 q_316 q_95 (Nat.le_of_ble_eq_true rfl) (Nat.le_of_ble_eq_true rfl) (fun M15 => ?_)
  refine z_aload_n hX 1 rfl rfl dX0_copy_67 ?_
  refine z_gFR 0 6 hX (by decide) rfl (by decide) rfl q_348 dX0_copy_68 (fun r16 => ?_)
  refine z_iconst (v := 0) hX (by decide) dX0_copy_71 ?_
  refine z_aload_n hX 0 rfl rfl dX0_copy_72 ?_
  refine z_gFR 0 6 hX (by decide) rfl (by decide) rfl q_348 dX0_copy_73 (fun r17 => ?_)
  refine z_iconst (v := 0) hX (by decide) dX0_copy_76 ?_
  refine z_bipush (v := 12) hX (by decide) dX0_copy_77 ?_
  refine z_cpI hX dX0_copy_79 q_315 q_317 q_316 q_95 (Nat.le_of_ble_eq_true rfl) (Nat.le_of_ble_eq_true rfl) (fun M18 => ?_)
  refine z_aload_n hX 1 rfl rfl dX0_copy_82 ?_
  refine z_gFR 0 7 hX (by decide) rfl (by decide) rfl q_355 dX0_copy_83 (fun r19 => ?_)
  refine z_iconst (v := 0) hX (by decide) dX0_copy_86 ?_
  refine z_aload_n hX 0 rfl rfl dX0_copy_87 ?_
  refine z_gFR 0 7 hX (by decide) rfl (by decide) rfl q_355 dX0_copy_88 (fun r20 => ?_)
  refine z_iconst (v := 0) hX (by decide) dX0_copy_91 ?_
  refine z_bipush (v := 12) hX (by decide) dX0_copy_92 ?_
  refine z_cpI hX dX0_copy_94 q_315 q_317 q_316 q_95 (Nat.le_of_ble_eq_true rfl) (Nat.le_of_ble_eq_true rfl) (fun M21 => ?_)
  refine z_aload_n hX 1 rfl rfl dX0_copy_97 ?_
  refine z_gFR 0 8 hX (by decide) rfl (by decide) rfl q_361 dX0_copy_98 (fun r22 => ?_)
  refine z_iconst (v := 0) hX (by decide) dX0_copy_101 ?_
  refine z_aload_n hX 0 rfl rfl dX0_copy_102 ?_
  refine z_gFR 0 8 hX (by decide) rfl (by decide) rfl q_361 dX0_copy_103 (fun r23 => ?_)
  refine z_iconst (v := 0) hX (by decide) dX0_copy_106 ?_
  refine z_bipush (v := 24) hX (by decide) dX0_copy_107 ?_
  refine z_cpI hX dX0_copy_109 q_315 q_317 q_316 q_95 (Nat.le_of_ble_eq_true rfl) (Nat.le_of_ble_eq_true rfl) (fun M24 => ?_)
  refine z_aload_n hX 1 rfl rfl dX0_copy_112 ?_
  refine z_gFR 0 9 hX (by decide) rfl (by decide) rfl q_366 dX0_copy_113 (fun r25 => ?_)
  refine z_iconst (v := 0) hX (by decide) dX0_copy_116 ?_
  refine z_aload_n hX 0 rfl rfl dX0_copy_117 ?_
  refine z_gFR 0 9 hX (by decide) rfl (by decide) rfl q_366 dX0_copy_118 (fun r26 => ?_)
  refine z_iconst (v := 0) hX (by decide) dX0_copy_121 ?_
  refine z_bipush (v := 24) hX (by decide) dX0_copy_122 ?_
  refine z_cpI hX dX0_copy_124 q_315 q_317 q_316 q_95 (Nat.le_of_ble_eq_true rfl) (Nat.le_of_ble_eq_true rfl) (fun M27 => ?_)
  refine z_aload_n hX 1 rfl rfl dX0_copy_127 ?_
  refine z_gFR 0 10 hX (by decide) rfl (by decide) rfl q_371 dX0_copy_128 (fun r28 => ?_)
  refine z_iconst (v := 0) hX (by decide) dX0_copy_131 ?_
  refine z_aload_n hX 0 rfl rfl dX0_copy_132 ?_
  refine z_gFR 0 10 hX (by decide) rfl (by decide) rfl q_371 dX0_copy_133 (fun r29 => ?_)
  refine z_iconst (v := 0) hX (by decide) dX0_copy_136 ?_
  refine z_bipush (v := 24) hX (by decide) dX0_copy_137 ?_
  refine z_cpI hX dX0_copy_139 q_315 q_317 q_316 q_95 (Nat.le_of_ble_eq_true rfl) (Nat.le_of_ble_eq_true rfl) (fun M30 => ?_)
  refine z_aload_n hX 1 rfl rfl dX0_copy_142 ?_
  refine z_gFR 0 11 hX (by decide) rfl (by decide) rfl q_375 dX0_copy_143 (fun r31 => ?_)
  refine z_iconst (v := 0) hX (by decide) dX0_copy_146 ?_
  refine z_aload_n hX 0 rfl rfl dX0_copy_147 ?_
  refine z_gFR 0 11 hX (by decide) rfl (by decide) rfl q_375 dX0_copy_148 (fun r32 => ?_)
  refine z_iconst (v := 0) hX (by decide) dX0_copy_151 ?_
  refine z_iconst (v := 4) hX (by decide) dX0_copy_152 ?_
  refine z_cpI hX dX0_copy_153 q_315 q_317 q_316 q_95 (Nat.le_of_ble_eq_true rfl) (Nat.le_of_ble_eq_true rfl) (fun M33 => ?_)
  exact z_vretM hX dX0_copy_156 (Nat.le_of_ble_eq_true rfl) (Nat.le_of_ble_eq_true rfl)
theorem c_X0_copy (l : Launch) (hl : l.stackTraces = false) (M : Mem) (v0 : Nat) (v1 : Nat) (o : Mem) (ho : f_X0_copy M v0 v1 = some o) : Ct l yX0_copy cX0_copy 2 (none) rm_X0_copy [.ref v0, .ref v1] M (none) o :=
  Ct.of hl (by decide +kernel) (Nat.le_of_ble_eq_true rfl) rfl (fun X hX hin => z_X0_copy hX M v0 v1 o ho)
theorem okV_X0_copy : okV yX0_copy cX0_copy 2 (none) 1 := ⟨q_1198, q_1199, q_94, q_1200, by unfold okY; decide +kernel⟩
/-! ParticipatoryBudget.has(II)Z -/
abbrev rm_X8_has : Room := { frames := 0, cells := 0, slots := 0, locals := 0 }
set_option maxRecDepth 20000 in
set_option maxHeartbeats 4000000 in
theorem z_X8_has {X : Cxt} (hX : okX X cX8_has RX8 rm_X8_has (some .boolean) 2) (M : Mem) (v0 : Int32) (v1 : Int32) : Zj X (fun o : Int32 => Qr X rm_X8_has.cells rm_X8_has.slots (some (.int o)) M) 0 0 0 [(0, .int v0), (1, .int v1)] [] M (f_X8_has M v0 v1) := by
  unfold f_X8_has
  refine z_iload_n hX 0 rfl rfl dX8_has_0 ?_
  refine z_iload_n hX 1 rfl rfl dX8_has_1 ?_
  refine z_ishr hX dX8_has_2 ?_
  refine z_iconst (v := 1) hX (by decide) dX8_has_3 ?_
  refine z_iand hX dX8_has_4 ?_
  refine z_jn (C' := 0) (S' := 0) 13 (fun (j1 : Int32) => []) (fun (j1 : Int32) => [.int j1]) (fun (j1 : Int32) => M) (fun j1 => ?_) (fun kj1 => ?_)
  · exact z_zretP hX dX8_has_13 (Nat.le_of_ble_eq_true rfl) (Nat.le_of_ble_eq_true rfl)
  · refine z_iteB ?_
    refine z_if_eq hX 12 (by decide) dX8_has_5 (fun _ => ?_) (fun _ => ?_)
    · refine z_iconst (v := 0) hX (by decide) dX8_has_12 ?_
      refine z_pure ?_
      refine z_sub [] rfl ?_
      exact kj1 0
    · refine z_iconst (v := 1) hX (by decide) dX8_has_8 ?_
      refine z_goto hX 13 (by decide) dX8_has_9 ?_
      refine z_pure ?_
      refine z_sub [] rfl ?_
      exact kj1 1
theorem c_X8_has (l : Launch) (hl : l.stackTraces = false) (M : Mem) (v0 : Int32) (v1 : Int32) (o : Int32) (ho : f_X8_has M v0 v1 = some o) : Ct l yX8_has cX8_has 2 (some .boolean) rm_X8_has [.int v0, .int v1] M (some (.int o)) M :=
  Ct.of hl (by decide +kernel) (Nat.le_of_ble_eq_true rfl) rfl (fun X hX hin => z_X8_has hX M v0 v1 o ho)
theorem okS_X8_has : okS yX8_has cX8_has 2 (some .boolean) 2 := ⟨q_595, q_86, q_596, by unfold okY; decide +kernel⟩
/-! ParticipatoryBudget$Ballot.tally()V -/
abbrev rm_X0_tally : Room := { frames := 1, cells := 0, slots := 0, locals := 21 }
set_option maxRecDepth 20000 in
set_option maxHeartbeats 4000000 in
theorem z_X0_tally {X : Cxt} (hX : okX X cX0_tally RX0 rm_X0_tally (none) 3) (M : Mem) (v0 : Nat) : Zj X (fun o : Mem => Qr X rm_X0_tally.cells rm_X0_tally.slots (none) o) 0 0 0 [(0, .ref v0)] [] M (f_X0_tally M v0) := by
  unfold f_X0_tally
  refine z_iconst (v := 0) hX (by decide) dX0_tally_0 ?_
  refine z_istore_n hX [(1, .int 0), (0, .ref v0)] rfl (by decide) rfl dX0_tally_1 ?_
  refine z_sub [1, 0] rfl ?_
  refine z_lp (x0 := (0, M)) (bd_X0_tally_2 v0) 2 102 (fun (u1 : Int32 × Mem) => [(0, .ref v0), (1, .int u1.1)]) (fun (e2 : Int32 × Mem) => []) (fun (u1 : Int32 × Mem) => u1.2) ?_ ?_
  · intro e2
    exact z_vretM hX dX0_tally_102 (Nat.le_of_ble_eq_true rfl) (Nat.le_of_ble_eq_true rfl)
  · intro kk3 rc4 hkk3 hrc4 u1
    unfold bd_X0_tally_2
    refine z_iload_n hX 1 rfl rfl dX0_tally_2 ?_
    refine z_aload_n hX 0 rfl rfl dX0_tally_3 ?_
    refine z_gFI 0 1 hX (by decide) rfl (by decide) rfl q_325 dX0_tally_4 (fun x5 => ?_)
    refine z_icmp_ge hX 102 (by decide) dX0_tally_7 (fun _ => ?_) (fun _ => ?_)
    · refine z_sub [] rfl ?_
      exact hkk3 (u1.1, u1.2)
    · refine z_aload_n hX 0 rfl rfl dX0_tally_10 ?_
      refine z_gFR 0 12 hX (by decide) rfl (by decide) rfl q_381 dX0_tally_11 (fun r6 => ?_)
      refine z_iload_n hX 1 rfl rfl dX0_tally_14 ?_
      refine z_iconst (v := 0) hX (by decide) dX0_tally_15 ?_
      refine z_wI hX dX0_tally_16 (fun M7 => ?_)
      refine z_aload_n hX 0 rfl rfl dX0_tally_17 ?_
      refine z_gFR 0 13 hX (by decide) rfl (by decide) rfl q_384 dX0_tally_18 (fun r8 => ?_)
      refine z_iload_n hX 1 rfl rfl dX0_tally_21 ?_
      refine z_iconst (v := 0) hX (by decide) dX0_tally_22 ?_
      refine z_wI hX dX0_tally_23 (fun M9 => ?_)
      refine z_iconst (v := 0) hX (by decide) dX0_tally_24 ?_
      refine z_istore_n hX [(2, .int 0), (0, .ref v0), (1, .int u1.1)] rfl (by decide) rfl dX0_tally_25 ?_
      refine z_sub [1, 2, 0] rfl ?_
      refine z_lp (x0 := (0, M9)) (bd_X0_tally_26 v0 u1) 26 96 (fun (u10 : Int32 × Mem) => [(0, .ref v0), (1, .int u1.1), (2, .int u10.1)]) (fun (e11 : Int32 × Mem) => [(0, .ref v0), (1, .int u1.1)]) (fun (u10 : Int32 × Mem) => u10.2) ?_ ?_
      · intro e11
        refine z_iinc hX 1 [(1, .int (u1.1 + 1)), (0, .ref v0)] rfl rfl (by decide) rfl dX0_tally_96 ?_
        refine z_goto hX 2 (by decide) dX0_tally_99 ?_
        refine z_sub [1, 0] rfl ?_
        exact hrc4 (u1.1 + 1, e11.2)
      · intro kk12 rc13 hkk12 hrc13 u10
        unfold bd_X0_tally_26
        refine z_iload_n hX 2 rfl rfl dX0_tally_26 ?_
        refine z_aload_n hX 0 rfl rfl dX0_tally_27 ?_
        refine z_gFI 0 2 hX (by decide) rfl (by decide) rfl q_331 dX0_tally_28 (fun x14 => ?_)
        refine z_icmp_ge hX 96 (by decide) dX0_tally_31 (fun _ => ?_) (fun _ => ?_)
        · refine z_sub [0, 1] rfl ?_
          exact hkk12 (u10.1, u10.2)
        · refine z_aload_n hX 0 rfl rfl dX0_tally_34 ?_
          refine z_gFR 0 10 hX (by decide) rfl (by decide) rfl q_371 dX0_tally_35 (fun r15 => ?_)
          refine z_iload_n hX 2 rfl rfl dX0_tally_38 ?_
          refine z_aI hX dX0_tally_39 (fun x16 => ?_)
          refine z_iload_n hX 1 rfl rfl dX0_tally_40 ?_
          refine z_cSNIp [.int x16, .int u1.1] hX (fun l hl o ho => c_X8_has l hl u10.2 x16 u1.1 o ho) dX0_tally_41 nw_14 okS_X8_has rfl ⟨(Nat.le_of_ble_eq_true rfl), (Nat.le_of_ble_eq_true rfl)⟩ rfl (Nat.le_of_ble_eq_true rfl) rfl rfl ⟨(Nat.le_of_ble_eq_true rfl), (Nat.le_of_ble_eq_true rfl)⟩ (fun o17 => ?_)
          refine z_jn (C' := 0) (S' := 0) 90 (fun (j18 : Mem) => [(0, .ref v0), (1, .int u1.1), (2, .int u10.1)]) (fun (j18 : Mem) => []) (fun (j18 : Mem) => j18) (fun j18 => ?_) (fun kj18 => ?_)
          · refine z_iinc hX 2 [(2, .int (u10.1 + 1)), (0, .ref v0), (1, .int u1.1)] rfl rfl (by decide) rfl dX0_tally_90 ?_
            refine z_goto hX 26 (by decide) dX0_tally_93 ?_
            refine z_sub [1, 2, 0] rfl ?_
            exact hrc13 (u10.1 + 1, j18)
          · refine z_iteB ?_
            refine z_if_eq hX 90 (by decide) dX0_tally_44 (fun _ => ?_) (fun _ => ?_)
            · refine z_pure ?_
              refine z_sub [0, 1, 2] rfl ?_
              exact kj18 u10.2
            · refine z_aload_n hX 0 rfl rfl dX0_tally_47 ?_
              refine z_asc ?_
              refine z_gFR 0 9 hX (by decide) rfl (by decide) rfl q_366 dX0_tally_48 (fun r19 => ?_)
              refine z_iload_n hX 2 rfl rfl dX0_tally_51 ?_
              refine z_asc ?_
              refine z_aI hX dX0_tally_52 (fun x20 => ?_)
              refine z_aload_n hX 0 rfl rfl dX0_tally_53 ?_
              refine z_asc ?_
              refine z_gFR 0 7 hX (by decide) rfl (by decide) rfl q_355 dX0_tally_54 (fun r21 => ?_)
              refine z_iload_n hX 1 rfl rfl dX0_tally_57 ?_
              refine z_asc ?_
              refine z_aI hX dX0_tally_58 (fun x22 => ?_)
              refine z_iand hX dX0_tally_59 ?_
              refine z_iteB ?_
              refine z_if_eq hX 90 (by decide) dX0_tally_60 (fun _ => ?_) (fun _ => ?_)
              · refine z_pure ?_
                refine z_sub [0, 1, 2] rfl ?_
                exact kj18 u10.2
              · refine z_aload_n hX 0 rfl rfl dX0_tally_63 ?_
                refine z_asc ?_
                refine z_gFR 0 12 hX (by decide) rfl (by decide) rfl q_381 dX0_tally_64 (fun r23 => ?_)
                refine z_iload_n hX 1 rfl rfl dX0_tally_67 ?_
                refine z_dup2 hX rfl rfl dX0_tally_68 ?_
                refine z_asc ?_
                refine z_aI hX dX0_tally_69 (fun x24 => ?_)
                refine z_iconst (v := 1) hX (by decide) dX0_tally_70 ?_
                refine z_iload_n hX 2 rfl rfl dX0_tally_71 ?_
                refine z_ishl hX dX0_tally_72 ?_
                refine z_ior hX dX0_tally_73 ?_
                refine z_asc ?_
                refine z_wI hX dX0_tally_74 (fun M25 => ?_)
                refine z_aload_n hX 0 rfl rfl dX0_tally_75 ?_
                refine z_asc ?_
                refine z_gFR 0 13 hX (by decide) rfl (by decide) rfl q_384 dX0_tally_76 (fun r26 => ?_)
                refine z_iload_n hX 1 rfl rfl dX0_tally_79 ?_
                refine z_dup2 hX rfl rfl dX0_tally_80 ?_
                refine z_asc ?_
                refine z_aI hX dX0_tally_81 (fun x27 => ?_)
                refine z_aload_n hX 0 rfl rfl dX0_tally_82 ?_
                refine z_asc ?_
                refine z_gFR 0 8 hX (by decide) rfl (by decide) rfl q_361 dX0_tally_83 (fun r28 => ?_)
                refine z_iload_n hX 2 rfl rfl dX0_tally_86 ?_
                refine z_asc ?_
                refine z_aI hX dX0_tally_87 (fun x29 => ?_)
                refine z_iadd hX dX0_tally_88 ?_
                refine z_asc ?_
                refine z_wI hX dX0_tally_89 (fun M30 => ?_)
                refine z_pure ?_
                refine z_sub [0, 1, 2] rfl ?_
                exact kj18 M30
theorem c_X0_tally (l : Launch) (hl : l.stackTraces = false) (M : Mem) (v0 : Nat) (o : Mem) (ho : f_X0_tally M v0 = some o) : Ct l yX0_tally cX0_tally 3 (none) rm_X0_tally [.ref v0] M (none) o :=
  Ct.of hl (by decide +kernel) (Nat.le_of_ble_eq_true rfl) rfl (fun X hX hin => z_X0_tally hX M v0 o ho)
theorem okV_X0_tally : okV yX0_tally cX0_tally 3 (none) 0 := ⟨q_620, q_621, q_94, q_622, by unfold okY; decide +kernel⟩
/-! ParticipatoryBudget$Ballot.voted()I -/
abbrev rm_X0_voted : Room := { frames := 0, cells := 0, slots := 0, locals := 0 }
set_option maxRecDepth 20000 in
set_option maxHeartbeats 4000000 in
theorem z_X0_voted {X : Cxt} (hX : okX X cX0_voted RX0 rm_X0_voted (some .int) 3) (M : Mem) (v0 : Nat) : Zj X (fun o : Int32 => Qr X rm_X0_voted.cells rm_X0_voted.slots (some (.int o)) M) 0 0 0 [(0, .ref v0)] [] M (f_X0_voted M v0) := by
  unfold f_X0_voted
  refine z_iconst (v := 0) hX (by decide) dX0_voted_0 ?_
  refine z_istore_n hX [(1, .int 0), (0, .ref v0)] rfl (by decide) rfl dX0_voted_1 ?_
  refine z_iconst (v := 0) hX (by decide) dX0_voted_2 ?_
  refine z_istore_n hX [(2, .int 0), (1, .int 0), (0, .ref v0)] rfl (by decide) rfl dX0_voted_3 ?_
  refine z_sub [2, 1, 0] rfl ?_
  refine z_lp (x0 := (0, 0)) (bd_X0_voted_4 M v0) 4 33 (fun (u1 : Int32 × Int32) => [(0, .ref v0), (1, .int u1.1), (2, .int u1.2)]) (fun (e2 : Int32 × Int32) => [(1, .int e2.1)]) (fun (u1 : Int32 × Int32) => M) ?_ ?_
  · intro e2
    refine z_iload_n hX 0 rfl rfl dX0_voted_33 ?_
    exact z_iretP hX dX0_voted_34 (Nat.le_of_ble_eq_true rfl) (Nat.le_of_ble_eq_true rfl)
  · intro kk3 rc4 hkk3 hrc4 u1
    unfold bd_X0_voted_4
    refine z_iload_n hX 2 rfl rfl dX0_voted_4 ?_
    refine z_aload_n hX 0 rfl rfl dX0_voted_5 ?_
    refine z_gFI 0 1 hX (by decide) rfl (by decide) rfl q_325 dX0_voted_6 (fun x5 => ?_)
    refine z_icmp_ge hX 33 (by decide) dX0_voted_9 (fun _ => ?_) (fun _ => ?_)
    · refine z_sub [1] rfl ?_
      exact hkk3 (u1.1, u1.2)
    · refine z_aload_n hX 0 rfl rfl dX0_voted_12 ?_
      refine z_gFR 0 13 hX (by decide) rfl (by decide) rfl q_384 dX0_voted_13 (fun r6 => ?_)
      refine z_iload_n hX 2 rfl rfl dX0_voted_16 ?_
      refine z_aI hX dX0_voted_17 (fun x7 => ?_)
      refine z_jn (C' := 0) (S' := 0) 27 (fun (j8 : Int32) => [(0, .ref v0), (1, .int j8), (2, .int u1.2)]) (fun (j8 : Int32) => []) (fun (j8 : Int32) => M) (fun j8 => ?_) (fun kj8 => ?_)
      · refine z_iinc hX 2 [(2, .int (u1.2 + 1)), (0, .ref v0), (1, .int j8)] rfl rfl (by decide) rfl dX0_voted_27 ?_
        refine z_goto hX 4 (by decide) dX0_voted_30 ?_
        refine z_sub [1, 2, 0] rfl ?_
        exact hrc4 (j8, u1.2 + 1)
      · refine z_iteB ?_
        refine z_if_le hX 27 (by decide) dX0_voted_18 (fun _ => ?_) (fun _ => ?_)
        · refine z_pure ?_
          refine z_sub [0, 1, 2] rfl ?_
          exact kj8 u1.1
        · refine z_iload_n hX 1 rfl rfl dX0_voted_21 ?_
          refine z_iconst (v := 1) hX (by decide) dX0_voted_22 ?_
          refine z_iload_n hX 2 rfl rfl dX0_voted_23 ?_
          refine z_ishl hX dX0_voted_24 ?_
          refine z_ior hX dX0_voted_25 ?_
          refine z_ltB ?_
          refine z_ltI (fun x9 => ?_)
          refine z_istore_n hX [(1, .int x9), (0, .ref v0), (2, .int u1.2)] rfl (by decide) rfl dX0_voted_26 ?_
          refine z_pure ?_
          refine z_sub [1, 0, 2] rfl ?_
          exact kj8 x9
theorem c_X0_voted (l : Launch) (hl : l.stackTraces = false) (M : Mem) (v0 : Nat) (o : Int32) (ho : f_X0_voted M v0 = some o) : Ct l yX0_voted cX0_voted 3 (some .int) rm_X0_voted [.ref v0] M (some (.int o)) M :=
  Ct.of hl (by decide +kernel) (Nat.le_of_ble_eq_true rfl) rfl (fun X hX hin => z_X0_voted hX M v0 o ho)
theorem okV_X0_voted : okV yX0_voted cX0_voted 3 (some .int) 0 := ⟨q_724, q_725, q_94, q_726, by unfold okY; decide +kernel⟩
/-! ParticipatoryBudget$Ballot.worth(I)I -/
abbrev rm_X0_worth : Room := { frames := 0, cells := 0, slots := 0, locals := 0 }
set_option maxRecDepth 20000 in
set_option maxHeartbeats 4000000 in
theorem z_X0_worth {X : Cxt} (hX : okX X cX0_worth RX0 rm_X0_worth (some .int) 2) (M : Mem) (v0 : Nat) (v1 : Int32) : Zj X (fun o : Int32 => Qr X rm_X0_worth.cells rm_X0_worth.slots (some (.int o)) M) 0 0 0 [(0, .ref v0), (1, .int v1)] [] M (f_X0_worth M v0 v1) := by
  unfold f_X0_worth
  refine z_aload_n hX 0 rfl rfl dX0_worth_0 ?_
  refine z_gFR 0 11 hX (by decide) rfl (by decide) rfl q_375 dX0_worth_1 (fun r1 => ?_)
  refine z_iconst (v := 0) hX (by decide) dX0_worth_4 ?_
  refine z_aI hX dX0_worth_5 (fun x2 => ?_)
  refine z_jn (C' := 0) (S' := 0) 19 (fun (j3 : Int32) => []) (fun (j3 : Int32) => [.int j3]) (fun (j3 : Int32) => M) (fun j3 => ?_) (fun kj3 => ?_)
  · exact z_iretP hX dX0_worth_19 (Nat.le_of_ble_eq_true rfl) (Nat.le_of_ble_eq_true rfl)
  · refine z_iteB ?_
    refine z_if_ne hX 13 (by decide) dX0_worth_6 (fun _ => ?_) (fun _ => ?_)
    · refine z_aload_n hX 0 rfl rfl dX0_worth_13 ?_
      refine z_asc ?_
      refine z_gFR 0 6 hX (by decide) rfl (by decide) rfl q_348 dX0_worth_14 (fun r4 => ?_)
      refine z_iload_n hX 1 rfl rfl dX0_worth_17 ?_
      refine z_asc ?_
      refine z_aI hX dX0_worth_18 (fun x5 => ?_)
      refine z_pure ?_
      refine z_sub [] rfl ?_
      exact kj3 x5
    · refine z_iconst (v := 1) hX (by decide) dX0_worth_9 ?_
      refine z_goto hX 19 (by decide) dX0_worth_10 ?_
      refine z_pure ?_
      refine z_sub [] rfl ?_
      exact kj3 1
theorem c_X0_worth (l : Launch) (hl : l.stackTraces = false) (M : Mem) (v0 : Nat) (v1 : Int32) (o : Int32) (ho : f_X0_worth M v0 v1 = some o) : Ct l yX0_worth cX0_worth 2 (some .int) rm_X0_worth [.ref v0, .int v1] M (some (.int o)) M :=
  Ct.of hl (by decide +kernel) (Nat.le_of_ble_eq_true rfl) rfl (fun X hX hin => z_X0_worth hX M v0 v1 o ho)
theorem okV_X0_worth : okV yX0_worth cX0_worth 2 (some .int) 1 := ⟨q_825, q_826, q_94, q_827, by unfold okY; decide +kernel⟩
/-! ParticipatoryBudget$Ballot.memberWeight(I)I -/
abbrev rm_X0_memberWeight : Room := { frames := 1, cells := 0, slots := 0, locals := 21 }
set_option maxRecDepth 20000 in
set_option maxHeartbeats 4000000 in
theorem z_X0_memberWeight {X : Cxt} (hX : okX X cX0_memberWeight RX0 rm_X0_memberWeight (some .int) 4) (M : Mem) (v0 : Nat) (v1 : Int32) : Zj X (fun o : Int32 => Qr X rm_X0_memberWeight.cells rm_X0_memberWeight.slots (some (.int o)) M) 0 0 0 [(0, .ref v0), (1, .int v1)] [] M (f_X0_memberWeight M v0 v1) := by
  unfold f_X0_memberWeight
  refine z_iconst (v := 0) hX (by decide) dX0_memberWeight_0 ?_
  refine z_istore_n hX [(2, .int 0), (0, .ref v0), (1, .int v1)] rfl (by decide) rfl dX0_memberWeight_1 ?_
  refine z_iconst (v := 0) hX (by decide) dX0_memberWeight_2 ?_
  refine z_istore_n hX [(3, .int 0), (2, .int 0), (0, .ref v0), (1, .int v1)] rfl (by decide) rfl dX0_memberWeight_3 ?_
  refine z_sub [2, 3, 1, 0] rfl ?_
  refine z_lp (x0 := (0, 0)) (bd_X0_memberWeight_4 M v0 v1) 4 40 (fun (u1 : Int32 × Int32) => [(0, .ref v0), (1, .int v1), (2, .int u1.1), (3, .int u1.2)]) (fun (e2 : Int32 × Int32) => [(2, .int e2.1)]) (fun (u1 : Int32 × Int32) => M) ?_ ?_
  · intro e2
    refine z_iload_n hX 0 rfl rfl dX0_memberWeight_40 ?_
    exact z_iretP hX dX0_memberWeight_41 (Nat.le_of_ble_eq_true rfl) (Nat.le_of_ble_eq_true rfl)
  · intro kk3 rc4 hkk3 hrc4 u1
    unfold bd_X0_memberWeight_4
    refine z_iload_n hX 3 rfl rfl dX0_memberWeight_4 ?_
    refine z_aload_n hX 0 rfl rfl dX0_memberWeight_5 ?_
    refine z_gFI 0 2 hX (by decide) rfl (by decide) rfl q_331 dX0_memberWeight_6 (fun x5 => ?_)
    refine z_icmp_ge hX 40 (by decide) dX0_memberWeight_9 (fun _ => ?_) (fun _ => ?_)
    · refine z_sub [2] rfl ?_
      exact hkk3 (u1.1, u1.2)
    · refine z_aload_n hX 0 rfl rfl dX0_memberWeight_12 ?_
      refine z_gFR 0 9 hX (by decide) rfl (by decide) rfl q_366 dX0_memberWeight_13 (fun r6 => ?_)
      refine z_iload_n hX 3 rfl rfl dX0_memberWeight_16 ?_
      refine z_aI hX dX0_memberWeight_17 (fun x7 => ?_)
      refine z_iload_n hX 1 rfl rfl dX0_memberWeight_18 ?_
      refine z_cSNIp [.int x7, .int v1] hX (fun l hl o ho => c_X8_has l hl M x7 v1 o ho) dX0_memberWeight_19 nw_14 okS_X8_has rfl ⟨(Nat.le_of_ble_eq_true rfl), (Nat.le_of_ble_eq_true rfl)⟩ rfl (Nat.le_of_ble_eq_true rfl) rfl rfl ⟨(Nat.le_of_ble_eq_true rfl), (Nat.le_of_ble_eq_true rfl)⟩ (fun o8 => ?_)
      refine z_jn (C' := 0) (S' := 0) 34 (fun (j9 : Int32) => [(0, .ref v0), (1, .int v1), (2, .int j9), (3, .int u1.2)]) (fun (j9 : Int32) => []) (fun (j9 : Int32) => M) (fun j9 => ?_) (fun kj9 => ?_)
      · refine z_iinc hX 3 [(3, .int (u1.2 + 1)), (0, .ref v0), (1, .int v1), (2, .int j9)] rfl rfl (by decide) rfl dX0_memberWeight_34 ?_
        refine z_goto hX 4 (by decide) dX0_memberWeight_37 ?_
        refine z_sub [1, 2, 3, 0] rfl ?_
        exact hrc4 (j9, u1.2 + 1)
      · refine z_iteB ?_
        refine z_if_eq hX 34 (by decide) dX0_memberWeight_22 (fun _ => ?_) (fun _ => ?_)
        · refine z_pure ?_
          refine z_sub [0, 1, 2, 3] rfl ?_
          exact kj9 u1.1
        · refine z_iload_n hX 2 rfl rfl dX0_memberWeight_25 ?_
          refine z_aload_n hX 0 rfl rfl dX0_memberWeight_26 ?_
          refine z_asc ?_
          refine z_gFR 0 8 hX (by decide) rfl (by decide) rfl q_361 dX0_memberWeight_27 (fun r10 => ?_)
          refine z_iload_n hX 3 rfl rfl dX0_memberWeight_30 ?_
          refine z_asc ?_
          refine z_aI hX dX0_memberWeight_31 (fun x11 => ?_)
          refine z_iadd hX dX0_memberWeight_32 ?_
          refine z_ltB ?_
          refine z_ltI (fun x12 => ?_)
          refine z_istore_n hX [(2, .int x12), (0, .ref v0), (1, .int v1), (3, .int u1.2)] rfl (by decide) rfl dX0_memberWeight_33 ?_
          refine z_pure ?_
          refine z_sub [1, 2, 0, 3] rfl ?_
          exact kj9 x12
theorem c_X0_memberWeight (l : Launch) (hl : l.stackTraces = false) (M : Mem) (v0 : Nat) (v1 : Int32) (o : Int32) (ho : f_X0_memberWeight M v0 v1 = some o) : Ct l yX0_memberWeight cX0_memberWeight 4 (some .int) rm_X0_memberWeight [.ref v0, .int v1] M (some (.int o)) M :=
  Ct.of hl (by decide +kernel) (Nat.le_of_ble_eq_true rfl) rfl (fun X hX hin => z_X0_memberWeight hX M v0 v1 o ho)
theorem okV_X0_memberWeight : okV yX0_memberWeight cX0_memberWeight 4 (some .int) 1 := ⟨q_686, q_687, q_94, q_688, by unfold okY; decide +kernel⟩
/-! ParticipatoryBudget$Ballot.share(III)I -/
abbrev rm_X0_share : Room := { frames := 1, cells := 0, slots := 0, locals := 21 }
set_option maxRecDepth 20000 in
set_option maxHeartbeats 4000000 in
theorem z_X0_share {X : Cxt} (hX : okX X cX0_share RX0 rm_X0_share (some .int) 4) (M : Mem) (v0 : Nat) (v1 : Int32) (v2 : Int32) (v3 : Int32) : Zj X (fun o : Int32 => Qr X rm_X0_share.cells rm_X0_share.slots (some (.int o)) M) 0 0 0 [(0, .ref v0), (1, .int v1), (2, .int v2), (3, .int v3)] [] M (f_X0_share M v0 v1 v2 v3) := by
  unfold f_X0_share
  refine z_aload_n hX 0 rfl rfl dX0_share_0 ?_
  refine z_gFR 0 9 hX (by decide) rfl (by decide) rfl q_366 dX0_share_1 (fun r1 => ?_)
  refine z_iload_n hX 1 rfl rfl dX0_share_4 ?_
  refine z_aI hX dX0_share_5 (fun x2 => ?_)
  refine z_iload_n hX 2 rfl rfl dX0_share_6 ?_
  refine z_cSNIp [.int x2, .int v2] hX (fun l hl o ho => c_X8_has l hl M x2 v2 o ho) dX0_share_7 nw_14 okS_X8_has rfl ⟨(Nat.le_of_ble_eq_true rfl), (Nat.le_of_ble_eq_true rfl)⟩ rfl (Nat.le_of_ble_eq_true rfl) rfl rfl ⟨(Nat.le_of_ble_eq_true rfl), (Nat.le_of_ble_eq_true rfl)⟩ (fun o3 => ?_)
  refine z_jn (C' := 0) (S' := 0) 36 (fun (j4 : Int32) => []) (fun (j4 : Int32) => [.int j4]) (fun (j4 : Int32) => M) (fun j4 => ?_) (fun kj4 => ?_)
  · exact z_iretP hX dX0_share_36 (Nat.le_of_ble_eq_true rfl) (Nat.le_of_ble_eq_true rfl)
  · refine z_iteB ?_
    refine z_if_eq hX 35 (by decide) dX0_share_10 (fun _ => ?_) (fun _ => ?_)
    · refine z_iconst (v := 0) hX (by decide) dX0_share_35 ?_
      refine z_pure ?_
      refine z_sub [] rfl ?_
      exact kj4 0
    · refine z_iload_n hX 3 rfl rfl dX0_share_13 ?_
      refine z_iteB ?_
      refine z_if_le hX 35 (by decide) dX0_share_14 (fun _ => ?_) (fun _ => ?_)
      · refine z_iconst (v := 0) hX (by decide) dX0_share_35 ?_
        refine z_pure ?_
        refine z_sub [] rfl ?_
        exact kj4 0
      · refine z_aload_n hX 0 rfl rfl dX0_share_17 ?_
        refine z_asc ?_
        refine z_gFR 0 4 hX (by decide) rfl (by decide) rfl q_338 dX0_share_18 (fun r5 => ?_)
        refine z_iload_n hX 2 rfl rfl dX0_share_21 ?_
        refine z_asc ?_
        refine z_aI hX dX0_share_22 (fun x6 => ?_)
        refine z_aload_n hX 0 rfl rfl dX0_share_23 ?_
        refine z_asc ?_
        refine z_gFR 0 8 hX (by decide) rfl (by decide) rfl q_361 dX0_share_24 (fun r7 => ?_)
        refine z_iload_n hX 1 rfl rfl dX0_share_27 ?_
        refine z_asc ?_
        refine z_aI hX dX0_share_28 (fun x8 => ?_)
        refine z_imul hX dX0_share_29 ?_
        refine z_iload_n hX 3 rfl rfl dX0_share_30 ?_
        refine z_asc ?_
        refine z_idiv hX dX0_share_31 (fun x9 => ?_)
        refine z_goto hX 36 (by decide) dX0_share_32 ?_
        refine z_pure ?_
        refine z_sub [] rfl ?_
        exact kj4 x9
theorem c_X0_share (l : Launch) (hl : l.stackTraces = false) (M : Mem) (v0 : Nat) (v1 : Int32) (v2 : Int32) (v3 : Int32) (o : Int32) (ho : f_X0_share M v0 v1 v2 v3 = some o) : Ct l yX0_share cX0_share 4 (some .int) rm_X0_share [.ref v0, .int v1, .int v2, .int v3] M (some (.int o)) M :=
  Ct.of hl (by decide +kernel) (Nat.le_of_ble_eq_true rfl) rfl (fun X hX hin => z_X0_share hX M v0 v1 v2 v3 o ho)
theorem okV_X0_share : okV yX0_share cX0_share 4 (some .int) 3 := ⟨q_691, q_692, q_94, q_693, by unfold okY; decide +kernel⟩
/-! ParticipatoryBudget$Ballot.firstPurse(II)I -/
abbrev rm_X0_firstPurse : Room := { frames := 2, cells := 0, slots := 0, locals := 44 }
set_option maxRecDepth 20000 in
set_option maxHeartbeats 4000000 in
theorem z_X0_firstPurse {X : Cxt} (hX : okX X cX0_firstPurse RX0 rm_X0_firstPurse (some .int) 3) (M : Mem) (v0 : Nat) (v1 : Int32) (v2 : Int32) : Zj X (fun o : Int32 => Qr X rm_X0_firstPurse.cells rm_X0_firstPurse.slots (some (.int o)) M) 0 0 0 [(0, .ref v0), (1, .int v1), (2, .int v2)] [] M (f_X0_firstPurse M v0 v1 v2) := by
  unfold f_X0_firstPurse
  refine z_aload_n hX 0 rfl rfl dX0_firstPurse_0 ?_
  refine z_iload_n hX 1 rfl rfl dX0_firstPurse_1 ?_
  refine z_iload_n hX 2 rfl rfl dX0_firstPurse_2 ?_
  refine z_aload_n hX 0 rfl rfl dX0_firstPurse_3 ?_
  refine z_iload_n hX 2 rfl rfl dX0_firstPurse_4 ?_
  refine z_cVIp 0 [.int v2] hX (fun l hl o ho => c_X0_memberWeight l hl M v0 v2 o ho) dX0_firstPurse_5 (by decide) rfl rfl q_925 okV_X0_memberWeight rfl ⟨(Nat.le_of_ble_eq_true rfl), (Nat.le_of_ble_eq_true rfl)⟩ rfl (Nat.le_of_ble_eq_true rfl) rfl rfl ⟨(Nat.le_of_ble_eq_true rfl), (Nat.le_of_ble_eq_true rfl)⟩ (fun o1 => ?_)
  refine z_cVIp 0 [.int v1, .int v2, .int o1] hX (fun l hl o ho => c_X0_share l hl M v0 v1 v2 o1 o ho) dX0_firstPurse_8 (by decide) rfl rfl q_926 okV_X0_share rfl ⟨(Nat.le_of_ble_eq_true rfl), (Nat.le_of_ble_eq_true rfl)⟩ rfl (Nat.le_of_ble_eq_true rfl) rfl rfl ⟨(Nat.le_of_ble_eq_true rfl), (Nat.le_of_ble_eq_true rfl)⟩ (fun o2 => ?_)
  exact z_iretP hX dX0_firstPurse_11 (Nat.le_of_ble_eq_true rfl) (Nat.le_of_ble_eq_true rfl)
theorem c_X0_firstPurse (l : Launch) (hl : l.stackTraces = false) (M : Mem) (v0 : Nat) (v1 : Int32) (v2 : Int32) (o : Int32) (ho : f_X0_firstPurse M v0 v1 v2 = some o) : Ct l yX0_firstPurse cX0_firstPurse 3 (some .int) rm_X0_firstPurse [.ref v0, .int v1, .int v2] M (some (.int o)) M :=
  Ct.of hl (by decide +kernel) (Nat.le_of_ble_eq_true rfl) rfl (fun X hX hin => z_X0_firstPurse hX M v0 v1 v2 o ho)
theorem okV_X0_firstPurse : okV yX0_firstPurse cX0_firstPurse 3 (some .int) 2 := ⟨q_922, q_923, q_94, q_924, by unfold okY; decide +kernel⟩
/-! ParticipatoryBudget$Ballot.firstMeans(II)I -/
abbrev rm_X0_firstMeans : Room := { frames := 3, cells := 0, slots := 0, locals := 66 }
set_option maxRecDepth 20000 in
set_option maxHeartbeats 4000000 in
theorem z_X0_firstMeans {X : Cxt} (hX : okX X cX0_firstMeans RX0 rm_X0_firstMeans (some .int) 5) (M : Mem) (v0 : Nat) (v1 : Int32) (v2 : Int32) : Zj X (fun o : Int32 => Qr X rm_X0_firstMeans.cells rm_X0_firstMeans.slots (some (.int o)) M) 0 0 0 [(0, .ref v0), (1, .int v1), (2, .int v2)] [] M (f_X0_firstMeans M v0 v1 v2) := by
  unfold f_X0_firstMeans
  refine z_iconst (v := 0) hX (by decide) dX0_firstMeans_0 ?_
  refine z_istore_n hX [(3, .int 0), (0, .ref v0), (1, .int v1), (2, .int v2)] rfl (by decide) rfl dX0_firstMeans_1 ?_
  refine z_iconst (v := 0) hX (by decide) dX0_firstMeans_2 ?_
  refine z_istore hX [(4, .int 0), (3, .int 0), (0, .ref v0), (1, .int v1), (2, .int v2)] (by decide) rfl dX0_firstMeans_3 ?_
  refine z_sub [2, 3, 4, 1, 0] rfl ?_
  refine z_lp (x0 := (0, 0)) (bd_X0_firstMeans_5 M v0 v1 v2) 5 39 (fun (u1 : Int32 × Int32) => [(0, .ref v0), (1, .int v1), (2, .int v2), (3, .int u1.1), (4, .int u1.2)]) (fun (e2 : Int32 × Int32) => [(3, .int e2.1)]) (fun (u1 : Int32 × Int32) => M) ?_ ?_
  · intro e2
    refine z_iload_n hX 0 rfl rfl dX0_firstMeans_39 ?_
    exact z_iretP hX dX0_firstMeans_40 (Nat.le_of_ble_eq_true rfl) (Nat.le_of_ble_eq_true rfl)
  · intro kk3 rc4 hkk3 hrc4 u1
    unfold bd_X0_firstMeans_5
    refine z_iload hX 4 rfl dX0_firstMeans_5 ?_
    refine z_aload_n hX 0 rfl rfl dX0_firstMeans_7 ?_
    refine z_gFI 0 0 hX (by decide) rfl (by decide) rfl q_318 dX0_firstMeans_8 (fun x5 => ?_)
    refine z_icmp_ge hX 39 (by decide) dX0_firstMeans_11 (fun _ => ?_) (fun _ => ?_)
    · refine z_sub [3] rfl ?_
      exact hkk3 (u1.1, u1.2)
    · refine z_iload_n hX 2 rfl rfl dX0_firstMeans_14 ?_
      refine z_iload hX 4 rfl dX0_firstMeans_15 ?_
      refine z_cSNIp [.int v2, .int u1.2] hX (fun l hl o ho => c_X8_has l hl M v2 u1.2 o ho) dX0_firstMeans_17 nw_14 okS_X8_has rfl ⟨(Nat.le_of_ble_eq_true rfl), (Nat.le_of_ble_eq_true rfl)⟩ rfl (Nat.le_of_ble_eq_true rfl) rfl rfl ⟨(Nat.le_of_ble_eq_true rfl), (Nat.le_of_ble_eq_true rfl)⟩ (fun o6 => ?_)
      refine z_jn (C' := 0) (S' := 0) 33 (fun (j7 : Int32) => [(0, .ref v0), (1, .int v1), (2, .int v2), (3, .int j7), (4, .int u1.2)]) (fun (j7 : Int32) => []) (fun (j7 : Int32) => M) (fun j7 => ?_) (fun kj7 => ?_)
      · refine z_iinc hX 4 [(4, .int (u1.2 + 1)), (0, .ref v0), (1, .int v1), (2, .int v2), (3, .int j7)] rfl rfl (by decide) rfl dX0_firstMeans_33 ?_
        refine z_goto hX 5 (by decide) dX0_firstMeans_36 ?_
        refine z_sub [1, 2, 3, 4, 0] rfl ?_
        exact hrc4 (j7, u1.2 + 1)
      · refine z_iteB ?_
        refine z_if_eq hX 33 (by decide) dX0_firstMeans_20 (fun _ => ?_) (fun _ => ?_)
        · refine z_pure ?_
          refine z_sub [0, 1, 2, 3, 4] rfl ?_
          exact kj7 u1.1
        · refine z_iload_n hX 3 rfl rfl dX0_firstMeans_23 ?_
          refine z_aload_n hX 0 rfl rfl dX0_firstMeans_24 ?_
          refine z_iload_n hX 1 rfl rfl dX0_firstMeans_25 ?_
          refine z_iload hX 4 rfl dX0_firstMeans_26 ?_
          refine z_asc ?_
          refine z_asc2 ?_
          refine z_cVIp 0 [.int v1, .int u1.2] hX (fun l hl o ho => c_X0_firstPurse l hl M v0 v1 u1.2 o ho) dX0_firstMeans_28 (by decide) rfl rfl q_921 okV_X0_firstPurse rfl ⟨(Nat.le_of_ble_eq_true rfl), (Nat.le_of_ble_eq_true rfl)⟩ rfl (Nat.le_of_ble_eq_true rfl) rfl rfl ⟨(Nat.le_of_ble_eq_true rfl), (Nat.le_of_ble_eq_true rfl)⟩ (fun o8 => ?_)
          refine z_iadd hX dX0_firstMeans_31 ?_
          refine z_ltB ?_
          refine z_ltI (fun x9 => ?_)
          refine z_istore_n hX [(3, .int x9), (0, .ref v0), (1, .int v1), (2, .int v2), (4, .int u1.2)] rfl (by decide) rfl dX0_firstMeans_32 ?_
          refine z_pure ?_
          refine z_sub [1, 2, 3, 0, 4] rfl ?_
          exact kj7 x9
theorem c_X0_firstMeans (l : Launch) (hl : l.stackTraces = false) (M : Mem) (v0 : Nat) (v1 : Int32) (v2 : Int32) (o : Int32) (ho : f_X0_firstMeans M v0 v1 v2 = some o) : Ct l yX0_firstMeans cX0_firstMeans 5 (some .int) rm_X0_firstMeans [.ref v0, .int v1, .int v2] M (some (.int o)) M :=
  Ct.of hl (by decide +kernel) (Nat.le_of_ble_eq_true rfl) rfl (fun X hX hin => z_X0_firstMeans hX M v0 v1 v2 o ho)
theorem okV_X0_firstMeans : okV yX0_firstMeans cX0_firstMeans 5 (some .int) 2 := ⟨q_918, q_919, q_94, q_920, by unfold okY; decide +kernel⟩
/-! ParticipatoryBudget$Ballot.goesBefore(II)Z -/
abbrev rm_X0_goesBefore : Room := { frames := 0, cells := 0, slots := 0, locals := 0 }
set_option maxRecDepth 20000 in
set_option maxHeartbeats 4000000 in
theorem z_X0_goesBefore {X : Cxt} (hX : okX X cX0_goesBefore RX0 rm_X0_goesBefore (some .boolean) 4) (M : Mem) (v0 : Nat) (v1 : Int32) (v2 : Int32) : Zj X (fun o : Int32 => Qr X rm_X0_goesBefore.cells rm_X0_goesBefore.slots (some (.int o)) M) 0 0 0 [(0, .ref v0), (1, .int v1), (2, .int v2)] [] M (f_X0_goesBefore M v0 v1 v2) := by
  unfold f_X0_goesBefore
  refine z_aload_n hX 0 rfl rfl dX0_goesBefore_0 ?_
  refine z_gFR 0 11 hX (by decide) rfl (by decide) rfl q_375 dX0_goesBefore_1 (fun r1 => ?_)
  refine z_iconst (v := 3) hX (by decide) dX0_goesBefore_4 ?_
  refine z_aI hX dX0_goesBefore_5 (fun x2 => ?_)
  refine z_jn (C' := 0) (S' := 0) 52 (fun (j3 : Int32) => [(0, .ref v0), (1, .int v1), (2, .int v2)]) (fun (j3 : Int32) => [.int j3]) (fun (j3 : Int32) => M) (fun j3 => ?_) (fun kj3 => ?_)
  · refine z_istore_n hX [(3, .int j3), (0, .ref v0), (1, .int v1), (2, .int v2)] rfl (by decide) rfl dX0_goesBefore_52 ?_
    refine z_iload_n hX 0 rfl rfl dX0_goesBefore_53 ?_
    refine z_if_eq hX 67 (by decide) dX0_goesBefore_54 (fun _ => ?_) (fun _ => ?_)
    · refine z_aload_n hX 1 rfl rfl dX0_goesBefore_67 ?_
      refine z_gFR 0 6 hX (by decide) rfl (by decide) rfl q_348 dX0_goesBefore_68 (fun r4 => ?_)
      refine z_iload_n hX 2 rfl rfl dX0_goesBefore_71 ?_
      refine z_aI hX dX0_goesBefore_72 (fun x5 => ?_)
      refine z_aload_n hX 1 rfl rfl dX0_goesBefore_73 ?_
      refine z_gFR 0 6 hX (by decide) rfl (by decide) rfl q_348 dX0_goesBefore_74 (fun r6 => ?_)
      refine z_iload_n hX 3 rfl rfl dX0_goesBefore_77 ?_
      refine z_aI hX dX0_goesBefore_78 (fun x7 => ?_)
      refine z_jn (C' := 0) (S' := 0) 107 (fun (j8 : Int32) => []) (fun (j8 : Int32) => [.int j8]) (fun (j8 : Int32) => M) (fun j8 => ?_) (fun kj8 => ?_)
      · exact z_zretP hX dX0_goesBefore_107 (Nat.le_of_ble_eq_true rfl) (Nat.le_of_ble_eq_true rfl)
      · refine z_iteB ?_
        refine z_icmp_lt hX 102 (by decide) dX0_goesBefore_79 (fun _ => ?_) (fun _ => ?_)
        · refine z_iconst (v := 1) hX (by decide) dX0_goesBefore_102 ?_
          refine z_goto hX 107 (by decide) dX0_goesBefore_103 ?_
          refine z_pure ?_
          refine z_sub [] rfl ?_
          exact kj8 1
        · refine z_aload_n hX 1 rfl rfl dX0_goesBefore_82 ?_
          refine z_asc ?_
          refine z_gFR 0 6 hX (by decide) rfl (by decide) rfl q_348 dX0_goesBefore_83 (fun r9 => ?_)
          refine z_iload_n hX 2 rfl rfl dX0_goesBefore_86 ?_
          refine z_asc ?_
          refine z_aI hX dX0_goesBefore_87 (fun x10 => ?_)
          refine z_aload_n hX 1 rfl rfl dX0_goesBefore_88 ?_
          refine z_asc ?_
          refine z_gFR 0 6 hX (by decide) rfl (by decide) rfl q_348 dX0_goesBefore_89 (fun r11 => ?_)
          refine z_iload_n hX 3 rfl rfl dX0_goesBefore_92 ?_
          refine z_asc ?_
          refine z_aI hX dX0_goesBefore_93 (fun x12 => ?_)
          refine z_iteB ?_
          refine z_icmp_ne hX 106 (by decide) dX0_goesBefore_94 (fun _ => ?_) (fun _ => ?_)
          · refine z_iconst (v := 0) hX (by decide) dX0_goesBefore_106 ?_
            refine z_pure ?_
            refine z_sub [] rfl ?_
            exact kj8 0
          · refine z_iload_n hX 2 rfl rfl dX0_goesBefore_97 ?_
            refine z_iload_n hX 3 rfl rfl dX0_goesBefore_98 ?_
            refine z_iteB ?_
            refine z_icmp_ge hX 106 (by decide) dX0_goesBefore_99 (fun _ => ?_) (fun _ => ?_)
            · refine z_iconst (v := 0) hX (by decide) dX0_goesBefore_106 ?_
              refine z_pure ?_
              refine z_sub [] rfl ?_
              exact kj8 0
            · refine z_iconst (v := 1) hX (by decide) dX0_goesBefore_102 ?_
              refine z_goto hX 107 (by decide) dX0_goesBefore_103 ?_
              refine z_pure ?_
              refine z_sub [] rfl ?_
              exact kj8 1
    · refine z_iload_n hX 0 rfl rfl dX0_goesBefore_57 ?_
      refine z_jn (C' := 0) (S' := 0) 66 (fun (j13 : Int32) => []) (fun (j13 : Int32) => [.int j13]) (fun (j13 : Int32) => M) (fun j13 => ?_) (fun kj13 => ?_)
      · exact z_zretP hX dX0_goesBefore_66 (Nat.le_of_ble_eq_true rfl) (Nat.le_of_ble_eq_true rfl)
      · refine z_iteB ?_
        refine z_if_le hX 65 (by decide) dX0_goesBefore_58 (fun _ => ?_) (fun _ => ?_)
        · refine z_iconst (v := 0) hX (by decide) dX0_goesBefore_65 ?_
          refine z_pure ?_
          refine z_sub [] rfl ?_
          exact kj13 0
        · refine z_iconst (v := 1) hX (by decide) dX0_goesBefore_61 ?_
          refine z_goto hX 66 (by decide) dX0_goesBefore_62 ?_
          refine z_pure ?_
          refine z_sub [] rfl ?_
          exact kj13 1
  · refine z_iteB ?_
    refine z_if_ne hX 25 (by decide) dX0_goesBefore_6 (fun _ => ?_) (fun _ => ?_)
    · refine z_aload_n hX 0 rfl rfl dX0_goesBefore_25 ?_
      refine z_asc ?_
      refine z_gFR 0 13 hX (by decide) rfl (by decide) rfl q_384 dX0_goesBefore_26 (fun r14 => ?_)
      refine z_iload_n hX 1 rfl rfl dX0_goesBefore_29 ?_
      refine z_asc ?_
      refine z_aI hX dX0_goesBefore_30 (fun x15 => ?_)
      refine z_aload_n hX 0 rfl rfl dX0_goesBefore_31 ?_
      refine z_asc ?_
      refine z_gFR 0 6 hX (by decide) rfl (by decide) rfl q_348 dX0_goesBefore_32 (fun r16 => ?_)
      refine z_iload_n hX 2 rfl rfl dX0_goesBefore_35 ?_
      refine z_asc ?_
      refine z_aI hX dX0_goesBefore_36 (fun x17 => ?_)
      refine z_imul hX dX0_goesBefore_37 ?_
      refine z_aload_n hX 0 rfl rfl dX0_goesBefore_38 ?_
      refine z_asc ?_
      refine z_gFR 0 13 hX (by decide) rfl (by decide) rfl q_384 dX0_goesBefore_39 (fun r18 => ?_)
      refine z_iload_n hX 2 rfl rfl dX0_goesBefore_42 ?_
      refine z_asc ?_
      refine z_aI hX dX0_goesBefore_43 (fun x19 => ?_)
      refine z_aload_n hX 0 rfl rfl dX0_goesBefore_44 ?_
      refine z_asc ?_
      refine z_gFR 0 6 hX (by decide) rfl (by decide) rfl q_348 dX0_goesBefore_45 (fun r20 => ?_)
      refine z_iload_n hX 1 rfl rfl dX0_goesBefore_48 ?_
      refine z_asc ?_
      refine z_aI hX dX0_goesBefore_49 (fun x21 => ?_)
      refine z_imul hX dX0_goesBefore_50 ?_
      refine z_isub hX dX0_goesBefore_51 ?_
      refine z_pure ?_
      refine z_sub [0, 1, 2] rfl ?_
      exact kj3 ((x15 * x17) - (x19 * x21))
    · refine z_aload_n hX 0 rfl rfl dX0_goesBefore_9 ?_
      refine z_asc ?_
      refine z_gFR 0 13 hX (by decide) rfl (by decide) rfl q_384 dX0_goesBefore_10 (fun r22 => ?_)
      refine z_iload_n hX 1 rfl rfl dX0_goesBefore_13 ?_
      refine z_asc ?_
      refine z_aI hX dX0_goesBefore_14 (fun x23 => ?_)
      refine z_aload_n hX 0 rfl rfl dX0_goesBefore_15 ?_
      refine z_asc ?_
      refine z_gFR 0 13 hX (by decide) rfl (by decide) rfl q_384 dX0_goesBefore_16 (fun r24 => ?_)
      refine z_iload_n hX 2 rfl rfl dX0_goesBefore_19 ?_
      refine z_asc ?_
      refine z_aI hX dX0_goesBefore_20 (fun x25 => ?_)
      refine z_isub hX dX0_goesBefore_21 ?_
      refine z_goto hX 52 (by decide) dX0_goesBefore_22 ?_
      refine z_pure ?_
      refine z_sub [0, 1, 2] rfl ?_
      exact kj3 (x23 - x25)
theorem c_X0_goesBefore (l : Launch) (hl : l.stackTraces = false) (M : Mem) (v0 : Nat) (v1 : Int32) (v2 : Int32) (o : Int32) (ho : f_X0_goesBefore M v0 v1 v2 = some o) : Ct l yX0_goesBefore cX0_goesBefore 4 (some .boolean) rm_X0_goesBefore [.ref v0, .int v1, .int v2] M (some (.int o)) M :=
  Ct.of hl (by decide +kernel) (Nat.le_of_ble_eq_true rfl) rfl (fun X hX hin => z_X0_goesBefore hX M v0 v1 v2 o ho)
theorem okV_X0_goesBefore : okV yX0_goesBefore cX0_goesBefore 4 (some .boolean) 2 := ⟨q_759, q_760, q_94, q_761, by unfold okY; decide +kernel⟩
/-! ParticipatoryBudget$Ballot.costTogether(I)I -/
abbrev rm_X0_costTogether : Room := { frames := 1, cells := 0, slots := 0, locals := 21 }
set_option maxRecDepth 20000 in
set_option maxHeartbeats 4000000 in
theorem z_X0_costTogether {X : Cxt} (hX : okX X cX0_costTogether RX0 rm_X0_costTogether (some .int) 4) (M : Mem) (v0 : Nat) (v1 : Int32) : Zj X (fun o : Int32 => Qr X rm_X0_costTogether.cells rm_X0_costTogether.slots (some (.int o)) M) 0 0 0 [(0, .ref v0), (1, .int v1)] [] M (f_X0_costTogether M v0 v1) := by
  unfold f_X0_costTogether
  refine z_iconst (v := 0) hX (by decide) dX0_costTogether_0 ?_
  refine z_istore_n hX [(2, .int 0), (0, .ref v0), (1, .int v1)] rfl (by decide) rfl dX0_costTogether_1 ?_
  refine z_iconst (v := 0) hX (by decide) dX0_costTogether_2 ?_
  refine z_istore_n hX [(3, .int 0), (2, .int 0), (0, .ref v0), (1, .int v1)] rfl (by decide) rfl dX0_costTogether_3 ?_
  refine z_sub [2, 3, 1, 0] rfl ?_
  refine z_lp (x0 := (0, 0)) (bd_X0_costTogether_4 M v0 v1) 4 35 (fun (u1 : Int32 × Int32) => [(0, .ref v0), (1, .int v1), (2, .int u1.1), (3, .int u1.2)]) (fun (e2 : Int32 × Int32) => [(2, .int e2.1)]) (fun (u1 : Int32 × Int32) => M) ?_ ?_
  · intro e2
    refine z_iload_n hX 0 rfl rfl dX0_costTogether_35 ?_
    exact z_iretP hX dX0_costTogether_36 (Nat.le_of_ble_eq_true rfl) (Nat.le_of_ble_eq_true rfl)
  · intro kk3 rc4 hkk3 hrc4 u1
    unfold bd_X0_costTogether_4
    refine z_iload_n hX 3 rfl rfl dX0_costTogether_4 ?_
    refine z_aload_n hX 0 rfl rfl dX0_costTogether_5 ?_
    refine z_gFI 0 1 hX (by decide) rfl (by decide) rfl q_325 dX0_costTogether_6 (fun x5 => ?_)
    refine z_icmp_ge hX 35 (by decide) dX0_costTogether_9 (fun _ => ?_) (fun _ => ?_)
    · refine z_sub [2] rfl ?_
      exact hkk3 (u1.1, u1.2)
    · refine z_iload_n hX 1 rfl rfl dX0_costTogether_12 ?_
      refine z_iload_n hX 3 rfl rfl dX0_costTogether_13 ?_
      refine z_cSNIp [.int v1, .int u1.2] hX (fun l hl o ho => c_X8_has l hl M v1 u1.2 o ho) dX0_costTogether_14 nw_14 okS_X8_has rfl ⟨(Nat.le_of_ble_eq_true rfl), (Nat.le_of_ble_eq_true rfl)⟩ rfl (Nat.le_of_ble_eq_true rfl) rfl rfl ⟨(Nat.le_of_ble_eq_true rfl), (Nat.le_of_ble_eq_true rfl)⟩ (fun o6 => ?_)
      refine z_jn (C' := 0) (S' := 0) 29 (fun (j7 : Int32) => [(0, .ref v0), (1, .int v1), (2, .int j7), (3, .int u1.2)]) (fun (j7 : Int32) => []) (fun (j7 : Int32) => M) (fun j7 => ?_) (fun kj7 => ?_)
      · refine z_iinc hX 3 [(3, .int (u1.2 + 1)), (0, .ref v0), (1, .int v1), (2, .int j7)] rfl rfl (by decide) rfl dX0_costTogether_29 ?_
        refine z_goto hX 4 (by decide) dX0_costTogether_32 ?_
        refine z_sub [1, 2, 3, 0] rfl ?_
        exact hrc4 (j7, u1.2 + 1)
      · refine z_iteB ?_
        refine z_if_eq hX 29 (by decide) dX0_costTogether_17 (fun _ => ?_) (fun _ => ?_)
        · refine z_pure ?_
          refine z_sub [0, 1, 2, 3] rfl ?_
          exact kj7 u1.1
        · refine z_iload_n hX 2 rfl rfl dX0_costTogether_20 ?_
          refine z_aload_n hX 0 rfl rfl dX0_costTogether_21 ?_
          refine z_asc ?_
          refine z_gFR 0 6 hX (by decide) rfl (by decide) rfl q_348 dX0_costTogether_22 (fun r8 => ?_)
          refine z_iload_n hX 3 rfl rfl dX0_costTogether_25 ?_
          refine z_asc ?_
          refine z_aI hX dX0_costTogether_26 (fun x9 => ?_)
          refine z_iadd hX dX0_costTogether_27 ?_
          refine z_ltB ?_
          refine z_ltI (fun x10 => ?_)
          refine z_istore_n hX [(2, .int x10), (0, .ref v0), (1, .int v1), (3, .int u1.2)] rfl (by decide) rfl dX0_costTogether_28 ?_
          refine z_pure ?_
          refine z_sub [1, 2, 0, 3] rfl ?_
          exact kj7 x10
theorem c_X0_costTogether (l : Launch) (hl : l.stackTraces = false) (M : Mem) (v0 : Nat) (v1 : Int32) (o : Int32) (ho : f_X0_costTogether M v0 v1 = some o) : Ct l yX0_costTogether cX0_costTogether 4 (some .int) rm_X0_costTogether [.ref v0, .int v1] M (some (.int o)) M :=
  Ct.of hl (by decide +kernel) (Nat.le_of_ble_eq_true rfl) rfl (fun X hX hin => z_X0_costTogether hX M v0 v1 o ho)
theorem okV_X0_costTogether : okV yX0_costTogether cX0_costTogether 4 (some .int) 1 := ⟨q_863, q_864, q_94, q_865, by unfold okY; decide +kernel⟩
/-! ParticipatoryBudget$Ballot.valueTogether(I)I -/
abbrev rm_X0_valueTogether : Room := { frames := 1, cells := 0, slots := 0, locals := 21 }
set_option maxRecDepth 20000 in
set_option maxHeartbeats 4000000 in
theorem z_X0_valueTogether {X : Cxt} (hX : okX X cX0_valueTogether RX0 rm_X0_valueTogether (some .int) 4) (M : Mem) (v0 : Nat) (v1 : Int32) : Zj X (fun o : Int32 => Qr X rm_X0_valueTogether.cells rm_X0_valueTogether.slots (some (.int o)) M) 0 0 0 [(0, .ref v0), (1, .int v1)] [] M (f_X0_valueTogether M v0 v1) := by
  unfold f_X0_valueTogether
  refine z_iconst (v := 0) hX (by decide) dX0_valueTogether_0 ?_
  refine z_istore_n hX [(2, .int 0), (0, .ref v0), (1, .int v1)] rfl (by decide) rfl dX0_valueTogether_1 ?_
  refine z_iconst (v := 0) hX (by decide) dX0_valueTogether_2 ?_
  refine z_istore_n hX [(3, .int 0), (2, .int 0), (0, .ref v0), (1, .int v1)] rfl (by decide) rfl dX0_valueTogether_3 ?_
  refine z_sub [2, 3, 1, 0] rfl ?_
  refine z_lp (x0 := (0, 0)) (bd_X0_valueTogether_4 M v0 v1) 4 41 (fun (u1 : Int32 × Int32) => [(0, .ref v0), (1, .int v1), (2, .int u1.1), (3, .int u1.2)]) (fun (e2 : Int32 × Int32) => [(2, .int e2.1)]) (fun (u1 : Int32 × Int32) => M) ?_ ?_
  · intro e2
    refine z_iload_n hX 0 rfl rfl dX0_valueTogether_41 ?_
    exact z_iretP hX dX0_valueTogether_42 (Nat.le_of_ble_eq_true rfl) (Nat.le_of_ble_eq_true rfl)
  · intro kk3 rc4 hkk3 hrc4 u1
    unfold bd_X0_valueTogether_4
    refine z_iload_n hX 3 rfl rfl dX0_valueTogether_4 ?_
    refine z_aload_n hX 0 rfl rfl dX0_valueTogether_5 ?_
    refine z_gFI 0 1 hX (by decide) rfl (by decide) rfl q_325 dX0_valueTogether_6 (fun x5 => ?_)
    refine z_icmp_ge hX 41 (by decide) dX0_valueTogether_9 (fun _ => ?_) (fun _ => ?_)
    · refine z_sub [2] rfl ?_
      exact hkk3 (u1.1, u1.2)
    · refine z_iload_n hX 1 rfl rfl dX0_valueTogether_12 ?_
      refine z_iload_n hX 3 rfl rfl dX0_valueTogether_13 ?_
      refine z_cSNIp [.int v1, .int u1.2] hX (fun l hl o ho => c_X8_has l hl M v1 u1.2 o ho) dX0_valueTogether_14 nw_14 okS_X8_has rfl ⟨(Nat.le_of_ble_eq_true rfl), (Nat.le_of_ble_eq_true rfl)⟩ rfl (Nat.le_of_ble_eq_true rfl) rfl rfl ⟨(Nat.le_of_ble_eq_true rfl), (Nat.le_of_ble_eq_true rfl)⟩ (fun o6 => ?_)
      refine z_jn (C' := 0) (S' := 0) 35 (fun (j7 : Int32) => [(0, .ref v0), (1, .int v1), (2, .int j7), (3, .int u1.2)]) (fun (j7 : Int32) => []) (fun (j7 : Int32) => M) (fun j7 => ?_) (fun kj7 => ?_)
      · refine z_iinc hX 3 [(3, .int (u1.2 + 1)), (0, .ref v0), (1, .int v1), (2, .int j7)] rfl rfl (by decide) rfl dX0_valueTogether_35 ?_
        refine z_goto hX 4 (by decide) dX0_valueTogether_38 ?_
        refine z_sub [1, 2, 3, 0] rfl ?_
        exact hrc4 (j7, u1.2 + 1)
      · refine z_iteB ?_
        refine z_if_eq hX 35 (by decide) dX0_valueTogether_17 (fun _ => ?_) (fun _ => ?_)
        · refine z_pure ?_
          refine z_sub [0, 1, 2, 3] rfl ?_
          exact kj7 u1.1
        · refine z_iload_n hX 2 rfl rfl dX0_valueTogether_20 ?_
          refine z_aload_n hX 0 rfl rfl dX0_valueTogether_21 ?_
          refine z_asc ?_
          refine z_gFR 0 13 hX (by decide) rfl (by decide) rfl q_384 dX0_valueTogether_22 (fun r8 => ?_)
          refine z_iload_n hX 3 rfl rfl dX0_valueTogether_25 ?_
          refine z_asc ?_
          refine z_aI hX dX0_valueTogether_26 (fun x9 => ?_)
          refine z_aload_n hX 0 rfl rfl dX0_valueTogether_27 ?_
          refine z_iload_n hX 3 rfl rfl dX0_valueTogether_28 ?_
          refine z_asc ?_
          refine z_asc2 ?_
          refine z_cVIp 0 [.int u1.2] hX (fun l hl o ho => c_X0_worth l hl M v0 u1.2 o ho) dX0_valueTogether_29 (by decide) rfl rfl q_874 okV_X0_worth rfl ⟨(Nat.le_of_ble_eq_true rfl), (Nat.le_of_ble_eq_true rfl)⟩ rfl (Nat.le_of_ble_eq_true rfl) rfl rfl ⟨(Nat.le_of_ble_eq_true rfl), (Nat.le_of_ble_eq_true rfl)⟩ (fun o10 => ?_)
          refine z_imul hX dX0_valueTogether_32 ?_
          refine z_iadd hX dX0_valueTogether_33 ?_
          refine z_ltB ?_
          refine z_ltI (fun x11 => ?_)
          refine z_istore_n hX [(2, .int x11), (0, .ref v0), (1, .int v1), (3, .int u1.2)] rfl (by decide) rfl dX0_valueTogether_34 ?_
          refine z_pure ?_
          refine z_sub [1, 2, 0, 3] rfl ?_
          exact kj7 x11
theorem c_X0_valueTogether (l : Launch) (hl : l.stackTraces = false) (M : Mem) (v0 : Nat) (v1 : Int32) (o : Int32) (ho : f_X0_valueTogether M v0 v1 = some o) : Ct l yX0_valueTogether cX0_valueTogether 4 (some .int) rm_X0_valueTogether [.ref v0, .int v1] M (some (.int o)) M :=
  Ct.of hl (by decide +kernel) (Nat.le_of_ble_eq_true rfl) rfl (fun X hX hin => z_X0_valueTogether hX M v0 v1 o ho)
theorem okV_X0_valueTogether : okV yX0_valueTogether cX0_valueTogether 4 (some .int) 1 := ⟨q_871, q_872, q_94, q_873, by unfold okY; decide +kernel⟩
/-! ParticipatoryBudget$Ballot.joy(II)I -/
abbrev rm_X0_joy : Room := { frames := 1, cells := 0, slots := 0, locals := 21 }
set_option maxRecDepth 20000 in
set_option maxHeartbeats 4000000 in
theorem z_X0_joy {X : Cxt} (hX : okX X cX0_joy RX0 rm_X0_joy (some .int) 5) (M : Mem) (v0 : Nat) (v1 : Int32) (v2 : Int32) : Zj X (fun o : Int32 => Qr X rm_X0_joy.cells rm_X0_joy.slots (some (.int o)) M) 0 0 0 [(0, .ref v0), (1, .int v1), (2, .int v2)] [] M (f_X0_joy M v0 v1 v2) := by
  unfold f_X0_joy
  refine z_iconst (v := 0) hX (by decide) dX0_joy_0 ?_
  refine z_istore_n hX [(3, .int 0), (0, .ref v0), (1, .int v1), (2, .int v2)] rfl (by decide) rfl dX0_joy_1 ?_
  refine z_iconst (v := 0) hX (by decide) dX0_joy_2 ?_
  refine z_istore hX [(4, .int 0), (3, .int 0), (0, .ref v0), (1, .int v1), (2, .int v2)] (by decide) rfl dX0_joy_3 ?_
  refine z_sub [2, 3, 4, 1, 0] rfl ?_
  refine z_lp (x0 := (0, 0)) (bd_X0_joy_5 M v0 v1 v2) 5 52 (fun (u1 : Int32 × Int32) => [(0, .ref v0), (1, .int v1), (2, .int v2), (3, .int u1.1), (4, .int u1.2)]) (fun (e2 : Int32 × Int32) => [(3, .int e2.1)]) (fun (u1 : Int32 × Int32) => M) ?_ ?_
  · intro e2
    refine z_iload_n hX 0 rfl rfl dX0_joy_52 ?_
    exact z_iretP hX dX0_joy_53 (Nat.le_of_ble_eq_true rfl) (Nat.le_of_ble_eq_true rfl)
  · intro kk3 rc4 hkk3 hrc4 u1
    unfold bd_X0_joy_5
    refine z_iload hX 4 rfl dX0_joy_5 ?_
    refine z_aload_n hX 0 rfl rfl dX0_joy_7 ?_
    refine z_gFI 0 1 hX (by decide) rfl (by decide) rfl q_325 dX0_joy_8 (fun x5 => ?_)
    refine z_icmp_ge hX 52 (by decide) dX0_joy_11 (fun _ => ?_) (fun _ => ?_)
    · refine z_sub [3] rfl ?_
      exact hkk3 (u1.1, u1.2)
    · refine z_iload_n hX 1 rfl rfl dX0_joy_14 ?_
      refine z_iload hX 4 rfl dX0_joy_15 ?_
      refine z_cSNIp [.int v1, .int u1.2] hX (fun l hl o ho => c_X8_has l hl M v1 u1.2 o ho) dX0_joy_17 nw_14 okS_X8_has rfl ⟨(Nat.le_of_ble_eq_true rfl), (Nat.le_of_ble_eq_true rfl)⟩ rfl (Nat.le_of_ble_eq_true rfl) rfl rfl ⟨(Nat.le_of_ble_eq_true rfl), (Nat.le_of_ble_eq_true rfl)⟩ (fun o6 => ?_)
      refine z_jn (C' := 0) (S' := 0) 46 (fun (j7 : Int32) => [(0, .ref v0), (1, .int v1), (2, .int v2), (3, .int j7), (4, .int u1.2)]) (fun (j7 : Int32) => []) (fun (j7 : Int32) => M) (fun j7 => ?_) (fun kj7 => ?_)
      · refine z_iinc hX 4 [(4, .int (u1.2 + 1)), (0, .ref v0), (1, .int v1), (2, .int v2), (3, .int j7)] rfl rfl (by decide) rfl dX0_joy_46 ?_
        refine z_goto hX 5 (by decide) dX0_joy_49 ?_
        refine z_sub [1, 2, 3, 4, 0] rfl ?_
        exact hrc4 (j7, u1.2 + 1)
      · refine z_iteB ?_
        refine z_if_eq hX 46 (by decide) dX0_joy_20 (fun _ => ?_) (fun _ => ?_)
        · refine z_pure ?_
          refine z_sub [0, 1, 2, 3, 4] rfl ?_
          exact kj7 u1.1
        · refine z_aload_n hX 0 rfl rfl dX0_joy_23 ?_
          refine z_asc ?_
          refine z_gFR 0 12 hX (by decide) rfl (by decide) rfl q_381 dX0_joy_24 (fun r8 => ?_)
          refine z_iload hX 4 rfl dX0_joy_27 ?_
          refine z_asc ?_
          refine z_aI hX dX0_joy_29 (fun x9 => ?_)
          refine z_iload_n hX 2 rfl rfl dX0_joy_30 ?_
          refine z_asc ?_
          refine z_cSNIp [.int x9, .int v2] hX (fun l hl o ho => c_X8_has l hl M x9 v2 o ho) dX0_joy_31 nw_14 okS_X8_has rfl ⟨(Nat.le_of_ble_eq_true rfl), (Nat.le_of_ble_eq_true rfl)⟩ rfl (Nat.le_of_ble_eq_true rfl) rfl rfl ⟨(Nat.le_of_ble_eq_true rfl), (Nat.le_of_ble_eq_true rfl)⟩ (fun o10 => ?_)
          refine z_iteB ?_
          refine z_if_eq hX 46 (by decide) dX0_joy_34 (fun _ => ?_) (fun _ => ?_)
          · refine z_pure ?_
            refine z_sub [0, 1, 2, 3, 4] rfl ?_
            exact kj7 u1.1
          · refine z_iload_n hX 3 rfl rfl dX0_joy_37 ?_
            refine z_aload_n hX 0 rfl rfl dX0_joy_38 ?_
            refine z_iload hX 4 rfl dX0_joy_39 ?_
            refine z_asc ?_
            refine z_asc2 ?_
            refine z_cVIp 0 [.int u1.2] hX (fun l hl o ho => c_X0_worth l hl M v0 u1.2 o ho) dX0_joy_41 (by decide) rfl rfl q_874 okV_X0_worth rfl ⟨(Nat.le_of_ble_eq_true rfl), (Nat.le_of_ble_eq_true rfl)⟩ rfl (Nat.le_of_ble_eq_true rfl) rfl rfl ⟨(Nat.le_of_ble_eq_true rfl), (Nat.le_of_ble_eq_true rfl)⟩ (fun o11 => ?_)
            refine z_iadd hX dX0_joy_44 ?_
            refine z_ltB ?_
            refine z_ltI (fun x12 => ?_)
            refine z_istore_n hX [(3, .int x12), (0, .ref v0), (1, .int v1), (2, .int v2), (4, .int u1.2)] rfl (by decide) rfl dX0_joy_45 ?_
            refine z_pure ?_
            refine z_sub [1, 2, 3, 0, 4] rfl ?_
            exact kj7 x12
theorem c_X0_joy (l : Launch) (hl : l.stackTraces = false) (M : Mem) (v0 : Nat) (v1 : Int32) (v2 : Int32) (o : Int32) (ho : f_X0_joy M v0 v1 v2 = some o) : Ct l yX0_joy cX0_joy 5 (some .int) rm_X0_joy [.ref v0, .int v1, .int v2] M (some (.int o)) M :=
  Ct.of hl (by decide +kernel) (Nat.le_of_ble_eq_true rfl) rfl (fun X hX hin => z_X0_joy hX M v0 v1 v2 o ho)
theorem okV_X0_joy : okV yX0_joy cX0_joy 5 (some .int) 2 := ⟨q_889, q_890, q_94, q_891, by unfold okY; decide +kernel⟩
/-! ParticipatoryBudget$Ballot.unserved(I)I -/
abbrev rm_X0_unserved : Room := { frames := 1, cells := 0, slots := 0, locals := 21 }
set_option maxRecDepth 20000 in
set_option maxHeartbeats 4000000 in
theorem z_X0_unserved {X : Cxt} (hX : okX X cX0_unserved RX0 rm_X0_unserved (some .int) 4) (M : Mem) (v0 : Nat) (v1 : Int32) : Zj X (fun o : Int32 => Qr X rm_X0_unserved.cells rm_X0_unserved.slots (some (.int o)) M) 0 0 0 [(0, .ref v0), (1, .int v1)] [] M (f_X0_unserved M v0 v1) := by
  unfold f_X0_unserved
  refine z_iconst (v := 1) hX (by decide) dX0_unserved_0 ?_
  refine z_aload_n hX 0 rfl rfl dX0_unserved_1 ?_
  refine z_gFI 0 2 hX (by decide) rfl (by decide) rfl q_331 dX0_unserved_2 (fun x1 => ?_)
  refine z_ishl hX dX0_unserved_5 ?_
  refine z_iconst (v := 1) hX (by decide) dX0_unserved_6 ?_
  refine z_isub hX dX0_unserved_7 ?_
  refine z_ltI (fun x2 => ?_)
  refine z_istore_n hX [(2, .int x2), (0, .ref v0), (1, .int v1)] rfl (by decide) rfl dX0_unserved_8 ?_
  refine z_iconst (v := 0) hX (by decide) dX0_unserved_9 ?_
  refine z_istore_n hX [(3, .int 0), (2, .int x2), (0, .ref v0), (1, .int v1)] rfl (by decide) rfl dX0_unserved_10 ?_
  refine z_sub [2, 3, 1, 0] rfl ?_
  refine z_lp (x0 := (x2, 0)) (bd_X0_unserved_11 M v0 v1) 11 44 (fun (u3 : Int32 × Int32) => [(0, .ref v0), (1, .int v1), (2, .int u3.1), (3, .int u3.2)]) (fun (e4 : Int32 × Int32) => [(2, .int e4.1)]) (fun (u3 : Int32 × Int32) => M) ?_ ?_
  · intro e4
    refine z_iload_n hX 0 rfl rfl dX0_unserved_44 ?_
    exact z_iretP hX dX0_unserved_45 (Nat.le_of_ble_eq_true rfl) (Nat.le_of_ble_eq_true rfl)
  · intro kk5 rc6 hkk5 hrc6 u3
    unfold bd_X0_unserved_11
    refine z_iload_n hX 3 rfl rfl dX0_unserved_11 ?_
    refine z_aload_n hX 0 rfl rfl dX0_unserved_12 ?_
    refine z_gFI 0 1 hX (by decide) rfl (by decide) rfl q_325 dX0_unserved_13 (fun x7 => ?_)
    refine z_icmp_ge hX 44 (by decide) dX0_unserved_16 (fun _ => ?_) (fun _ => ?_)
    · refine z_sub [2] rfl ?_
      exact hkk5 (u3.1, u3.2)
    · refine z_iload_n hX 1 rfl rfl dX0_unserved_19 ?_
      refine z_iload_n hX 3 rfl rfl dX0_unserved_20 ?_
      refine z_cSNIp [.int v1, .int u3.2] hX (fun l hl o ho => c_X8_has l hl M v1 u3.2 o ho) dX0_unserved_21 nw_14 okS_X8_has rfl ⟨(Nat.le_of_ble_eq_true rfl), (Nat.le_of_ble_eq_true rfl)⟩ rfl (Nat.le_of_ble_eq_true rfl) rfl rfl ⟨(Nat.le_of_ble_eq_true rfl), (Nat.le_of_ble_eq_true rfl)⟩ (fun o8 => ?_)
      refine z_jn (C' := 0) (S' := 0) 38 (fun (j9 : Int32) => [(0, .ref v0), (1, .int v1), (2, .int j9), (3, .int u3.2)]) (fun (j9 : Int32) => []) (fun (j9 : Int32) => M) (fun j9 => ?_) (fun kj9 => ?_)
      · refine z_iinc hX 3 [(3, .int (u3.2 + 1)), (0, .ref v0), (1, .int v1), (2, .int j9)] rfl rfl (by decide) rfl dX0_unserved_38 ?_
        refine z_goto hX 11 (by decide) dX0_unserved_41 ?_
        refine z_sub [1, 2, 3, 0] rfl ?_
        exact hrc6 (j9, u3.2 + 1)
      · refine z_iteB ?_
        refine z_if_eq hX 38 (by decide) dX0_unserved_24 (fun _ => ?_) (fun _ => ?_)
        · refine z_pure ?_
          refine z_sub [0, 1, 2, 3] rfl ?_
          exact kj9 u3.1
        · refine z_iload_n hX 2 rfl rfl dX0_unserved_27 ?_
          refine z_aload_n hX 0 rfl rfl dX0_unserved_28 ?_
          refine z_asc ?_
          refine z_gFR 0 12 hX (by decide) rfl (by decide) rfl q_381 dX0_unserved_29 (fun r10 => ?_)
          refine z_iload_n hX 3 rfl rfl dX0_unserved_32 ?_
          refine z_asc ?_
          refine z_aI hX dX0_unserved_33 (fun x11 => ?_)
          refine z_iconst (v := (-1)) hX (by decide) dX0_unserved_34 ?_
          refine z_ixor hX dX0_unserved_35 ?_
          refine z_iand hX dX0_unserved_36 ?_
          refine z_ltB ?_
          refine z_ltI (fun x12 => ?_)
          refine z_istore_n hX [(2, .int x12), (0, .ref v0), (1, .int v1), (3, .int u3.2)] rfl (by decide) rfl dX0_unserved_37 ?_
          refine z_pure ?_
          refine z_sub [1, 2, 0, 3] rfl ?_
          exact kj9 x12
theorem c_X0_unserved (l : Launch) (hl : l.stackTraces = false) (M : Mem) (v0 : Nat) (v1 : Int32) (o : Int32) (ho : f_X0_unserved M v0 v1 = some o) : Ct l yX0_unserved cX0_unserved 4 (some .int) rm_X0_unserved [.ref v0, .int v1] M (some (.int o)) M :=
  Ct.of hl (by decide +kernel) (Nat.le_of_ble_eq_true rfl) rfl (fun X hX hin => z_X0_unserved hX M v0 v1 o ho)
theorem okV_X0_unserved : okV yX0_unserved cX0_unserved 4 (some .int) 1 := ⟨q_905, q_906, q_94, q_907, by unfold okY; decide +kernel⟩
/-! ParticipatoryBudget$Ballot.claim(II)I -/
abbrev rm_X0_claim : Room := { frames := 4, cells := 0, slots := 0, locals := 90 }
set_option maxRecDepth 20000 in
set_option maxHeartbeats 4000000 in
theorem z_X0_claim {X : Cxt} (hX : okX X cX0_claim RX0 rm_X0_claim (some .int) 6) (M : Mem) (v0 : Nat) (v1 : Int32) (v2 : Int32) : Zj X (fun o : Int32 => Qr X rm_X0_claim.cells rm_X0_claim.slots (some (.int o)) M) 0 0 0 [(0, .ref v0), (1, .int v1), (2, .int v2)] [] M (f_X0_claim M v0 v1 v2) := by
  unfold f_X0_claim
  refine z_iload_n hX 1 rfl rfl dX0_claim_0 ?_
  refine z_iload_n hX 2 rfl rfl dX0_claim_1 ?_
  refine z_cSNIp [.int v1, .int v2] hX (fun l hl o ho => c_X8_has l hl M v1 v2 o ho) dX0_claim_2 nw_14 okS_X8_has rfl ⟨(Nat.le_of_ble_eq_true rfl), (Nat.le_of_ble_eq_true rfl)⟩ rfl (Nat.le_of_ble_eq_true rfl) rfl rfl ⟨(Nat.le_of_ble_eq_true rfl), (Nat.le_of_ble_eq_true rfl)⟩ (fun o1 => ?_)
  refine z_if_eq hX 10 (by decide) dX0_claim_5 (fun _ => ?_) (fun _ => ?_)
  · refine z_aload_n hX 0 rfl rfl dX0_claim_10 ?_
    refine z_gFR 0 12 hX (by decide) rfl (by decide) rfl q_381 dX0_claim_11 (fun r2 => ?_)
    refine z_iload_n hX 2 rfl rfl dX0_claim_14 ?_
    refine z_aI hX dX0_claim_15 (fun x3 => ?_)
    refine z_aload_n hX 0 rfl rfl dX0_claim_16 ?_
    refine z_iload_n hX 1 rfl rfl dX0_claim_17 ?_
    refine z_cVIp 0 [.int v1] hX (fun l hl o ho => c_X0_unserved l hl M v0 v1 o ho) dX0_claim_18 (by decide) rfl rfl q_916 okV_X0_unserved rfl ⟨(Nat.le_of_ble_eq_true rfl), (Nat.le_of_ble_eq_true rfl)⟩ rfl (Nat.le_of_ble_eq_true rfl) rfl rfl ⟨(Nat.le_of_ble_eq_true rfl), (Nat.le_of_ble_eq_true rfl)⟩ (fun o4 => ?_)
    refine z_iand hX dX0_claim_21 ?_
    refine z_ltI (fun x5 => ?_)
    refine z_istore_n hX [(3, .int x5), (0, .ref v0), (1, .int v1), (2, .int v2)] rfl (by decide) rfl dX0_claim_22 ?_
    refine z_iconst (v := 0) hX (by decide) dX0_claim_23 ?_
    refine z_istore hX [(4, .int 0), (3, .int x5), (0, .ref v0), (1, .int v1), (2, .int v2)] (by decide) rfl dX0_claim_24 ?_
    refine z_iconst (v := 0) hX (by decide) dX0_claim_26 ?_
    refine z_istore hX [(5, .int 0), (4, .int 0), (3, .int x5), (0, .ref v0), (1, .int v1), (2, .int v2)] (by decide) rfl dX0_claim_27 ?_
    refine z_sub [3, 5, 2, 1, 0] rfl ?_
    refine z_lp (x0 := (0, 0)) (bd_X0_claim_29 M v0 v2 x5) 29 70 (fun (u6 : Int32 × Int32) => [(0, .ref v0), (2, .int v2), (3, .int x5), (4, .int u6.1), (5, .int u6.2)]) (fun (e7 : Int32 × Int32) => [(4, .int e7.1)]) (fun (u6 : Int32 × Int32) => M) ?_ ?_
    · intro e7
      refine z_iload hX 0 rfl dX0_claim_70 ?_
      exact z_iretP hX dX0_claim_72 (Nat.le_of_ble_eq_true rfl) (Nat.le_of_ble_eq_true rfl)
    · intro kk8 rc9 hkk8 hrc9 u6
      unfold bd_X0_claim_29
      refine z_iload hX 4 rfl dX0_claim_29 ?_
      refine z_aload_n hX 0 rfl rfl dX0_claim_31 ?_
      refine z_gFI 0 2 hX (by decide) rfl (by decide) rfl q_331 dX0_claim_32 (fun x10 => ?_)
      refine z_icmp_ge hX 70 (by decide) dX0_claim_35 (fun _ => ?_) (fun _ => ?_)
      · refine z_sub [3] rfl ?_
        exact hkk8 (u6.1, u6.2)
      · refine z_iload_n hX 2 rfl rfl dX0_claim_38 ?_
        refine z_iload hX 4 rfl dX0_claim_39 ?_
        refine z_cSNIp [.int x5, .int u6.2] hX (fun l hl o ho => c_X8_has l hl M x5 u6.2 o ho) dX0_claim_41 nw_14 okS_X8_has rfl ⟨(Nat.le_of_ble_eq_true rfl), (Nat.le_of_ble_eq_true rfl)⟩ rfl (Nat.le_of_ble_eq_true rfl) rfl rfl ⟨(Nat.le_of_ble_eq_true rfl), (Nat.le_of_ble_eq_true rfl)⟩ (fun o11 => ?_)
        refine z_jn (C' := 0) (S' := 0) 64 (fun (j12 : Int32) => [(0, .ref v0), (2, .int v2), (3, .int x5), (4, .int j12), (5, .int u6.2)]) (fun (j12 : Int32) => []) (fun (j12 : Int32) => M) (fun j12 => ?_) (fun kj12 => ?_)
        · refine z_iinc hX 4 [(5, .int (u6.2 + 1)), (0, .ref v0), (2, .int v2), (3, .int x5), (4, .int j12)] rfl rfl (by decide) rfl dX0_claim_64 ?_
          refine z_goto hX 29 (by decide) dX0_claim_67 ?_
          refine z_sub [1, 2, 3, 4, 0] rfl ?_
          exact hrc9 (j12, u6.2 + 1)
        · refine z_iteB ?_
          refine z_if_eq hX 64 (by decide) dX0_claim_44 (fun _ => ?_) (fun _ => ?_)
          · refine z_pure ?_
            refine z_sub [0, 1, 2, 3, 4] rfl ?_
            exact kj12 u6.1
          · refine z_iload hX 3 rfl dX0_claim_47 ?_
            refine z_aload_n hX 0 rfl rfl dX0_claim_49 ?_
            refine z_iload hX 4 rfl dX0_claim_50 ?_
            refine z_aload_n hX 0 rfl rfl dX0_claim_52 ?_
            refine z_asc ?_
            refine z_gFR 0 7 hX (by decide) rfl (by decide) rfl q_355 dX0_claim_53 (fun r13 => ?_)
            refine z_iload_n hX 1 rfl rfl dX0_claim_56 ?_
            refine z_asc ?_
            refine z_aI hX dX0_claim_57 (fun x14 => ?_)
            refine z_asc ?_
            refine z_asc2 ?_
            refine z_cVIp 0 [.int u6.2, .int x14] hX (fun l hl o ho => c_X0_firstMeans l hl M v0 u6.2 x14 o ho) dX0_claim_58 (by decide) rfl rfl q_917 okV_X0_firstMeans rfl ⟨(Nat.le_of_ble_eq_true rfl), (Nat.le_of_ble_eq_true rfl)⟩ rfl (Nat.le_of_ble_eq_true rfl) rfl rfl ⟨(Nat.le_of_ble_eq_true rfl), (Nat.le_of_ble_eq_true rfl)⟩ (fun o15 => ?_)
            refine z_iadd hX dX0_claim_61 ?_
            refine z_ltB ?_
            refine z_ltI (fun x16 => ?_)
            refine z_istore hX [(4, .int x16), (0, .ref v0), (2, .int v2), (3, .int x5), (5, .int u6.2)] (by decide) rfl dX0_claim_62 ?_
            refine z_pure ?_
            refine z_sub [1, 2, 3, 0, 4] rfl ?_
            exact kj12 x16
  · refine z_iconst (v := 0) hX (by decide) dX0_claim_8 ?_
    exact z_iretP hX dX0_claim_9 (Nat.le_of_ble_eq_true rfl) (Nat.le_of_ble_eq_true rfl)
theorem c_X0_claim (l : Launch) (hl : l.stackTraces = false) (M : Mem) (v0 : Nat) (v1 : Int32) (v2 : Int32) (o : Int32) (ho : f_X0_claim M v0 v1 v2 = some o) : Ct l yX0_claim cX0_claim 6 (some .int) rm_X0_claim [.ref v0, .int v1, .int v2] M (some (.int o)) M :=
  Ct.of hl (by decide +kernel) (Nat.le_of_ble_eq_true rfl) rfl (fun X hX hin => z_X0_claim hX M v0 v1 v2 o ho)
theorem okV_X0_claim : okV yX0_claim cX0_claim 6 (some .int) 2 := ⟨q_913, q_914, q_94, q_915, by unfold okY; decide +kernel⟩
/-! ParticipatoryBudget$Rounds.<init>()V -/
abbrev rm_X6_init : Room := { frames := 1, cells := 67, slots := 708, locals := 13 }
set_option maxRecDepth 20000 in
set_option maxHeartbeats 4000000 in
theorem z_X6_init {X : Cxt} (hX : okX X cX6_init RX6 rm_X6_init (none) 1) (hin : inX X) (M : Mem) (v0 : Nat) : Zj X (fun o : Mem => Qr X rm_X6_init.cells rm_X6_init.slots (none) o) 0 0 0 [(0, .ref v0)] [] M (f_X6_init M v0) := by
  unfold f_X6_init
  refine z_aload_n hX 0 rfl rfl dX6_init_0 ?_
  refine z_oI hX dX6_init_1 q_187 q_114 q_115 (Nat.le_of_ble_eq_true rfl) (Nat.le_of_ble_eq_true rfl) ?_
  refine z_aload_n hX 0 rfl rfl dX6_init_4 ?_
  refine z_bipush (v := 24) hX (by decide) dX6_init_5 ?_
  refine z_iconst (v := 4) hX (by decide) dX6_init_7 ?_
  refine z_new2 24 4 hX q_188 q_175 (by decide) (by decide) (by decide) (by decide) (by decide) (by decide) dX6_init_8 rfl rfl (Nat.le_of_ble_eq_true rfl) (Nat.le_of_ble_eq_true rfl) (fun o1 => ?_)
  refine z_pFRf 6 0 hX hin (by decide) rfl (by decide) rfl q_190 rfl rfl pd_2 rfl rfl dX6_init_12 (fun M2 => ?_)
  refine z_aload_n hX 0 rfl rfl dX6_init_15 ?_
  refine z_bipush (v := 12) hX (by decide) dX6_init_16 ?_
  refine z_bipush (v := 24) hX (by decide) dX6_init_18 ?_
  refine z_new2 12 24 hX q_188 q_175 (by decide) (by decide) (by decide) (by decide) (by decide) (by decide) dX6_init_20 rfl rfl (Nat.le_of_ble_eq_true rfl) (Nat.le_of_ble_eq_true rfl) (fun o3 => ?_)
  refine z_pFRf 6 1 hX hin (by decide) rfl (by decide) rfl q_192 rfl rfl pd_2 rfl rfl dX6_init_24 (fun M4 => ?_)
  refine z_aload_n hX 0 rfl rfl dX6_init_27 ?_
  refine z_bipush (v := 12) hX (by decide) dX6_init_28 ?_
  refine z_iconst (v := 4) hX (by decide) dX6_init_30 ?_
  refine z_new2 12 4 hX q_188 q_175 (by decide) (by decide) (by decide) (by decide) (by decide) (by decide) dX6_init_31 rfl rfl (Nat.le_of_ble_eq_true rfl) (Nat.le_of_ble_eq_true rfl) (fun o5 => ?_)
  refine z_pFRf 6 2 hX hin (by decide) rfl (by decide) rfl q_194 rfl rfl pd_2 rfl rfl dX6_init_35 (fun M6 => ?_)
  refine z_aload_n hX 0 rfl rfl dX6_init_38 ?_
  refine z_bipush (v := 12) hX (by decide) dX6_init_39 ?_
  refine z_bipush (v := 13) hX (by decide) dX6_init_41 ?_
  refine z_new2 12 13 hX q_188 q_175 (by decide) (by decide) (by decide) (by decide) (by decide) (by decide) dX6_init_43 rfl rfl (Nat.le_of_ble_eq_true rfl) (Nat.le_of_ble_eq_true rfl) (fun o7 => ?_)
  refine z_pFRf 6 3 hX hin (by decide) rfl (by decide) rfl q_196 rfl rfl pd_2 rfl rfl dX6_init_47 (fun M8 => ?_)
  refine z_aload_n hX 0 rfl rfl dX6_init_50 ?_
  refine z_bipush (v := 12) hX (by decide) dX6_init_51 ?_
  refine z_newA (aty := .int) 20 12 hX (Or.inl ⟨rfl, rfl⟩) q_175 (by decide) (by decide) (by decide) dX6_init_53 rfl rfl (Nat.le_of_ble_eq_true rfl) (Nat.le_of_ble_eq_true rfl) (fun o9 => ?_)
  refine z_pFRf 6 4 hX hin (by decide) rfl (by decide) rfl q_199 rfl rfl pd_0 rfl rfl dX6_init_55 (fun M10 => ?_)
  refine z_aload_n hX 0 rfl rfl dX6_init_58 ?_
  refine z_bipush (v := 24) hX (by decide) dX6_init_59 ?_
  refine z_newA (aty := .int) 20 24 hX (Or.inl ⟨rfl, rfl⟩) q_175 (by decide) (by decide) (by decide) dX6_init_61 rfl rfl (Nat.le_of_ble_eq_true rfl) (Nat.le_of_ble_eq_true rfl) (fun o11 => ?_)
  refine z_pFRf 6 5 hX hin (by decide) rfl (by decide) rfl q_201 rfl rfl pd_0 rfl rfl dX6_init_63 (fun M12 => ?_)
  refine z_aload_n hX 0 rfl rfl dX6_init_66 ?_
  refine z_bipush (v := 24) hX (by decide) dX6_init_67 ?_
  refine z_newA (aty := .int) 20 24 hX (Or.inl ⟨rfl, rfl⟩) q_175 (by decide) (by decide) (by decide) dX6_init_69 rfl rfl (Nat.le_of_ble_eq_true rfl) (Nat.le_of_ble_eq_true rfl) (fun o13 => ?_)
  refine z_pFRf 6 6 hX hin (by decide) rfl (by decide) rfl q_202 rfl rfl pd_0 rfl rfl dX6_init_71 (fun M14 => ?_)
  exact z_vretM hX dX6_init_74 (Nat.le_of_ble_eq_true rfl) (Nat.le_of_ble_eq_true rfl)
theorem c_X6_init (l : Launch) (hl : l.stackTraces = false) (M : Mem) (v0 : Nat) (o : Mem) (ho : f_X6_init M v0 = some o) : Ct l yX6_init cX6_init 1 (none) rm_X6_init [.ref v0] M (none) o :=
  Ct.of hl (by decide +kernel) (Nat.le_of_ble_eq_true rfl) rfl (fun X hX hin => z_X6_init hX (hin rfl) M v0 o ho)
theorem okI_X6_init : okI yX6_init cX6_init 1 0 := ⟨rfl, q_185, q_91, q_186, by unfold okY; decide +kernel⟩
/-! ParticipatoryBudget$Greedy.<init>()V -/
abbrev rm_X2_init : Room := { frames := 1, cells := 15, slots := 76, locals := 13 }
set_option maxRecDepth 20000 in
set_option maxHeartbeats 4000000 in
theorem z_X2_init {X : Cxt} (hX : okX X cX2_init RX2 rm_X2_init (none) 1) (hin : inX X) (M : Mem) (v0 : Nat) : Zj X (fun o : Mem => Qr X rm_X2_init.cells rm_X2_init.slots (none) o) 0 0 0 [(0, .ref v0)] [] M (f_X2_init M v0) := by
  unfold f_X2_init
  refine z_aload_n hX 0 rfl rfl dX2_init_0 ?_
  refine z_oI hX dX2_init_1 q_232 q_114 q_115 (Nat.le_of_ble_eq_true rfl) (Nat.le_of_ble_eq_true rfl) ?_
  refine z_aload_n hX 0 rfl rfl dX2_init_4 ?_
  refine z_iconst (v := 4) hX (by decide) dX2_init_5 ?_
  refine z_newA (aty := .int) 20 4 hX (Or.inl ⟨rfl, rfl⟩) q_175 (by decide) (by decide) (by decide) dX2_init_6 rfl rfl (Nat.le_of_ble_eq_true rfl) (Nat.le_of_ble_eq_true rfl) (fun o1 => ?_)
  refine z_pFRf 2 0 hX hin (by decide) rfl (by decide) rfl q_234 rfl rfl pd_0 rfl rfl dX2_init_8 (fun M2 => ?_)
  refine z_aload_n hX 0 rfl rfl dX2_init_11 ?_
  refine z_bipush (v := 12) hX (by decide) dX2_init_12 ?_
  refine z_iconst (v := 4) hX (by decide) dX2_init_14 ?_
  refine z_new2 12 4 hX q_233 q_175 (by decide) (by decide) (by decide) (by decide) (by decide) (by decide) dX2_init_15 rfl rfl (Nat.le_of_ble_eq_true rfl) (Nat.le_of_ble_eq_true rfl) (fun o3 => ?_)
  refine z_pFRf 2 1 hX hin (by decide) rfl (by decide) rfl q_237 rfl rfl pd_2 rfl rfl dX2_init_19 (fun M4 => ?_)
  refine z_aload_n hX 0 rfl rfl dX2_init_22 ?_
  refine z_bipush (v := 12) hX (by decide) dX2_init_23 ?_
  refine z_newA (aty := .int) 20 12 hX (Or.inl ⟨rfl, rfl⟩) q_175 (by decide) (by decide) (by decide) dX2_init_25 rfl rfl (Nat.le_of_ble_eq_true rfl) (Nat.le_of_ble_eq_true rfl) (fun o5 => ?_)
  refine z_pFRf 2 2 hX hin (by decide) rfl (by decide) rfl q_239 rfl rfl pd_0 rfl rfl dX2_init_27 (fun M6 => ?_)
  exact z_vretM hX dX2_init_30 (Nat.le_of_ble_eq_true rfl) (Nat.le_of_ble_eq_true rfl)
theorem c_X2_init (l : Launch) (hl : l.stackTraces = false) (M : Mem) (v0 : Nat) (o : Mem) (ho : f_X2_init M v0 = some o) : Ct l yX2_init cX2_init 1 (none) rm_X2_init [.ref v0] M (none) o :=
  Ct.of hl (by decide +kernel) (Nat.le_of_ble_eq_true rfl) rfl (fun X hX hin => z_X2_init hX (hin rfl) M v0 o ho)
theorem okI_X2_init : okI yX2_init cX2_init 1 0 := ⟨rfl, q_230, q_92, q_231, by unfold okY; decide +kernel⟩
/-! ParticipatoryBudget$EqualShares.<init>()V -/
abbrev rm_X1_init : Room := { frames := 2, cells := 153, slots := 1527, locals := 33 }
set_option maxRecDepth 20000 in
set_option maxHeartbeats 4000000 in
theorem z_X1_init {X : Cxt} (hX : okX X cX1_init RX1 rm_X1_init (none) 1) (hin : inX X) (M : Mem) (v0 : Nat) : Zj X (fun o : Mem => Qr X rm_X1_init.cells rm_X1_init.slots (none) o) 0 0 0 [(0, .ref v0)] [] M (f_X1_init M v0) := by
  unfold f_X1_init
  refine z_aload_n hX 0 rfl rfl dX1_init_0 ?_
  refine z_oI hX dX1_init_1 q_181 q_114 q_115 (Nat.le_of_ble_eq_true rfl) (Nat.le_of_ble_eq_true rfl) ?_
  refine z_aload_n hX 0 rfl rfl dX1_init_4 ?_
  refine z_new 6 hX (by decide) rfl q_182 q_183 q_91 dX1_init_5 rfl rfl (Nat.le_of_ble_eq_true rfl) (Nat.le_of_ble_eq_true rfl) (fun o1 => ?_)
  refine z_dup hX rfl dX1_init_8 ?_
  refine z_cINm [] hX (fun l hl o ho => c_X6_init l hl o1.2 o1.1 o ho) dX1_init_9 nw_4 okI_X6_init rfl ⟨(Nat.le_of_ble_eq_true rfl), (Nat.le_of_ble_eq_true rfl)⟩ rfl (Nat.le_of_ble_eq_true rfl) rfl rfl ⟨(Nat.le_of_ble_eq_true rfl), (Nat.le_of_ble_eq_true rfl)⟩ (fun o2 => ?_)
  refine z_pFR 1 0 hX (by decide) rfl (by decide) rfl q_255 rfl pd_3 rfl rfl dX1_init_12 (fun M3 => ?_)
  refine z_aload_n hX 0 rfl rfl dX1_init_15 ?_
  refine z_new 6 hX (by decide) rfl q_182 q_183 q_91 dX1_init_16 rfl rfl (Nat.le_of_ble_eq_true rfl) (Nat.le_of_ble_eq_true rfl) (fun o4 => ?_)
  refine z_dup hX rfl dX1_init_19 ?_
  refine z_cINm [] hX (fun l hl o ho => c_X6_init l hl o4.2 o4.1 o ho) dX1_init_20 nw_4 okI_X6_init rfl ⟨(Nat.le_of_ble_eq_true rfl), (Nat.le_of_ble_eq_true rfl)⟩ rfl (Nat.le_of_ble_eq_true rfl) rfl rfl ⟨(Nat.le_of_ble_eq_true rfl), (Nat.le_of_ble_eq_true rfl)⟩ (fun o5 => ?_)
  refine z_pFR 1 1 hX (by decide) rfl (by decide) rfl q_257 rfl pd_3 rfl rfl dX1_init_23 (fun M6 => ?_)
  refine z_aload_n hX 0 rfl rfl dX1_init_26 ?_
  refine z_new 2 hX (by decide) rfl q_227 q_228 q_92 dX1_init_27 rfl rfl (Nat.le_of_ble_eq_true rfl) (Nat.le_of_ble_eq_true rfl) (fun o7 => ?_)
  refine z_dup hX rfl dX1_init_30 ?_
  refine z_cINm [] hX (fun l hl o ho => c_X2_init l hl o7.2 o7.1 o ho) dX1_init_31 nw_5 okI_X2_init rfl ⟨(Nat.le_of_ble_eq_true rfl), (Nat.le_of_ble_eq_true rfl)⟩ rfl (Nat.le_of_ble_eq_true rfl) rfl rfl ⟨(Nat.le_of_ble_eq_true rfl), (Nat.le_of_ble_eq_true rfl)⟩ (fun o8 => ?_)
  refine z_pFRf 1 2 hX hin (by decide) rfl (by decide) rfl q_258 rfl rfl pd_4 rfl rfl dX1_init_34 (fun M9 => ?_)
  refine z_aload_n hX 0 rfl rfl dX1_init_37 ?_
  refine z_bipush (v := 12) hX (by decide) dX1_init_38 ?_
  refine z_newA (aty := .int) 20 12 hX (Or.inl ⟨rfl, rfl⟩) q_175 (by decide) (by decide) (by decide) dX1_init_40 rfl rfl (Nat.le_of_ble_eq_true rfl) (Nat.le_of_ble_eq_true rfl) (fun o10 => ?_)
  refine z_pFRf 1 3 hX hin (by decide) rfl (by decide) rfl q_260 rfl rfl pd_0 rfl rfl dX1_init_42 (fun M11 => ?_)
  exact z_vretM hX dX1_init_45 (Nat.le_of_ble_eq_true rfl) (Nat.le_of_ble_eq_true rfl)
theorem c_X1_init (l : Launch) (hl : l.stackTraces = false) (M : Mem) (v0 : Nat) (o : Mem) (ho : f_X1_init M v0 = some o) : Ct l yX1_init cX1_init 1 (none) rm_X1_init [.ref v0] M (none) o :=
  Ct.of hl (by decide +kernel) (Nat.le_of_ble_eq_true rfl) rfl (fun X hX hin => z_X1_init hX (hin rfl) M v0 o ho)
theorem okI_X1_init : okI yX1_init cX1_init 1 0 := ⟨rfl, q_179, q_90, q_180, by unfold okY; decide +kernel⟩
/-! java/util/Arrays.fill([II)V -/
abbrev rm_J7_fill_53178 : Room := { frames := 0, cells := 0, slots := 0, locals := 0 }
set_option maxRecDepth 20000 in
set_option maxHeartbeats 4000000 in
theorem z_J7_fill_53178 {X : Cxt} (hX : okX X cJ7_fill_53178 RJ7 rm_J7_fill_53178 (none) 4) (M : Mem) (v0 : Nat) (v1 : Int32) : Zj X (fun o : Mem => Qr X rm_J7_fill_53178.cells rm_J7_fill_53178.slots (none) o) 0 0 0 [(0, .ref v0), (1, .int v1)] [] M (f_J7_fill_53178 M v0 v1) := by
  unfold f_J7_fill_53178
  refine z_iconst (v := 0) hX (by decide) dJ7_fill_53178_0 ?_
  refine z_istore_n hX [(2, .int 0), (0, .ref v0), (1, .int v1)] rfl (by decide) rfl dJ7_fill_53178_1 ?_
  refine z_aload_n hX 1 rfl rfl dJ7_fill_53178_2 ?_
  refine z_aN hX dJ7_fill_53178_3 (fun x1 => ?_)
  refine z_istore_n hX [(3, .int x1), (2, .int 0), (0, .ref v0), (1, .int v1)] rfl (by decide) rfl dJ7_fill_53178_4 ?_
  refine z_sub [2, 3, 1, 0] rfl ?_
  refine z_lp (x0 := (0, M)) (bd_J7_fill_53178_5 v0 v1 x1) 5 20 (fun (u2 : Int32 × Mem) => [(0, .ref v0), (1, .int v1), (2, .int u2.1), (3, .int x1)]) (fun (e3 : Int32 × Mem) => []) (fun (u2 : Int32 × Mem) => u2.2) ?_ ?_
  · intro e3
    exact z_vretM hX dJ7_fill_53178_20 (Nat.le_of_ble_eq_true rfl) (Nat.le_of_ble_eq_true rfl)
  · intro kk4 rc5 hkk4 hrc5 u2
    unfold bd_J7_fill_53178_5
    refine z_iload_n hX 2 rfl rfl dJ7_fill_53178_5 ?_
    refine z_iload_n hX 3 rfl rfl dJ7_fill_53178_6 ?_
    refine z_icmp_ge hX 20 (by decide) dJ7_fill_53178_7 (fun _ => ?_) (fun _ => ?_)
    · refine z_sub [] rfl ?_
      exact hkk4 (u2.1, u2.2)
    · refine z_aload_n hX 0 rfl rfl dJ7_fill_53178_10 ?_
      refine z_iload_n hX 2 rfl rfl dJ7_fill_53178_11 ?_
      refine z_iload_n hX 1 rfl rfl dJ7_fill_53178_12 ?_
      refine z_wI hX dJ7_fill_53178_13 (fun M6 => ?_)
      refine z_iinc hX 2 [(2, .int (u2.1 + 1)), (0, .ref v0), (1, .int v1), (3, .int x1)] rfl rfl (by decide) rfl dJ7_fill_53178_14 ?_
      refine z_goto hX 5 (by decide) dJ7_fill_53178_17 ?_
      refine z_sub [1, 2, 0, 3] rfl ?_
      exact hrc5 (u2.1 + 1, M6)
theorem c_J7_fill_53178 (l : Launch) (hl : l.stackTraces = false) (M : Mem) (v0 : Nat) (v1 : Int32) (o : Mem) (ho : f_J7_fill_53178 M v0 v1 = some o) : Ct l yJ7_fill_53178 cJ7_fill_53178 4 (none) rm_J7_fill_53178 [.ref v0, .int v1] M (none) o :=
  Ct.of hl (by decide +kernel) (Nat.le_of_ble_eq_true rfl) rfl (fun X hX hin => z_J7_fill_53178 hX M v0 v1 o ho)
theorem okS_J7_fill_53178 : okS yJ7_fill_53178 cJ7_fill_53178 4 (none) 2 := ⟨q_679, q_106, q_680, by unfold okY; decide +kernel⟩
/-! ParticipatoryBudget$Rounds.clear()V -/
abbrev rm_X6_clear : Room := { frames := 1, cells := 0, slots := 0, locals := 23 }
set_option maxRecDepth 20000 in
set_option maxHeartbeats 4000000 in
theorem z_X6_clear {X : Cxt} (hX : okX X cX6_clear RX6 rm_X6_clear (none) 2) (M : Mem) (v0 : Nat) : Zj X (fun o : Mem => Qr X rm_X6_clear.cells rm_X6_clear.slots (none) o) 0 0 0 [(0, .ref v0)] [] M (f_X6_clear M v0) := by
  unfold f_X6_clear
  refine z_aload_n hX 0 rfl rfl dX6_clear_0 ?_
  refine z_iconst (v := 0) hX (by decide) dX6_clear_1 ?_
  refine z_pFI 6 7 hX (by decide) rfl (by decide) rfl q_203 rfl pd_1 rfl rfl dX6_clear_2 (fun M1 => ?_)
  refine z_aload_n hX 0 rfl rfl dX6_clear_5 ?_
  refine z_iconst (v := 0) hX (by decide) dX6_clear_6 ?_
  refine z_pFI 6 8 hX (by decide) rfl (by decide) rfl q_207 rfl pd_1 rfl rfl dX6_clear_7 (fun M2 => ?_)
  refine z_iconst (v := 0) hX (by decide) dX6_clear_10 ?_
  refine z_istore_n hX [(1, .int 0), (0, .ref v0)] rfl (by decide) rfl dX6_clear_11 ?_
  refine z_sub [1, 0] rfl ?_
  refine z_lp (x0 := (0, M2)) (bd_X6_clear_12 v0) 12 44 (fun (u3 : Int32 × Mem) => [(0, .ref v0), (1, .int u3.1)]) (fun (e4 : Int32 × Mem) => []) (fun (u3 : Int32 × Mem) => u3.2) ?_ ?_
  · intro e4
    exact z_vretM hX dX6_clear_44 (Nat.le_of_ble_eq_true rfl) (Nat.le_of_ble_eq_true rfl)
  · intro kk5 rc6 hkk5 hrc6 u3
    unfold bd_X6_clear_12
    refine z_iload_n hX 1 rfl rfl dX6_clear_12 ?_
    refine z_bipush (v := 12) hX (by decide) dX6_clear_13 ?_
    refine z_icmp_ge hX 44 (by decide) dX6_clear_15 (fun _ => ?_) (fun _ => ?_)
    · refine z_sub [] rfl ?_
      exact hkk5 (u3.1, u3.2)
    · refine z_aload_n hX 0 rfl rfl dX6_clear_18 ?_
      refine z_gFR 6 1 hX (by decide) rfl (by decide) rfl q_192 dX6_clear_19 (fun r7 => ?_)
      refine z_iload_n hX 1 rfl rfl dX6_clear_22 ?_
      refine z_aR hX dX6_clear_23 (fun r8 => ?_)
      refine z_iconst (v := 0) hX (by decide) dX6_clear_24 ?_
      refine z_cSVm [.ref r8, .int 0] hX (fun l hl o ho => c_J7_fill_53178 l hl u3.2 r8 0 o ho) dX6_clear_25 q_678 okS_J7_fill_53178 rfl ⟨(Nat.le_of_ble_eq_true rfl), (Nat.le_of_ble_eq_true rfl)⟩ rfl (Nat.le_of_ble_eq_true rfl) rfl rfl ⟨(Nat.le_of_ble_eq_true rfl), (Nat.le_of_ble_eq_true rfl)⟩ (fun o9 => ?_)
      refine z_aload_n hX 0 rfl rfl dX6_clear_28 ?_
      refine z_gFR 6 2 hX (by decide) rfl (by decide) rfl q_194 dX6_clear_29 (fun r10 => ?_)
      refine z_iload_n hX 1 rfl rfl dX6_clear_32 ?_
      refine z_aR hX dX6_clear_33 (fun r11 => ?_)
      refine z_iconst (v := 0) hX (by decide) dX6_clear_34 ?_
      refine z_cSVm [.ref r11, .int 0] hX (fun l hl o ho => c_J7_fill_53178 l hl o9 r11 0 o ho) dX6_clear_35 q_678 okS_J7_fill_53178 rfl ⟨(Nat.le_of_ble_eq_true rfl), (Nat.le_of_ble_eq_true rfl)⟩ rfl (Nat.le_of_ble_eq_true rfl) rfl rfl ⟨(Nat.le_of_ble_eq_true rfl), (Nat.le_of_ble_eq_true rfl)⟩ (fun o12 => ?_)
      refine z_iinc hX 1 [(1, .int (u3.1 + 1)), (0, .ref v0)] rfl rfl (by decide) rfl dX6_clear_38 ?_
      refine z_goto hX 12 (by decide) dX6_clear_41 ?_
      refine z_sub [1, 0] rfl ?_
      exact hrc6 (u3.1 + 1, o12)
theorem c_X6_clear (l : Launch) (hl : l.stackTraces = false) (M : Mem) (v0 : Nat) (o : Mem) (ho : f_X6_clear M v0 = some o) : Ct l yX6_clear cX6_clear 2 (none) rm_X6_clear [.ref v0] M (none) o :=
  Ct.of hl (by decide +kernel) (Nat.le_of_ble_eq_true rfl) rfl (fun X hX hin => z_X6_clear hX M v0 o ho)
theorem okV_X6_clear : okV yX6_clear cX6_clear 2 (none) 0 := ⟨q_676, q_5, q_91, q_677, by unfold okY; decide +kernel⟩
/-! ParticipatoryBudget$Rounds.fillPurses(LParticipatoryBudget$Ballot;I)V -/
abbrev rm_X6_fillPurses : Room := { frames := 2, cells := 0, slots := 0, locals := 44 }
set_option maxRecDepth 20000 in
set_option maxHeartbeats 4000000 in
theorem z_X6_fillPurses {X : Cxt} (hX : okX X cX6_fillPurses RX6 rm_X6_fillPurses (none) 6) (M : Mem) (v0 : Nat) (v1 : Nat) (v2 : Int32) : Zj X (fun o : Mem => Qr X rm_X6_fillPurses.cells rm_X6_fillPurses.slots (none) o) 0 0 0 [(0, .ref v0), (1, .ref v1), (2, .int v2)] [] M (f_X6_fillPurses M v0 v1 v2) := by
  unfold f_X6_fillPurses
  refine z_iconst (v := 0) hX (by decide) dX6_fillPurses_0 ?_
  refine z_istore_n hX [(3, .int 0), (0, .ref v0), (1, .ref v1), (2, .int v2)] rfl (by decide) rfl dX6_fillPurses_1 ?_
  refine z_sub [1, 2, 3, 0] rfl ?_
  refine z_lp (x0 := (0, M)) (bd_X6_fillPurses_2 v0 v1 v2) 2 79 (fun (u1 : Int32 × Mem) => [(0, .ref v0), (1, .ref v1), (2, .int v2), (3, .int u1.1)]) (fun (e2 : Int32 × Mem) => []) (fun (u1 : Int32 × Mem) => u1.2) ?_ ?_
  · intro e2
    exact z_vretM hX dX6_fillPurses_79 (Nat.le_of_ble_eq_true rfl) (Nat.le_of_ble_eq_true rfl)
  · intro kk3 rc4 hkk3 hrc4 u1
    unfold bd_X6_fillPurses_2
    refine z_iload_n hX 3 rfl rfl dX6_fillPurses_2 ?_
    refine z_aload_n hX 1 rfl rfl dX6_fillPurses_3 ?_
    refine z_gFI 0 0 hX (by decide) rfl (by decide) rfl q_321 dX6_fillPurses_4 (fun x5 => ?_)
    refine z_icmp_ge hX 79 (by decide) dX6_fillPurses_7 (fun _ => ?_) (fun _ => ?_)
    · refine z_sub [] rfl ?_
      exact hkk3 (u1.1, u1.2)
    · refine z_aload_n hX 1 rfl rfl dX6_fillPurses_10 ?_
      refine z_iload_n hX 3 rfl rfl dX6_fillPurses_11 ?_
      refine z_cVIp 0 [.int u1.1] hX (fun l hl o ho => c_X0_memberWeight l hl u1.2 v1 u1.1 o ho) dX6_fillPurses_12 (by decide) rfl rfl q_685 okV_X0_memberWeight rfl ⟨(Nat.le_of_ble_eq_true rfl), (Nat.le_of_ble_eq_true rfl)⟩ rfl (Nat.le_of_ble_eq_true rfl) rfl rfl ⟨(Nat.le_of_ble_eq_true rfl), (Nat.le_of_ble_eq_true rfl)⟩ (fun o6 => ?_)
      refine z_istore hX [(4, .int o6), (0, .ref v0), (1, .ref v1), (2, .int v2), (3, .int u1.1)] (by decide) rfl dX6_fillPurses_15 ?_
      refine z_iconst (v := 0) hX (by decide) dX6_fillPurses_17 ?_
      refine z_istore hX [(5, .int 0), (4, .int o6), (0, .ref v0), (1, .ref v1), (2, .int v2), (3, .int u1.1)] (by decide) rfl dX6_fillPurses_18 ?_
      refine z_sub [2, 3, 4, 5, 1, 0] rfl ?_
      refine z_lp (x0 := (0, u1.2)) (bd_X6_fillPurses_20 v0 v1 v2 u1 o6) 20 73 (fun (u7 : Int32 × Mem) => [(0, .ref v0), (1, .ref v1), (2, .int v2), (3, .int u1.1), (4, .int o6), (5, .int u7.1)]) (fun (e8 : Int32 × Mem) => [(0, .ref v0), (1, .ref v1), (2, .int v2), (3, .int u1.1)]) (fun (u7 : Int32 × Mem) => u7.2) ?_ ?_
      · intro e8
        refine z_iinc hX 3 [(3, .int (u1.1 + 1)), (0, .ref v0), (1, .ref v1), (2, .int v2)] rfl rfl (by decide) rfl dX6_fillPurses_73 ?_
        refine z_goto hX 2 (by decide) dX6_fillPurses_76 ?_
        refine z_sub [1, 2, 3, 0] rfl ?_
        exact hrc4 (u1.1 + 1, e8.2)
      · intro kk9 rc10 hkk9 hrc10 u7
        unfold bd_X6_fillPurses_20
        refine z_iload hX 5 rfl dX6_fillPurses_20 ?_
        refine z_aload_n hX 1 rfl rfl dX6_fillPurses_22 ?_
        refine z_gFI 0 2 hX (by decide) rfl (by decide) rfl q_332 dX6_fillPurses_23 (fun x11 => ?_)
        refine z_icmp_ge hX 73 (by decide) dX6_fillPurses_26 (fun _ => ?_) (fun _ => ?_)
        · refine z_sub [0, 1, 2, 3] rfl ?_
          exact hkk9 (u7.1, u7.2)
        · refine z_aload_n hX 0 rfl rfl dX6_fillPurses_29 ?_
          refine z_gFR 6 0 hX (by decide) rfl (by decide) rfl q_190 dX6_fillPurses_30 (fun r12 => ?_)
          refine z_iload hX 5 rfl dX6_fillPurses_33 ?_
          refine z_aR hX dX6_fillPurses_35 (fun r13 => ?_)
          refine z_iload_n hX 3 rfl rfl dX6_fillPurses_36 ?_
          refine z_aload_n hX 1 rfl rfl dX6_fillPurses_37 ?_
          refine z_gFR 0 9 hX (by decide) rfl (by decide) rfl q_367 dX6_fillPurses_38 (fun r14 => ?_)
          refine z_iload hX 5 rfl dX6_fillPurses_41 ?_
          refine z_aI hX dX6_fillPurses_43 (fun x15 => ?_)
          refine z_iload_n hX 3 rfl rfl dX6_fillPurses_44 ?_
          refine z_cSNIp [.int x15, .int u1.1] hX (fun l hl o ho => c_X8_has l hl u7.2 x15 u1.1 o ho) dX6_fillPurses_45 nw_15 okS_X8_has rfl ⟨(Nat.le_of_ble_eq_true rfl), (Nat.le_of_ble_eq_true rfl)⟩ rfl (Nat.le_of_ble_eq_true rfl) rfl rfl ⟨(Nat.le_of_ble_eq_true rfl), (Nat.le_of_ble_eq_true rfl)⟩ (fun o16 => ?_)
          refine z_jn (C' := 0) (S' := 0) 66 (fun (j17 : Int32) => [(0, .ref v0), (1, .ref v1), (2, .int v2), (3, .int u1.1), (4, .int o6), (5, .int u7.1)]) (fun (j17 : Int32) => [.int j17, .int u1.1, .ref r13]) (fun (j17 : Int32) => u7.2) (fun j17 => ?_) (fun kj17 => ?_)
          · refine z_wI hX dX6_fillPurses_66 (fun M18 => ?_)
            refine z_iinc hX 5 [(5, .int (u7.1 + 1)), (0, .ref v0), (1, .ref v1), (2, .int v2), (3, .int u1.1), (4, .int o6)] rfl rfl (by decide) rfl dX6_fillPurses_67 ?_
            refine z_goto hX 20 (by decide) dX6_fillPurses_70 ?_
            refine z_sub [1, 2, 3, 4, 5, 0] rfl ?_
            exact hrc10 (u7.1 + 1, M18)
          · refine z_iteB ?_
            refine z_if_eq hX 65 (by decide) dX6_fillPurses_48 (fun _ => ?_) (fun _ => ?_)
            · refine z_iconst (v := 0) hX (by decide) dX6_fillPurses_65 ?_
              refine z_pure ?_
              refine z_sub [0, 1, 2, 3, 4, 5] rfl ?_
              exact kj17 0
            · refine z_aload_n hX 1 rfl rfl dX6_fillPurses_51 ?_
              refine z_iload hX 5 rfl dX6_fillPurses_52 ?_
              refine z_iload_n hX 3 rfl rfl dX6_fillPurses_54 ?_
              refine z_iload hX 4 rfl dX6_fillPurses_55 ?_
              refine z_asc ?_
              refine z_asc2 ?_
              refine z_cVIp 0 [.int u7.1, .int u1.1, .int o6] hX (fun l hl o ho => c_X0_share l hl u7.2 v1 u7.1 u1.1 o6 o ho) dX6_fillPurses_57 (by decide) rfl rfl q_690 okV_X0_share rfl ⟨(Nat.le_of_ble_eq_true rfl), (Nat.le_of_ble_eq_true rfl)⟩ rfl (Nat.le_of_ble_eq_true rfl) rfl rfl ⟨(Nat.le_of_ble_eq_true rfl), (Nat.le_of_ble_eq_true rfl)⟩ (fun o19 => ?_)
              refine z_iload_n hX 2 rfl rfl dX6_fillPurses_60 ?_
              refine z_iadd hX dX6_fillPurses_61 ?_
              refine z_goto hX 66 (by decide) dX6_fillPurses_62 ?_
              refine z_pure ?_
              refine z_sub [0, 1, 2, 3, 4, 5] rfl ?_
              exact kj17 (o19 + v2)
theorem c_X6_fillPurses (l : Launch) (hl : l.stackTraces = false) (M : Mem) (v0 : Nat) (v1 : Nat) (v2 : Int32) (o : Mem) (ho : f_X6_fillPurses M v0 v1 v2 = some o) : Ct l yX6_fillPurses cX6_fillPurses 6 (none) rm_X6_fillPurses [.ref v0, .ref v1, .int v2] M (none) o :=
  Ct.of hl (by decide +kernel) (Nat.le_of_ble_eq_true rfl) rfl (fun X hX hin => z_X6_fillPurses hX M v0 v1 v2 o ho)
theorem okV_X6_fillPurses : okV yX6_fillPurses cX6_fillPurses 6 (none) 2 := ⟨q_683, q_6, q_91, q_684, by unfold okY; decide +kernel⟩
/-! ParticipatoryBudget$Rounds.means(II)I -/
abbrev rm_X6_means : Room := { frames := 0, cells := 0, slots := 0, locals := 0 }
set_option maxRecDepth 20000 in
set_option maxHeartbeats 4000000 in
theorem z_X6_means {X : Cxt} (hX : okX X cX6_means RX6 rm_X6_means (some .int) 5) (M : Mem) (v0 : Nat) (v1 : Int32) (v2 : Int32) : Zj X (fun o : Int32 => Qr X rm_X6_means.cells rm_X6_means.slots (some (.int o)) M) 0 0 0 [(0, .ref v0), (1, .int v1), (2, .int v2)] [] M (f_X6_means M v0 v1 v2) := by
  unfold f_X6_means
  refine z_iconst (v := 0) hX (by decide) dX6_means_0 ?_
  refine z_istore_n hX [(3, .int 0), (0, .ref v0), (1, .int v1), (2, .int v2)] rfl (by decide) rfl dX6_means_1 ?_
  refine z_iconst (v := 0) hX (by decide) dX6_means_2 ?_
  refine z_istore hX [(4, .int 0), (3, .int 0), (0, .ref v0), (1, .int v1), (2, .int v2)] (by decide) rfl dX6_means_3 ?_
  refine z_sub [2, 3, 4, 1, 0] rfl ?_
  refine z_lp (x0 := (0, 0)) (bd_X6_means_5 M v0 v1 v2) 5 36 (fun (u1 : Int32 × Int32) => [(0, .ref v0), (1, .int v1), (2, .int v2), (3, .int u1.1), (4, .int u1.2)]) (fun (e2 : Int32 × Int32) => [(3, .int e2.1)]) (fun (u1 : Int32 × Int32) => M) ?_ ?_
  · intro e2
    refine z_iload_n hX 0 rfl rfl dX6_means_36 ?_
    exact z_iretP hX dX6_means_37 (Nat.le_of_ble_eq_true rfl) (Nat.le_of_ble_eq_true rfl)
  · intro kk3 rc4 hkk3 hrc4 u1
    unfold bd_X6_means_5
    refine z_iload hX 4 rfl dX6_means_5 ?_
    refine z_iconst (v := 4) hX (by decide) dX6_means_7 ?_
    refine z_icmp_ge hX 36 (by decide) dX6_means_8 (fun _ => ?_) (fun _ => ?_)
    · refine z_sub [3] rfl ?_
      exact hkk3 (u1.1, u1.2)
    · refine z_iload_n hX 3 rfl rfl dX6_means_11 ?_
      refine z_aload_n hX 0 rfl rfl dX6_means_12 ?_
      refine z_gFR 6 0 hX (by decide) rfl (by decide) rfl q_190 dX6_means_13 (fun r5 => ?_)
      refine z_iload_n hX 1 rfl rfl dX6_means_16 ?_
      refine z_aR hX dX6_means_17 (fun r6 => ?_)
      refine z_iload hX 4 rfl dX6_means_18 ?_
      refine z_aI hX dX6_means_20 (fun x7 => ?_)
      refine z_iload_n hX 2 rfl rfl dX6_means_21 ?_
      refine z_iload hX 4 rfl dX6_means_22 ?_
      refine z_ishr hX dX6_means_24 ?_
      refine z_iconst (v := 1) hX (by decide) dX6_means_25 ?_
      refine z_iand hX dX6_means_26 ?_
      refine z_imul hX dX6_means_27 ?_
      refine z_iadd hX dX6_means_28 ?_
      refine z_ltI (fun x8 => ?_)
      refine z_istore_n hX [(3, .int x8), (0, .ref v0), (1, .int v1), (2, .int v2), (4, .int u1.2)] rfl (by decide) rfl dX6_means_29 ?_
      refine z_iinc hX 4 [(4, .int (u1.2 + 1)), (3, .int x8), (0, .ref v0), (1, .int v1), (2, .int v2)] rfl rfl (by decide) rfl dX6_means_30 ?_
      refine z_goto hX 5 (by decide) dX6_means_33 ?_
      refine z_sub [2, 3, 4, 1, 0] rfl ?_
      exact hrc4 (x8, u1.2 + 1)
theorem c_X6_means (l : Launch) (hl : l.stackTraces = false) (M : Mem) (v0 : Nat) (v1 : Int32) (v2 : Int32) (o : Int32) (ho : f_X6_means M v0 v1 v2 = some o) : Ct l yX6_means cX6_means 5 (some .int) rm_X6_means [.ref v0, .int v1, .int v2] M (some (.int o)) M :=
  Ct.of hl (by decide +kernel) (Nat.le_of_ble_eq_true rfl) rfl (fun X hX hin => z_X6_means hX M v0 v1 v2 o ho)
theorem okV_X6_means : okV yX6_means cX6_means 5 (some .int) 2 := ⟨q_703, q_704, q_91, q_705, by unfold okY; decide +kernel⟩
/-! ParticipatoryBudget$Rounds.weigh(LParticipatoryBudget$Ballot;I)I -/
abbrev rm_X6_weigh : Room := { frames := 1, cells := 0, slots := 0, locals := 24 }
set_option maxRecDepth 20000 in
set_option maxHeartbeats 4000000 in
theorem z_X6_weigh {X : Cxt} (hX : okX X cX6_weigh RX6 rm_X6_weigh (some .int) 6) (M : Mem) (v0 : Nat) (v1 : Nat) (v2 : Int32) : Zj X (fun o : Int32 × Mem => Qr X rm_X6_weigh.cells rm_X6_weigh.slots (some (.int o.1)) o.2) 0 0 0 [(0, .ref v0), (1, .ref v1), (2, .int v2)] [] M (f_X6_weigh M v0 v1 v2) := by
  unfold f_X6_weigh
  refine z_iconst (v := 0) hX (by decide) dX6_weigh_0 ?_
  refine z_istore_n hX [(3, .int 0), (0, .ref v0), (1, .ref v1), (2, .int v2)] rfl (by decide) rfl dX6_weigh_1 ?_
  refine z_iconst (v := 0) hX (by decide) dX6_weigh_2 ?_
  refine z_istore hX [(4, .int 0), (3, .int 0), (0, .ref v0), (1, .ref v1), (2, .int v2)] (by decide) rfl dX6_weigh_3 ?_
  refine z_sub [2, 3, 4, 1, 0] rfl ?_
  refine z_lp (x0 := (0, 0, M)) (bd_X6_weigh_5 v0 v1 v2) 5 94 (fun (u1 : Int32 × Int32 × Mem) => [(0, .ref v0), (1, .ref v1), (2, .int v2), (3, .int u1.1), (4, .int u1.2.1)]) (fun (e2 : Int32 × Int32 × Mem) => [(3, .int e2.1)]) (fun (u1 : Int32 × Int32 × Mem) => u1.2.2) ?_ ?_
  · intro e2
    refine z_iload_n hX 0 rfl rfl dX6_weigh_94 ?_
    exact z_iretM hX dX6_weigh_95 (Nat.le_of_ble_eq_true rfl) (Nat.le_of_ble_eq_true rfl)
  · intro kk3 rc4 hkk3 hrc4 u1
    unfold bd_X6_weigh_5
    refine z_iload hX 4 rfl dX6_weigh_5 ?_
    refine z_aload_n hX 1 rfl rfl dX6_weigh_7 ?_
    refine z_gFI 0 2 hX (by decide) rfl (by decide) rfl q_332 dX6_weigh_8 (fun x5 => ?_)
    refine z_icmp_ge hX 94 (by decide) dX6_weigh_11 (fun _ => ?_) (fun _ => ?_)
    · refine z_sub [3] rfl ?_
      exact hkk3 (u1.1, u1.2.1, u1.2.2)
    · refine z_aload_n hX 1 rfl rfl dX6_weigh_14 ?_
      refine z_gFR 0 12 hX (by decide) rfl (by decide) rfl q_382 dX6_weigh_15 (fun r6 => ?_)
      refine z_iload_n hX 2 rfl rfl dX6_weigh_18 ?_
      refine z_aI hX dX6_weigh_19 (fun x7 => ?_)
      refine z_iload hX 4 rfl dX6_weigh_20 ?_
      refine z_cSNIp [.int x7, .int u1.2.1] hX (fun l hl o ho => c_X8_has l hl u1.2.2 x7 u1.2.1 o ho) dX6_weigh_22 nw_15 okS_X8_has rfl ⟨(Nat.le_of_ble_eq_true rfl), (Nat.le_of_ble_eq_true rfl)⟩ rfl (Nat.le_of_ble_eq_true rfl) rfl rfl ⟨(Nat.le_of_ble_eq_true rfl), (Nat.le_of_ble_eq_true rfl)⟩ (fun o8 => ?_)
      refine z_istore hX [(5, .int o8), (0, .ref v0), (1, .ref v1), (2, .int v2), (3, .int u1.1), (4, .int u1.2.1)] (by decide) rfl dX6_weigh_25 ?_
      refine z_aload_n hX 1 rfl rfl dX6_weigh_27 ?_
      refine z_gFR 6 5 hX (by decide) rfl (by decide) rfl q_201 dX6_weigh_28 (fun r9 => ?_)
      refine z_iload hX 5 rfl dX6_weigh_31 ?_
      refine z_iload hX 0 rfl dX6_weigh_33 ?_
      refine z_jn (C' := 0) (S' := 0) 49 (fun (j10 : Int32) => [(0, .ref v0), (1, .ref v1), (2, .int v2), (3, .int u1.1), (4, .int u1.2.1), (5, .int o8)]) (fun (j10 : Int32) => [.int j10, .int u1.2.1, .ref r9]) (fun (j10 : Int32) => u1.2.2) (fun j10 => ?_) (fun kj10 => ?_)
      · refine z_wI hX dX6_weigh_49 (fun M11 => ?_)
        refine z_aload_n hX 0 rfl rfl dX6_weigh_50 ?_
        refine z_gFR 6 6 hX (by decide) rfl (by decide) rfl q_202 dX6_weigh_51 (fun r12 => ?_)
        refine z_iload hX 4 rfl dX6_weigh_54 ?_
        refine z_iload hX 5 rfl dX6_weigh_56 ?_
        refine z_jn (C' := 0) (S' := 0) 77 (fun (j13 : Int32) => [(0, .ref v0), (1, .ref v1), (2, .int v2), (3, .int u1.1), (4, .int u1.2.1)]) (fun (j13 : Int32) => [.int j13, .int u1.2.1, .ref r12]) (fun (j13 : Int32) => M11) (fun j13 => ?_) (fun kj13 => ?_)
        · refine z_wI hX dX6_weigh_77 (fun M14 => ?_)
          refine z_iload_n hX 3 rfl rfl dX6_weigh_78 ?_
          refine z_aload_n hX 0 rfl rfl dX6_weigh_79 ?_
          refine z_gFR 6 6 hX (by decide) rfl (by decide) rfl q_202 dX6_weigh_80 (fun r15 => ?_)
          refine z_iload hX 4 rfl dX6_weigh_83 ?_
          refine z_aI hX dX6_weigh_85 (fun x16 => ?_)
          refine z_iadd hX dX6_weigh_86 ?_
          refine z_ltI (fun x17 => ?_)
          refine z_istore_n hX [(3, .int x17), (0, .ref v0), (1, .ref v1), (2, .int v2), (4, .int u1.2.1)] rfl (by decide) rfl dX6_weigh_87 ?_
          refine z_iinc hX 4 [(4, .int (u1.2.1 + 1)), (3, .int x17), (0, .ref v0), (1, .ref v1), (2, .int v2)] rfl rfl (by decide) rfl dX6_weigh_88 ?_
          refine z_goto hX 5 (by decide) dX6_weigh_91 ?_
          refine z_sub [2, 3, 4, 1, 0] rfl ?_
          exact hrc4 (x17, u1.2.1 + 1, M14)
        · refine z_iteB ?_
          refine z_if_eq hX 76 (by decide) dX6_weigh_58 (fun _ => ?_) (fun _ => ?_)
          · refine z_iconst (v := 0) hX (by decide) dX6_weigh_76 ?_
            refine z_pure ?_
            refine z_sub [0, 1, 2, 3, 4] rfl ?_
            exact kj13 0
          · refine z_aload_n hX 0 rfl rfl dX6_weigh_61 ?_
            refine z_iload hX 4 rfl dX6_weigh_62 ?_
            refine z_aload_n hX 1 rfl rfl dX6_weigh_64 ?_
            refine z_asc ?_
            refine z_gFR 0 7 hX (by decide) rfl (by decide) rfl q_359 dX6_weigh_65 (fun r18 => ?_)
            refine z_iload_n hX 2 rfl rfl dX6_weigh_68 ?_
            refine z_asc ?_
            refine z_aI hX dX6_weigh_69 (fun x19 => ?_)
            refine z_asc ?_
            refine z_asc2 ?_
            refine z_cVIp 6 [.int u1.2.1, .int x19] hX (fun l hl o ho => c_X6_means l hl M11 v0 u1.2.1 x19 o ho) dX6_weigh_70 (by decide) rfl rfl q_702 okV_X6_means rfl ⟨(Nat.le_of_ble_eq_true rfl), (Nat.le_of_ble_eq_true rfl)⟩ rfl (Nat.le_of_ble_eq_true rfl) rfl rfl ⟨(Nat.le_of_ble_eq_true rfl), (Nat.le_of_ble_eq_true rfl)⟩ (fun o20 => ?_)
            refine z_goto hX 77 (by decide) dX6_weigh_73 ?_
            refine z_pure ?_
            refine z_sub [0, 1, 2, 3, 4] rfl ?_
            exact kj13 o20
      · refine z_iteB ?_
        refine z_if_eq hX 48 (by decide) dX6_weigh_35 (fun _ => ?_) (fun _ => ?_)
        · refine z_iconst (v := 0) hX (by decide) dX6_weigh_48 ?_
          refine z_pure ?_
          refine z_sub [1, 2, 3, 4, 5, 0] rfl ?_
          exact kj10 0
        · refine z_aload_n hX 2 rfl rfl dX6_weigh_38 ?_
          refine z_asc ?_
          refine z_gFR 0 8 hX (by decide) rfl (by decide) rfl q_364 dX6_weigh_39 (fun r21 => ?_)
          refine z_iload hX 5 rfl dX6_weigh_42 ?_
          refine z_asc ?_
          refine z_aI hX dX6_weigh_44 (fun x22 => ?_)
          refine z_goto hX 49 (by decide) dX6_weigh_45 ?_
          refine z_pure ?_
          refine z_sub [1, 2, 3, 4, 5, 0] rfl ?_
          exact kj10 x22
theorem c_X6_weigh (l : Launch) (hl : l.stackTraces = false) (M : Mem) (v0 : Nat) (v1 : Nat) (v2 : Int32) (o : Int32 × Mem) (ho : f_X6_weigh M v0 v1 v2 = some o) : Ct l yX6_weigh cX6_weigh 6 (some .int) rm_X6_weigh [.ref v0, .ref v1, .int v2] M (some (.int o.1)) o.2 :=
  Ct.of hl (by decide +kernel) (Nat.le_of_ble_eq_true rfl) rfl (fun X hX hin => z_X6_weigh hX M v0 v1 v2 o ho)
theorem okV_X6_weigh : okV yX6_weigh cX6_weigh 6 (some .int) 2 := ⟨q_700, q_8, q_91, q_701, by unfold okY; decide +kernel⟩
/-! ParticipatoryBudget$Rounds.leastPrice(LParticipatoryBudget$Ballot;I)I -/
abbrev rm_X6_leastPrice : Room := { frames := 0, cells := 0, slots := 0, locals := 0 }
set_option maxRecDepth 20000 in
set_option maxHeartbeats 4000000 in
theorem z_X6_leastPrice {X : Cxt} (hX : okX X cX6_leastPrice RX6 rm_X6_leastPrice (some .int) 8) (M : Mem) (v0 : Nat) (v1 : Nat) (v2 : Int32) : Zj X (fun o : Int32 => Qr X rm_X6_leastPrice.cells rm_X6_leastPrice.slots (some (.int o)) M) 0 0 0 [(0, .ref v0), (1, .ref v1), (2, .int v2)] [] M (f_X6_leastPrice M v0 v1 v2) := by
  unfold f_X6_leastPrice
  refine z_aload_n hX 1 rfl rfl dX6_leastPrice_0 ?_
  refine z_gFR 0 6 hX (by decide) rfl (by decide) rfl q_352 dX6_leastPrice_1 (fun r1 => ?_)
  refine z_iload_n hX 2 rfl rfl dX6_leastPrice_4 ?_
  refine z_aI hX dX6_leastPrice_5 (fun x2 => ?_)
  refine z_istore_n hX [(3, .int x2), (0, .ref v0), (1, .ref v1), (2, .int v2)] rfl (by decide) rfl dX6_leastPrice_6 ?_
  refine z_aload_n hX 2 rfl rfl dX6_leastPrice_7 ?_
  refine z_gFR 0 13 hX (by decide) rfl (by decide) rfl q_386 dX6_leastPrice_8 (fun r3 => ?_)
  refine z_iload_n hX 3 rfl rfl dX6_leastPrice_11 ?_
  refine z_aI hX dX6_leastPrice_12 (fun x4 => ?_)
  refine z_istore hX [(4, .int x4), (3, .int x2), (0, .ref v0), (1, .ref v1), (2, .int v2)] (by decide) rfl dX6_leastPrice_13 ?_
  refine z_iconst (v := 0) hX (by decide) dX6_leastPrice_15 ?_
  refine z_istore hX [(5, .int 0), (4, .int x4), (3, .int x2), (0, .ref v0), (1, .ref v1), (2, .int v2)] (by decide) rfl dX6_leastPrice_16 ?_
  refine z_iconst (v := 0) hX (by decide) dX6_leastPrice_18 ?_
  refine z_istore hX [(6, .int 0), (5, .int 0), (4, .int x4), (3, .int x2), (0, .ref v0), (1, .ref v1), (2, .int v2)] (by decide) rfl dX6_leastPrice_19 ?_
  refine z_sub [4, 5, 6, 3, 2, 1, 0] rfl ?_
  refine z_lp (x0 := (x2, x4, 0, 0)) (bd_X6_leastPrice_21 M v0 v1 v2) 21 135 (fun (u5 : Int32 × Int32 × Int32 × Int32) => [(0, .ref v0), (1, .ref v1), (2, .int v2), (3, .int u5.1), (4, .int u5.2.1), (5, .int u5.2.2.1), (6, .int u5.2.2.2)]) (fun (e6 : Int32 × Int32 × Int32 × Int32) => [(5, .int e6.2.2.1)]) (fun (u5 : Int32 × Int32 × Int32 × Int32) => M) ?_ ?_
  · intro e6
    refine z_iload hX 0 rfl dX6_leastPrice_135 ?_
    exact z_iretP hX dX6_leastPrice_137 (Nat.le_of_ble_eq_true rfl) (Nat.le_of_ble_eq_true rfl)
  · intro kk7 rc8 hkk7 hrc8 u5
    unfold bd_X6_leastPrice_21
    refine z_iload hX 6 rfl dX6_leastPrice_21 ?_
    refine z_bipush (v := 24) hX (by decide) dX6_leastPrice_23 ?_
    refine z_icmp_gt hX 135 (by decide) dX6_leastPrice_25 (fun _ => ?_) (fun _ => ?_)
    · refine z_sub [5] rfl ?_
      exact hkk7 (u5.1, u5.2.1, u5.2.2.1, u5.2.2.2)
    · refine z_iload hX 4 rfl dX6_leastPrice_28 ?_
      refine z_if_le hX 135 (by decide) dX6_leastPrice_30 (fun _ => ?_) (fun _ => ?_)
      · refine z_sub [5] rfl ?_
        exact hkk7 (u5.1, u5.2.1, u5.2.2.1, u5.2.2.2)
      · refine z_iload_n hX 3 rfl rfl dX6_leastPrice_33 ?_
        refine z_iload hX 4 rfl dX6_leastPrice_34 ?_
        refine z_iadd hX dX6_leastPrice_36 ?_
        refine z_iconst (v := 1) hX (by decide) dX6_leastPrice_37 ?_
        refine z_isub hX dX6_leastPrice_38 ?_
        refine z_iload hX 4 rfl dX6_leastPrice_39 ?_
        refine z_idiv hX dX6_leastPrice_41 (fun x9 => ?_)
        refine z_istore hX [(5, .int x9), (0, .ref v0), (1, .ref v1), (2, .int v2), (3, .int u5.1), (4, .int u5.2.1), (6, .int u5.2.2.2)] (by decide) rfl dX6_leastPrice_42 ?_
        refine z_aload_n hX 2 rfl rfl dX6_leastPrice_44 ?_
        refine z_gFR 0 6 hX (by decide) rfl (by decide) rfl q_352 dX6_leastPrice_45 (fun r10 => ?_)
        refine z_iload_n hX 3 rfl rfl dX6_leastPrice_48 ?_
        refine z_aI hX dX6_leastPrice_49 (fun x11 => ?_)
        refine z_istore_n hX [(3, .int x11), (5, .int x9), (0, .ref v0), (1, .ref v1), (2, .int v2), (4, .int u5.2.1), (6, .int u5.2.2.2)] rfl (by decide) rfl dX6_leastPrice_50 ?_
        refine z_iconst (v := 0) hX (by decide) dX6_leastPrice_51 ?_
        refine z_istore hX [(4, .int 0), (3, .int x11), (5, .int x9), (0, .ref v0), (1, .ref v1), (2, .int v2), (6, .int u5.2.2.2)] (by decide) rfl dX6_leastPrice_52 ?_
        refine z_iconst (v := 0) hX (by decide) dX6_leastPrice_54 ?_
        refine z_istore hX [(7, .int 0), (4, .int 0), (3, .int x11), (5, .int x9), (0, .ref v0), (1, .ref v1), (2, .int v2), (6, .int u5.2.2.2)] (by decide) rfl dX6_leastPrice_55 ?_
        refine z_sub [4, 5, 6, 2, 1, 3, 7, 0] rfl ?_
        refine z_lp (x0 := (x11, 0, 0)) (bd_X6_leastPrice_57 M v0 v1 x9) 57 117 (fun (u12 : Int32 × Int32 × Int32) => [(0, .ref v0), (1, .ref v1), (2, .int v2), (3, .int u12.1), (4, .int u12.2.1), (5, .int x9), (6, .int u5.2.2.2), (7, .int u12.2.2)]) (fun (e13 : Int32 × Int32 × Int32) => [(0, .ref v0), (1, .ref v1), (2, .int v2), (3, .int e13.1), (4, .int e13.2.1), (5, .int x9), (6, .int u5.2.2.2)]) (fun (u12 : Int32 × Int32 × Int32) => M) ?_ ?_
        · intro e13
          refine z_iload_n hX 3 rfl rfl dX6_leastPrice_117 ?_
          refine z_iload hX 5 rfl dX6_leastPrice_118 ?_
          refine z_iload hX 4 rfl dX6_leastPrice_120 ?_
          refine z_imul hX dX6_leastPrice_122 ?_
          refine z_icmp_gt hX 129 (by decide) dX6_leastPrice_123 (fun _ => ?_) (fun _ => ?_)
          · refine z_iinc hX 6 [(6, .int (u5.2.2.2 + 1)), (0, .ref v0), (1, .ref v1), (2, .int v2), (3, .int e13.1), (4, .int e13.2.1), (5, .int x9)] rfl rfl (by decide) rfl dX6_leastPrice_129 ?_
            refine z_goto hX 21 (by decide) dX6_leastPrice_132 ?_
            refine z_sub [1, 2, 3, 4, 5, 6, 0] rfl ?_
            exact hrc8 (e13.1, e13.2.1, x9, u5.2.2.2 + 1)
          · refine z_iload hX 5 rfl dX6_leastPrice_126 ?_
            exact z_iretP hX dX6_leastPrice_128 (Nat.le_of_ble_eq_true rfl) (Nat.le_of_ble_eq_true rfl)
        · intro kk14 rc15 hkk14 hrc15 u12
          unfold bd_X6_leastPrice_57
          refine z_iload hX 7 rfl dX6_leastPrice_57 ?_
          refine z_aload_n hX 1 rfl rfl dX6_leastPrice_59 ?_
          refine z_gFI 0 2 hX (by decide) rfl (by decide) rfl q_332 dX6_leastPrice_60 (fun x16 => ?_)
          refine z_icmp_ge hX 117 (by decide) dX6_leastPrice_63 (fun _ => ?_) (fun _ => ?_)
          · refine z_sub [0, 1, 2, 3, 4, 5, 6] rfl ?_
            exact hkk14 (u12.1, u12.2.1, u12.2.2)
          · refine z_aload_n hX 0 rfl rfl dX6_leastPrice_66 ?_
            refine z_gFR 6 6 hX (by decide) rfl (by decide) rfl q_202 dX6_leastPrice_67 (fun r17 => ?_)
            refine z_iload hX 7 rfl dX6_leastPrice_70 ?_
            refine z_aI hX dX6_leastPrice_72 (fun x18 => ?_)
            refine z_iload hX 5 rfl dX6_leastPrice_73 ?_
            refine z_aload_n hX 0 rfl rfl dX6_leastPrice_75 ?_
            refine z_gFR 6 5 hX (by decide) rfl (by decide) rfl q_201 dX6_leastPrice_76 (fun r19 => ?_)
            refine z_iload hX 7 rfl dX6_leastPrice_79 ?_
            refine z_aI hX dX6_leastPrice_81 (fun x20 => ?_)
            refine z_imul hX dX6_leastPrice_82 ?_
            refine z_jn (C' := 0) (S' := 0) 111 (fun (j21 : Int32 × Int32) => [(0, .ref v0), (1, .ref v1), (2, .int v2), (3, .int j21.1), (4, .int j21.2), (5, .int x9), (6, .int u5.2.2.2), (7, .int u12.2.2)]) (fun (j21 : Int32 × Int32) => []) (fun (j21 : Int32 × Int32) => M) (fun j21 => ?_) (fun kj21 => ?_)
            · refine z_iinc hX 7 [(7, .int (u12.2.2 + 1)), (0, .ref v0), (1, .ref v1), (2, .int v2), (3, .int j21.1), (4, .int j21.2), (5, .int x9), (6, .int u5.2.2.2)] rfl rfl (by decide) rfl dX6_leastPrice_111 ?_
              refine z_goto hX 57 (by decide) dX6_leastPrice_114 ?_
              refine z_sub [1, 2, 3, 4, 5, 6, 7, 0] rfl ?_
              exact hrc15 (j21.1, j21.2, u12.2.2 + 1)
            · refine z_iteB ?_
              refine z_icmp_ge hX 99 (by decide) dX6_leastPrice_83 (fun _ => ?_) (fun _ => ?_)
              · refine z_iload hX 4 rfl dX6_leastPrice_99 ?_
                refine z_aload_n hX 0 rfl rfl dX6_leastPrice_101 ?_
                refine z_asc ?_
                refine z_gFR 6 5 hX (by decide) rfl (by decide) rfl q_201 dX6_leastPrice_102 (fun r22 => ?_)
                refine z_iload hX 7 rfl dX6_leastPrice_105 ?_
                refine z_asc ?_
                refine z_aI hX dX6_leastPrice_107 (fun x23 => ?_)
                refine z_iadd hX dX6_leastPrice_108 ?_
                refine z_ltB ?_
                refine z_ltI (fun x24 => ?_)
                refine z_istore hX [(4, .int x24), (0, .ref v0), (1, .ref v1), (2, .int v2), (3, .int u12.1), (5, .int x9), (6, .int u5.2.2.2), (7, .int u12.2.2)] (by decide) rfl dX6_leastPrice_109 ?_
                refine z_pure ?_
                refine z_sub [1, 2, 3, 4, 0, 5, 6, 7] rfl ?_
                exact kj21 (u12.1, x24)
              · refine z_iload_n hX 3 rfl rfl dX6_leastPrice_86 ?_
                refine z_aload_n hX 0 rfl rfl dX6_leastPrice_87 ?_
                refine z_asc ?_
                refine z_gFR 6 6 hX (by decide) rfl (by decide) rfl q_202 dX6_leastPrice_88 (fun r25 => ?_)
                refine z_iload hX 7 rfl dX6_leastPrice_91 ?_
                refine z_asc ?_
                refine z_aI hX dX6_leastPrice_93 (fun x26 => ?_)
                refine z_isub hX dX6_leastPrice_94 ?_
                refine z_ltB ?_
                refine z_ltI (fun x27 => ?_)
                refine z_istore_n hX [(3, .int x27), (0, .ref v0), (1, .ref v1), (2, .int v2), (4, .int u12.2.1), (5, .int x9), (6, .int u5.2.2.2), (7, .int u12.2.2)] rfl (by decide) rfl dX6_leastPrice_95 ?_
                refine z_goto hX 111 (by decide) dX6_leastPrice_96 ?_
                refine z_pure ?_
                refine z_sub [1, 2, 3, 0, 4, 5, 6, 7] rfl ?_
                exact kj21 (x27, u12.2.1)
theorem c_X6_leastPrice (l : Launch) (hl : l.stackTraces = false) (M : Mem) (v0 : Nat) (v1 : Nat) (v2 : Int32) (o : Int32) (ho : f_X6_leastPrice M v0 v1 v2 = some o) : Ct l yX6_leastPrice cX6_leastPrice 8 (some .int) rm_X6_leastPrice [.ref v0, .ref v1, .int v2] M (some (.int o)) M :=
  Ct.of hl (by decide +kernel) (Nat.le_of_ble_eq_true rfl) rfl (fun X hX hin => z_X6_leastPrice hX M v0 v1 v2 o ho)
theorem okV_X6_leastPrice : okV yX6_leastPrice cX6_leastPrice 8 (some .int) 2 := ⟨q_708, q_9, q_91, q_709, by unfold okY; decide +kernel⟩
/-! ParticipatoryBudget$Rounds.isBetter(LParticipatoryBudget$Ballot;III)Z -/
abbrev rm_X6_isBetter : Room := { frames := 0, cells := 0, slots := 0, locals := 0 }
set_option maxRecDepth 20000 in
set_option maxHeartbeats 4000000 in
theorem z_X6_isBetter {X : Cxt} (hX : okX X cX6_isBetter RX6 rm_X6_isBetter (some .boolean) 9) (M : Mem) (v0 : Nat) (v1 : Nat) (v2 : Int32) (v3 : Int32) (v4 : Int32) : Zj X (fun o : Int32 => Qr X rm_X6_isBetter.cells rm_X6_isBetter.slots (some (.int o)) M) 0 0 0 [(0, .ref v0), (1, .ref v1), (2, .int v2), (3, .int v3), (4, .int v4)] [] M (f_X6_isBetter M v0 v1 v2 v3 v4) := by
  unfold f_X6_isBetter
  refine z_aload_n hX 0 rfl rfl dX6_isBetter_0 ?_
  refine z_gFR 6 3 hX (by decide) rfl (by decide) rfl q_196 dX6_isBetter_1 (fun r1 => ?_)
  refine z_iload_n hX 2 rfl rfl dX6_isBetter_4 ?_
  refine z_aR hX dX6_isBetter_5 (fun r2 => ?_)
  refine z_iload hX 4 rfl dX6_isBetter_6 ?_
  refine z_aI hX dX6_isBetter_8 (fun x3 => ?_)
  refine z_i2l hX rfl dX6_isBetter_9 ?_
  refine z_ltL (fun x4 => ?_)
  refine z_lstore hX [(5, .long x4), (0, .ref v0), (1, .ref v1), (2, .int v2), (3, .int v3), (4, .int v4)] (by decide) rfl dX6_isBetter_10 ?_
  refine z_aload_n hX 1 rfl rfl dX6_isBetter_12 ?_
  refine z_gFR 6 3 hX (by decide) rfl (by decide) rfl q_196 dX6_isBetter_13 (fun r5 => ?_)
  refine z_iload_n hX 4 rfl rfl dX6_isBetter_16 ?_
  refine z_aR hX dX6_isBetter_17 (fun r6 => ?_)
  refine z_iload hX 5 rfl dX6_isBetter_18 ?_
  refine z_aI hX dX6_isBetter_20 (fun x7 => ?_)
  refine z_i2l hX rfl dX6_isBetter_21 ?_
  refine z_ltL (fun x8 => ?_)
  refine z_lstore hX [(7, .long x8), (5, .long x4), (0, .ref v0), (1, .ref v1), (2, .int v2), (3, .int v3), (4, .int v4)] (by decide) rfl dX6_isBetter_22 ?_
  refine z_aload_n hX 3 rfl rfl dX6_isBetter_24 ?_
  refine z_gFR 0 11 hX (by decide) rfl (by decide) rfl q_378 dX6_isBetter_25 (fun r9 => ?_)
  refine z_iconst (v := 0) hX (by decide) dX6_isBetter_28 ?_
  refine z_aI hX dX6_isBetter_29 (fun x10 => ?_)
  refine z_jn (C' := 0) (S' := 0) 57 (fun (j11 : Int64 × Int64) => [(1, .ref v1), (2, .int v2), (3, .int v3), (5, .long j11.1), (7, .long j11.2)]) (fun (j11 : Int64 × Int64) => []) (fun (j11 : Int64 × Int64) => M) (fun j11 => ?_) (fun kj11 => ?_)
  · refine z_lload hX 3 rfl dX6_isBetter_57 ?_
    refine z_lload hX 4 rfl dX6_isBetter_59 ?_
    refine z_lcmp hX dX6_isBetter_61 ?_
    refine z_jn (C' := 0) (S' := 0) 93 (fun (j12 : Int32) => []) (fun (j12 : Int32) => [.int j12]) (fun (j12 : Int32) => M) (fun j12 => ?_) (fun kj12 => ?_)
    · exact z_zretP hX dX6_isBetter_93 (Nat.le_of_ble_eq_true rfl) (Nat.le_of_ble_eq_true rfl)
    · refine z_iteB ?_
      refine z_if_lt hX 88 (by decide) dX6_isBetter_62 (fun _ => ?_) (fun _ => ?_)
      · refine z_iconst (v := 1) hX (by decide) dX6_isBetter_88 ?_
        refine z_goto hX 93 (by decide) dX6_isBetter_89 ?_
        refine z_pure ?_
        refine z_sub [] rfl ?_
        exact kj12 1
      · refine z_lload hX 3 rfl dX6_isBetter_65 ?_
        refine z_lload hX 4 rfl dX6_isBetter_67 ?_
        refine z_lcmp hX dX6_isBetter_69 ?_
        refine z_iteB ?_
        refine z_if_ne hX 92 (by decide) dX6_isBetter_70 (fun _ => ?_) (fun _ => ?_)
        · refine z_iconst (v := 0) hX (by decide) dX6_isBetter_92 ?_
          refine z_pure ?_
          refine z_sub [] rfl ?_
          exact kj12 0
        · refine z_aload_n hX 0 rfl rfl dX6_isBetter_73 ?_
          refine z_asc ?_
          refine z_gFR 0 13 hX (by decide) rfl (by decide) rfl q_386 dX6_isBetter_74 (fun r13 => ?_)
          refine z_iload_n hX 1 rfl rfl dX6_isBetter_77 ?_
          refine z_asc ?_
          refine z_aI hX dX6_isBetter_78 (fun x14 => ?_)
          refine z_aload_n hX 0 rfl rfl dX6_isBetter_79 ?_
          refine z_asc ?_
          refine z_gFR 0 13 hX (by decide) rfl (by decide) rfl q_386 dX6_isBetter_80 (fun r15 => ?_)
          refine z_iload_n hX 2 rfl rfl dX6_isBetter_83 ?_
          refine z_asc ?_
          refine z_aI hX dX6_isBetter_84 (fun x16 => ?_)
          refine z_iteB ?_
          refine z_icmp_le hX 92 (by decide) dX6_isBetter_85 (fun _ => ?_) (fun _ => ?_)
          · refine z_iconst (v := 0) hX (by decide) dX6_isBetter_92 ?_
            refine z_pure ?_
            refine z_sub [] rfl ?_
            exact kj12 0
          · refine z_iconst (v := 1) hX (by decide) dX6_isBetter_88 ?_
            refine z_goto hX 93 (by decide) dX6_isBetter_89 ?_
            refine z_pure ?_
            refine z_sub [] rfl ?_
            exact kj12 1
  · refine z_iteB ?_
    refine z_if_eq hX 57 (by decide) dX6_isBetter_30 (fun _ => ?_) (fun _ => ?_)
    · refine z_pure ?_
      refine z_sub [3, 4, 5, 1, 0] rfl ?_
      exact kj11 (x4, x8)
    · refine z_lload hX 1 rfl dX6_isBetter_33 ?_
      refine z_aload_n hX 3 rfl rfl dX6_isBetter_35 ?_
      refine z_asc ?_
      refine z_gFR 0 6 hX (by decide) rfl (by decide) rfl q_352 dX6_isBetter_36 (fun r17 => ?_)
      refine z_iload_n hX 5 rfl rfl dX6_isBetter_39 ?_
      refine z_asc ?_
      refine z_aI hX dX6_isBetter_40 (fun x18 => ?_)
      refine z_i2l hX rfl dX6_isBetter_41 ?_
      refine z_lmul hX dX6_isBetter_42 ?_
      refine z_ltB ?_
      refine z_ltL (fun x19 => ?_)
      refine z_lstore hX [(5, .long x19), (7, .long x8), (0, .ref v0), (1, .ref v1), (2, .int v2), (3, .int v3), (4, .int v4)] (by decide) rfl dX6_isBetter_43 ?_
      refine z_lload hX 1 rfl dX6_isBetter_45 ?_
      refine z_aload_n hX 3 rfl rfl dX6_isBetter_47 ?_
      refine z_asc ?_
      refine z_gFR 0 6 hX (by decide) rfl (by decide) rfl q_352 dX6_isBetter_48 (fun r20 => ?_)
      refine z_iload_n hX 4 rfl rfl dX6_isBetter_51 ?_
      refine z_asc ?_
      refine z_aI hX dX6_isBetter_52 (fun x21 => ?_)
      refine z_i2l hX rfl dX6_isBetter_53 ?_
      refine z_lmul hX dX6_isBetter_54 ?_
      refine z_ltB ?_
      refine z_ltL (fun x22 => ?_)
      refine z_lstore hX [(7, .long x22), (5, .long x19), (0, .ref v0), (1, .ref v1), (2, .int v2), (3, .int v3), (4, .int v4)] (by decide) rfl dX6_isBetter_55 ?_
      refine z_pure ?_
      refine z_sub [3, 4, 5, 1, 0] rfl ?_
      exact kj11 (x19, x22)
theorem c_X6_isBetter (l : Launch) (hl : l.stackTraces = false) (M : Mem) (v0 : Nat) (v1 : Nat) (v2 : Int32) (v3 : Int32) (v4 : Int32) (o : Int32) (ho : f_X6_isBetter M v0 v1 v2 v3 v4 = some o) : Ct l yX6_isBetter cX6_isBetter 9 (some .boolean) rm_X6_isBetter [.ref v0, .ref v1, .int v2, .int v3, .int v4] M (some (.int o)) M :=
  Ct.of hl (by decide +kernel) (Nat.le_of_ble_eq_true rfl) rfl (fun X hX hin => z_X6_isBetter hX M v0 v1 v2 v3 v4 o ho)
theorem okV_X6_isBetter : okV yX6_isBetter cX6_isBetter 9 (some .boolean) 4 := ⟨q_712, q_10, q_91, q_713, by unfold okY; decide +kernel⟩
/-! ParticipatoryBudget$Rounds.choose(LParticipatoryBudget$Ballot;I)I -/
abbrev rm_X6_choose : Room := { frames := 2, cells := 0, slots := 0, locals := 49 }
set_option maxRecDepth 20000 in
set_option maxHeartbeats 4000000 in
theorem z_X6_choose {X : Cxt} (hX : okX X cX6_choose RX6 rm_X6_choose (some .int) 7) (M : Mem) (v0 : Nat) (v1 : Nat) (v2 : Int32) : Zj X (fun o : Int32 × Mem => Qr X rm_X6_choose.cells rm_X6_choose.slots (some (.int o.1)) o.2) 0 0 0 [(0, .ref v0), (1, .ref v1), (2, .int v2)] [] M (f_X6_choose M v0 v1 v2) := by
  unfold f_X6_choose
  refine z_iconst (v := (-1)) hX (by decide) dX6_choose_0 ?_
  refine z_ltI (fun x1 => ?_)
  refine z_istore_n hX [(3, .int x1), (0, .ref v0), (1, .ref v1), (2, .int v2)] rfl (by decide) rfl dX6_choose_1 ?_
  refine z_iconst (v := 0) hX (by decide) dX6_choose_2 ?_
  refine z_istore hX [(4, .int 0), (3, .int x1), (0, .ref v0), (1, .ref v1), (2, .int v2)] (by decide) rfl dX6_choose_3 ?_
  refine z_sub [2, 3, 4, 1, 0] rfl ?_
  refine z_lp (x0 := (x1, 0, M)) (bd_X6_choose_5 v0 v1 v2) 5 110 (fun (u2 : Int32 × Int32 × Mem) => [(0, .ref v0), (1, .ref v1), (2, .int v2), (3, .int u2.1), (4, .int u2.2.1)]) (fun (e3 : Int32 × Int32 × Mem) => [(3, .int e3.1)]) (fun (u2 : Int32 × Int32 × Mem) => u2.2.2) ?_ ?_
  · intro e3
    refine z_iload_n hX 0 rfl rfl dX6_choose_110 ?_
    exact z_iretM hX dX6_choose_111 (Nat.le_of_ble_eq_true rfl) (Nat.le_of_ble_eq_true rfl)
  · intro kk4 rc5 hkk4 hrc5 u2
    unfold bd_X6_choose_5
    refine z_iload hX 4 rfl dX6_choose_5 ?_
    refine z_aload_n hX 1 rfl rfl dX6_choose_7 ?_
    refine z_gFI 0 1 hX (by decide) rfl (by decide) rfl q_326 dX6_choose_8 (fun x6 => ?_)
    refine z_icmp_ge hX 110 (by decide) dX6_choose_11 (fun _ => ?_) (fun _ => ?_)
    · refine z_sub [3] rfl ?_
      exact hkk4 (u2.1, u2.2.1, u2.2.2)
    · refine z_aload_n hX 0 rfl rfl dX6_choose_14 ?_
      refine z_gFI 6 8 hX (by decide) rfl (by decide) rfl q_207 dX6_choose_15 (fun x7 => ?_)
      refine z_iload hX 4 rfl dX6_choose_18 ?_
      refine z_cSNIp [.int x7, .int u2.2.1] hX (fun l hl o ho => c_X8_has l hl u2.2.2 x7 u2.2.1 o ho) dX6_choose_20 nw_15 okS_X8_has rfl ⟨(Nat.le_of_ble_eq_true rfl), (Nat.le_of_ble_eq_true rfl)⟩ rfl (Nat.le_of_ble_eq_true rfl) rfl rfl ⟨(Nat.le_of_ble_eq_true rfl), (Nat.le_of_ble_eq_true rfl)⟩ (fun o8 => ?_)
      refine z_jn (C' := 0) (S' := 0) 48 (fun (j9 : Int32 × Mem) => [(0, .ref v0), (1, .ref v1), (2, .int v2), (3, .int u2.1), (4, .int u2.2.1)]) (fun (j9 : Int32 × Mem) => [.int j9.1]) (fun (j9 : Int32 × Mem) => j9.2) (fun j9 => ?_) (fun kj9 => ?_)
      · refine z_istore hX [(5, .int j9.1), (0, .ref v0), (1, .ref v1), (2, .int v2), (3, .int u2.1), (4, .int u2.2.1)] (by decide) rfl dX6_choose_48 ?_
        refine z_iload hX 0 rfl dX6_choose_50 ?_
        refine z_jn (C' := 0) (S' := 0) 66 (fun (j10 : Int32) => [(0, .ref v0), (1, .ref v1), (2, .int v2), (3, .int u2.1), (4, .int u2.2.1)]) (fun (j10 : Int32) => [.int j10]) (fun (j10 : Int32) => j9.2) (fun j10 => ?_) (fun kj10 => ?_)
        · refine z_istore hX [(6, .int j10), (0, .ref v0), (1, .ref v1), (2, .int v2), (3, .int u2.1), (4, .int u2.2.1)] (by decide) rfl dX6_choose_66 ?_
          refine z_aload_n hX 1 rfl rfl dX6_choose_68 ?_
          refine z_gFR 6 3 hX (by decide) rfl (by decide) rfl q_196 dX6_choose_69 (fun r11 => ?_)
          refine z_iload hX 5 rfl dX6_choose_72 ?_
          refine z_aR hX dX6_choose_74 (fun r12 => ?_)
          refine z_iload_n hX 3 rfl rfl dX6_choose_75 ?_
          refine z_iload hX 0 rfl dX6_choose_76 ?_
          refine z_wI hX dX6_choose_78 (fun M13 => ?_)
          refine z_iload hX 0 rfl dX6_choose_79 ?_
          refine z_iconst (v := (-1)) hX (by decide) dX6_choose_81 ?_
          refine z_jn (C' := 0) (S' := 0) 104 (fun (j14 : Int32) => [(0, .ref v0), (1, .ref v1), (2, .int v2), (3, .int j14), (4, .int u2.2.1)]) (fun (j14 : Int32) => []) (fun (j14 : Int32) => M13) (fun j14 => ?_) (fun kj14 => ?_)
          · refine z_iinc hX 4 [(4, .int (u2.2.1 + 1)), (0, .ref v0), (1, .ref v1), (2, .int v2), (3, .int j14)] rfl rfl (by decide) rfl dX6_choose_104 ?_
            refine z_goto hX 5 (by decide) dX6_choose_107 ?_
            refine z_sub [1, 2, 3, 4, 0] rfl ?_
            exact hrc5 (j14, u2.2.1 + 1, M13)
          · refine z_iteB ?_
            refine z_icmp_eq hX 104 (by decide) dX6_choose_82 (fun _ => ?_) (fun _ => ?_)
            · refine z_pure ?_
              refine z_sub [1, 2, 3, 4, 5] rfl ?_
              exact kj14 u2.1
            · refine z_iload_n hX 4 rfl rfl dX6_choose_85 ?_
              refine z_iteB ?_
              refine z_if_lt hX 101 (by decide) dX6_choose_86 (fun _ => ?_) (fun _ => ?_)
              · refine z_iload hX 5 rfl dX6_choose_101 ?_
                refine z_istore_n hX [(3, .int u2.2.1), (6, .int j10), (0, .ref v0), (1, .ref v1), (2, .int v2), (4, .int u2.2.1)] rfl (by decide) rfl dX6_choose_103 ?_
                refine z_pure ?_
                refine z_sub [2, 3, 4, 0, 5] rfl ?_
                exact kj14 u2.2.1
              · refine z_aload_n hX 1 rfl rfl dX6_choose_89 ?_
                refine z_aload_n hX 2 rfl rfl dX6_choose_90 ?_
                refine z_iload hX 5 rfl dX6_choose_91 ?_
                refine z_iload_n hX 4 rfl rfl dX6_choose_93 ?_
                refine z_iload_n hX 3 rfl rfl dX6_choose_94 ?_
                refine z_asc ?_
                refine z_asc2 ?_
                refine z_cVIp 6 [.ref v1, .int u2.2.1, .int u2.1, .int v2] hX (fun l hl o ho => c_X6_isBetter l hl M13 v0 v1 u2.2.1 u2.1 v2 o ho) dX6_choose_95 (by decide) rfl rfl q_710 okV_X6_isBetter rfl ⟨(Nat.le_of_ble_eq_true rfl), (Nat.le_of_ble_eq_true rfl)⟩ rfl (Nat.le_of_ble_eq_true rfl) rfl rfl ⟨(Nat.le_of_ble_eq_true rfl), (Nat.le_of_ble_eq_true rfl)⟩ (fun o15 => ?_)
                refine z_iteB ?_
                refine z_if_eq hX 104 (by decide) dX6_choose_98 (fun _ => ?_) (fun _ => ?_)
                · refine z_pure ?_
                  refine z_sub [1, 2, 3, 4, 5] rfl ?_
                  exact kj14 u2.1
                · refine z_iload hX 5 rfl dX6_choose_101 ?_
                  refine z_istore_n hX [(3, .int u2.2.1), (6, .int j10), (0, .ref v0), (1, .ref v1), (2, .int v2), (4, .int u2.2.1)] rfl (by decide) rfl dX6_choose_103 ?_
                  refine z_pure ?_
                  refine z_sub [2, 3, 4, 0, 5] rfl ?_
                  exact kj14 u2.2.1
        · refine z_iteB ?_
          refine z_if_eq hX 65 (by decide) dX6_choose_52 (fun _ => ?_) (fun _ => ?_)
          · refine z_iconst (v := (-1)) hX (by decide) dX6_choose_65 ?_
            refine z_pure ?_
            refine z_sub [1, 2, 3, 4, 5] rfl ?_
            exact kj10 (-1)
          · refine z_aload_n hX 1 rfl rfl dX6_choose_55 ?_
            refine z_aload_n hX 2 rfl rfl dX6_choose_56 ?_
            refine z_iload hX 5 rfl dX6_choose_57 ?_
            refine z_asc ?_
            refine z_asc2 ?_
            refine z_cVIp 6 [.ref v1, .int u2.2.1] hX (fun l hl o ho => c_X6_leastPrice l hl j9.2 v0 v1 u2.2.1 o ho) dX6_choose_59 (by decide) rfl rfl q_706 okV_X6_leastPrice rfl ⟨(Nat.le_of_ble_eq_true rfl), (Nat.le_of_ble_eq_true rfl)⟩ rfl (Nat.le_of_ble_eq_true rfl) rfl rfl ⟨(Nat.le_of_ble_eq_true rfl), (Nat.le_of_ble_eq_true rfl)⟩ (fun o16 => ?_)
            refine z_goto hX 66 (by decide) dX6_choose_62 ?_
            refine z_pure ?_
            refine z_sub [1, 2, 3, 4, 5] rfl ?_
            exact kj10 o16
      · refine z_iteB ?_
        refine z_if_ne hX 47 (by decide) dX6_choose_23 (fun _ => ?_) (fun _ => ?_)
        · refine z_iconst (v := 0) hX (by decide) dX6_choose_47 ?_
          refine z_pure ?_
          refine z_sub [0, 1, 2, 3, 4] rfl ?_
          exact kj9 (0, u2.2.2)
        · refine z_aload_n hX 0 rfl rfl dX6_choose_26 ?_
          refine z_aload_n hX 1 rfl rfl dX6_choose_27 ?_
          refine z_iload hX 4 rfl dX6_choose_28 ?_
          refine z_asc ?_
          refine z_asc2 ?_
          refine z_cVIm 6 [.ref v1, .int u2.2.1] hX (fun l hl o ho => c_X6_weigh l hl u2.2.2 v0 v1 u2.2.1 o ho) dX6_choose_30 (by decide) rfl rfl q_698 okV_X6_weigh rfl ⟨(Nat.le_of_ble_eq_true rfl), (Nat.le_of_ble_eq_true rfl)⟩ rfl (Nat.le_of_ble_eq_true rfl) rfl rfl ⟨(Nat.le_of_ble_eq_true rfl), (Nat.le_of_ble_eq_true rfl)⟩ (fun o17 => ?_)
          refine z_aload_n hX 1 rfl rfl dX6_choose_33 ?_
          refine z_asc ?_
          refine z_gFR 0 6 hX (by decide) rfl (by decide) rfl q_352 dX6_choose_34 (fun r18 => ?_)
          refine z_iload hX 4 rfl dX6_choose_37 ?_
          refine z_asc ?_
          refine z_aI hX dX6_choose_39 (fun x19 => ?_)
          refine z_iteB ?_
          refine z_icmp_lt hX 47 (by decide) dX6_choose_40 (fun _ => ?_) (fun _ => ?_)
          · refine z_iconst (v := 0) hX (by decide) dX6_choose_47 ?_
            refine z_pure ?_
            refine z_sub [0, 1, 2, 3, 4] rfl ?_
            exact kj9 (0, o17.2)
          · refine z_iconst (v := 1) hX (by decide) dX6_choose_43 ?_
            refine z_goto hX 48 (by decide) dX6_choose_44 ?_
            refine z_pure ?_
            refine z_sub [0, 1, 2, 3, 4] rfl ?_
            exact kj9 (1, o17.2)
theorem c_X6_choose (l : Launch) (hl : l.stackTraces = false) (M : Mem) (v0 : Nat) (v1 : Nat) (v2 : Int32) (o : Int32 × Mem) (ho : f_X6_choose M v0 v1 v2 = some o) : Ct l yX6_choose cX6_choose 7 (some .int) rm_X6_choose [.ref v0, .ref v1, .int v2] M (some (.int o.1)) o.2 :=
  Ct.of hl (by decide +kernel) (Nat.le_of_ble_eq_true rfl) rfl (fun X hX hin => z_X6_choose hX M v0 v1 v2 o ho)
theorem okV_X6_choose : okV yX6_choose cX6_choose 7 (some .int) 2 := ⟨q_696, q_7, q_91, q_697, by unfold okY; decide +kernel⟩
/-! ParticipatoryBudget$Rounds.pay(IIII)V -/
abbrev rm_X6_pay : Room := { frames := 1, cells := 0, slots := 0, locals := 21 }
set_option maxRecDepth 20000 in
set_option maxHeartbeats 4000000 in
theorem z_X6_pay {X : Cxt} (hX : okX X cX6_pay RX6 rm_X6_pay (none) 8) (M : Mem) (v0 : Nat) (v1 : Int32) (v2 : Int32) (v3 : Int32) (v4 : Int32) : Zj X (fun o : Mem => Qr X rm_X6_pay.cells rm_X6_pay.slots (none) o) 0 0 0 [(0, .ref v0), (1, .int v1), (2, .int v2), (3, .int v3), (4, .int v4)] [] M (f_X6_pay M v0 v1 v2 v3 v4) := by
  unfold f_X6_pay
  refine z_iload hX 4 rfl dX6_pay_0 ?_
  refine z_istore hX [(5, .int v4), (0, .ref v0), (1, .int v1), (2, .int v2), (3, .int v3), (4, .int v4)] (by decide) rfl dX6_pay_2 ?_
  refine z_aload_n hX 1 rfl rfl dX6_pay_4 ?_
  refine z_gFR 6 1 hX (by decide) rfl (by decide) rfl q_192 dX6_pay_5 (fun r1 => ?_)
  refine z_iload_n hX 2 rfl rfl dX6_pay_8 ?_
  refine z_aR hX dX6_pay_9 (fun r2 => ?_)
  refine z_iload_n hX 3 rfl rfl dX6_pay_10 ?_
  refine z_iload hX 5 rfl dX6_pay_11 ?_
  refine z_wI hX dX6_pay_13 (fun M3 => ?_)
  refine z_iconst (v := 0) hX (by decide) dX6_pay_14 ?_
  refine z_istore hX [(6, .int 0), (5, .int v4), (0, .ref v0), (1, .int v1), (2, .int v2), (3, .int v3), (4, .int v4)] (by decide) rfl dX6_pay_15 ?_
  refine z_sub [2, 3, 4, 5, 1, 0] rfl ?_
  refine z_lp (x0 := (v4, 0, M3)) (bd_X6_pay_17 v0 v1 v2 v3) 17 89 (fun (u4 : Int32 × Int32 × Mem) => [(0, .ref v0), (1, .int v1), (2, .int v2), (3, .int v3), (5, .int u4.1), (6, .int u4.2.1)]) (fun (e5 : Int32 × Int32 × Mem) => []) (fun (u4 : Int32 × Int32 × Mem) => u4.2.2) ?_ ?_
  · intro e5
    exact z_vretM hX dX6_pay_89 (Nat.le_of_ble_eq_true rfl) (Nat.le_of_ble_eq_true rfl)
  · intro kk6 rc7 hkk6 hrc7 u4
    unfold bd_X6_pay_17
    refine z_iload hX 5 rfl dX6_pay_17 ?_
    refine z_iconst (v := 4) hX (by decide) dX6_pay_19 ?_
    refine z_icmp_ge hX 89 (by decide) dX6_pay_20 (fun _ => ?_) (fun _ => ?_)
    · refine z_sub [] rfl ?_
      exact hkk6 (u4.1, u4.2.1, u4.2.2)
    · refine z_iload_n hX 3 rfl rfl dX6_pay_23 ?_
      refine z_iload hX 5 rfl dX6_pay_24 ?_
      refine z_cSNIp [.int v3, .int u4.2.1] hX (fun l hl o ho => c_X8_has l hl u4.2.2 v3 u4.2.1 o ho) dX6_pay_26 nw_15 okS_X8_has rfl ⟨(Nat.le_of_ble_eq_true rfl), (Nat.le_of_ble_eq_true rfl)⟩ rfl (Nat.le_of_ble_eq_true rfl) rfl rfl ⟨(Nat.le_of_ble_eq_true rfl), (Nat.le_of_ble_eq_true rfl)⟩ (fun o8 => ?_)
      refine z_jn (C' := 0) (S' := 0) 83 (fun (j9 : Int32 × Mem) => [(0, .ref v0), (1, .int v1), (2, .int v2), (3, .int v3), (5, .int j9.1), (6, .int u4.2.1)]) (fun (j9 : Int32 × Mem) => []) (fun (j9 : Int32 × Mem) => j9.2) (fun j9 => ?_) (fun kj9 => ?_)
      · refine z_iinc hX 5 [(6, .int (u4.2.1 + 1)), (0, .ref v0), (1, .int v1), (2, .int v2), (3, .int v3), (5, .int j9.1)] rfl rfl (by decide) rfl dX6_pay_83 ?_
        refine z_goto hX 17 (by decide) dX6_pay_86 ?_
        refine z_sub [1, 2, 3, 4, 5, 0] rfl ?_
        exact hrc7 (j9.1, u4.2.1 + 1, j9.2)
      · refine z_iteB ?_
        refine z_if_eq hX 83 (by decide) dX6_pay_29 (fun _ => ?_) (fun _ => ?_)
        · refine z_pure ?_
          refine z_sub [0, 1, 2, 3, 4, 5] rfl ?_
          exact kj9 (u4.1, u4.2.2)
        · refine z_iload hX 4 rfl dX6_pay_32 ?_
          refine z_aload_n hX 0 rfl rfl dX6_pay_34 ?_
          refine z_asc ?_
          refine z_gFR 6 0 hX (by decide) rfl (by decide) rfl q_190 dX6_pay_35 (fun r10 => ?_)
          refine z_iload_n hX 2 rfl rfl dX6_pay_38 ?_
          refine z_asc ?_
          refine z_aR hX dX6_pay_39 (fun r11 => ?_)
          refine z_iload hX 5 rfl dX6_pay_40 ?_
          refine z_asc ?_
          refine z_aI hX dX6_pay_42 (fun x12 => ?_)
          refine z_min hX dX6_pay_43 q_718 q_480 q_97 q_481 (Nat.le_of_ble_eq_true rfl) (Nat.le_of_ble_eq_true rfl) ⟨(Nat.le_of_ble_eq_true rfl), (Nat.le_of_ble_eq_true rfl)⟩ ?_
          refine z_ltB ?_
          refine z_ltI (fun x13 => ?_)
          refine z_istore hX [(7, .int x13), (0, .ref v0), (1, .int v1), (2, .int v2), (3, .int v3), (5, .int u4.1), (6, .int u4.2.1)] (by decide) rfl dX6_pay_46 ?_
          refine z_aload_n hX 1 rfl rfl dX6_pay_48 ?_
          refine z_asc ?_
          refine z_gFR 6 0 hX (by decide) rfl (by decide) rfl q_190 dX6_pay_49 (fun r14 => ?_)
          refine z_iload_n hX 3 rfl rfl dX6_pay_52 ?_
          refine z_asc ?_
          refine z_aR hX dX6_pay_53 (fun r15 => ?_)
          refine z_iload hX 6 rfl dX6_pay_54 ?_
          refine z_dup2 hX rfl rfl dX6_pay_56 ?_
          refine z_asc ?_
          refine z_aI hX dX6_pay_57 (fun x16 => ?_)
          refine z_iload hX 0 rfl dX6_pay_58 ?_
          refine z_isub hX dX6_pay_60 ?_
          refine z_asc ?_
          refine z_wI hX dX6_pay_61 (fun M17 => ?_)
          refine z_aload_n hX 1 rfl rfl dX6_pay_62 ?_
          refine z_asc ?_
          refine z_gFR 6 2 hX (by decide) rfl (by decide) rfl q_194 dX6_pay_63 (fun r18 => ?_)
          refine z_iload_n hX 2 rfl rfl dX6_pay_66 ?_
          refine z_asc ?_
          refine z_aR hX dX6_pay_67 (fun r19 => ?_)
          refine z_iload hX 6 rfl dX6_pay_68 ?_
          refine z_dup2 hX rfl rfl dX6_pay_70 ?_
          refine z_asc ?_
          refine z_aI hX dX6_pay_71 (fun x20 => ?_)
          refine z_iload hX 0 rfl dX6_pay_72 ?_
          refine z_iadd hX dX6_pay_74 ?_
          refine z_asc ?_
          refine z_wI hX dX6_pay_75 (fun M21 => ?_)
          refine z_iload hX 5 rfl dX6_pay_76 ?_
          refine z_iload hX 0 rfl dX6_pay_78 ?_
          refine z_isub hX dX6_pay_80 ?_
          refine z_ltB ?_
          refine z_ltI (fun x22 => ?_)
          refine z_istore hX [(5, .int x22), (7, .int x13), (0, .ref v0), (1, .int v1), (2, .int v2), (3, .int v3), (6, .int u4.2.1)] (by decide) rfl dX6_pay_81 ?_
          refine z_pure ?_
          refine z_sub [2, 3, 4, 5, 0, 6] rfl ?_
          exact kj9 (x22, M21)
theorem c_X6_pay (l : Launch) (hl : l.stackTraces = false) (M : Mem) (v0 : Nat) (v1 : Int32) (v2 : Int32) (v3 : Int32) (v4 : Int32) (o : Mem) (ho : f_X6_pay M v0 v1 v2 v3 v4 = some o) : Ct l yX6_pay cX6_pay 8 (none) rm_X6_pay [.ref v0, .int v1, .int v2, .int v3, .int v4] M (none) o :=
  Ct.of hl (by decide +kernel) (Nat.le_of_ble_eq_true rfl) rfl (fun X hX hin => z_X6_pay hX M v0 v1 v2 v3 v4 o ho)
theorem okV_X6_pay : okV yX6_pay cX6_pay 8 (none) 4 := ⟨q_721, q_12, q_91, q_722, by unfold okY; decide +kernel⟩
/-! ParticipatoryBudget$Rounds.fund(LParticipatoryBudget$Ballot;II)V -/
abbrev rm_X6_fund : Room := { frames := 2, cells := 0, slots := 0, locals := 49 }
set_option maxRecDepth 20000 in
set_option maxHeartbeats 4000000 in
theorem z_X6_fund {X : Cxt} (hX : okX X cX6_fund RX6 rm_X6_fund (none) 9) (M : Mem) (v0 : Nat) (v1 : Nat) (v2 : Int32) (v3 : Int32) : Zj X (fun o : Mem => Qr X rm_X6_fund.cells rm_X6_fund.slots (none) o) 0 0 0 [(0, .ref v0), (1, .ref v1), (2, .int v2), (3, .int v3)] [] M (f_X6_fund M v0 v1 v2 v3) := by
  unfold f_X6_fund
  refine z_aload_n hX 1 rfl rfl dX6_fund_0 ?_
  refine z_gFR 0 6 hX (by decide) rfl (by decide) rfl q_352 dX6_fund_1 (fun r1 => ?_)
  refine z_iload_n hX 2 rfl rfl dX6_fund_4 ?_
  refine z_aI hX dX6_fund_5 (fun x2 => ?_)
  refine z_ineg hX dX6_fund_6 ?_
  refine z_ltI (fun x3 => ?_)
  refine z_istore hX [(4, .int x3), (0, .ref v0), (1, .ref v1), (2, .int v2), (3, .int v3)] (by decide) rfl dX6_fund_7 ?_
  refine z_aload_n hX 1 rfl rfl dX6_fund_9 ?_
  refine z_aload_n hX 2 rfl rfl dX6_fund_10 ?_
  refine z_iload_n hX 3 rfl rfl dX6_fund_11 ?_
  refine z_cVIm 6 [.ref v1, .int v2] hX (fun l hl o ho => c_X6_weigh l hl M v0 v1 v2 o ho) dX6_fund_12 (by decide) rfl rfl q_698 okV_X6_weigh rfl ⟨(Nat.le_of_ble_eq_true rfl), (Nat.le_of_ble_eq_true rfl)⟩ rfl (Nat.le_of_ble_eq_true rfl) rfl rfl ⟨(Nat.le_of_ble_eq_true rfl), (Nat.le_of_ble_eq_true rfl)⟩ (fun o4 => ?_)
  refine z_pop hX rfl dX6_fund_15 ?_
  refine z_iconst (v := 0) hX (by decide) dX6_fund_16 ?_
  refine z_istore hX [(5, .int 0), (4, .int x3), (0, .ref v0), (1, .ref v1), (2, .int v2), (3, .int v3)] (by decide) rfl dX6_fund_17 ?_
  refine z_sub [2, 3, 4, 5, 1, 0] rfl ?_
  refine z_lp (x0 := (x3, 0)) (bd_X6_fund_19 v0 v1 v3 o4) 19 58 (fun (u5 : Int32 × Int32) => [(0, .ref v0), (1, .ref v1), (2, .int v2), (3, .int v3), (4, .int u5.1), (5, .int u5.2)]) (fun (e6 : Int32 × Int32) => [(0, .ref v0), (1, .ref v1), (2, .int v2), (3, .int v3), (4, .int e6.1)]) (fun (u5 : Int32 × Int32) => o4.2) ?_ ?_
  · intro e6
    refine z_aload_n hX 1 rfl rfl dX6_fund_58 ?_
    refine z_gFI 0 2 hX (by decide) rfl (by decide) rfl q_332 dX6_fund_59 (fun x15 => ?_)
    refine z_iconst (v := 1) hX (by decide) dX6_fund_62 ?_
    refine z_isub hX dX6_fund_63 ?_
    refine z_ltI (fun x16 => ?_)
    refine z_istore hX [(5, .int x16), (0, .ref v0), (1, .ref v1), (2, .int v2), (3, .int v3), (4, .int e6.1)] (by decide) rfl dX6_fund_64 ?_
    refine z_sub [1, 2, 3, 4, 5, 0] rfl ?_
    refine z_lp (x0 := (e6.1, x16, o4.2)) (bd_X6_fund_66 v0 v1 v2 v3) 66 158 (fun (u17 : Int32 × Int32 × Mem) => [(0, .ref v0), (1, .ref v1), (2, .int v2), (3, .int v3), (4, .int u17.1), (5, .int u17.2.1)]) (fun (e18 : Int32 × Int32 × Mem) => [(0, .ref v0), (2, .int v2)]) (fun (u17 : Int32 × Int32 × Mem) => u17.2.2) ?_ ?_
    · intro e18
      refine z_aload_n hX 0 rfl rfl dX6_fund_158 ?_
      refine z_gFR 6 4 hX (by decide) rfl (by decide) rfl q_199 dX6_fund_159 (fun r37 => ?_)
      refine z_aload_n hX 0 rfl rfl dX6_fund_162 ?_
      refine z_gFI 6 7 hX (by decide) rfl (by decide) rfl q_203 dX6_fund_163 (fun x38 => ?_)
      refine z_iload_n hX 1 rfl rfl dX6_fund_166 ?_
      refine z_wI hX dX6_fund_167 (fun M39 => ?_)
      refine z_aload_n hX 0 rfl rfl dX6_fund_168 ?_
      refine z_dup hX rfl dX6_fund_169 ?_
      refine z_gFI 6 7 hX (by decide) rfl (by decide) rfl q_203 dX6_fund_170 (fun x40 => ?_)
      refine z_iconst (v := 1) hX (by decide) dX6_fund_173 ?_
      refine z_iadd hX dX6_fund_174 ?_
      refine z_pFI 6 7 hX (by decide) rfl (by decide) rfl q_203 rfl pd_1 rfl rfl dX6_fund_175 (fun M41 => ?_)
      refine z_aload_n hX 0 rfl rfl dX6_fund_178 ?_
      refine z_dup hX rfl dX6_fund_179 ?_
      refine z_gFI 6 8 hX (by decide) rfl (by decide) rfl q_207 dX6_fund_180 (fun x42 => ?_)
      refine z_iconst (v := 1) hX (by decide) dX6_fund_183 ?_
      refine z_iload_n hX 1 rfl rfl dX6_fund_184 ?_
      refine z_ishl hX dX6_fund_185 ?_
      refine z_ior hX dX6_fund_186 ?_
      refine z_pFI 6 8 hX (by decide) rfl (by decide) rfl q_207 rfl pd_1 rfl rfl dX6_fund_187 (fun M43 => ?_)
      exact z_vretM hX dX6_fund_190 (Nat.le_of_ble_eq_true rfl) (Nat.le_of_ble_eq_true rfl)
    · intro kk19 rc20 hkk19 hrc20 u17
      unfold bd_X6_fund_66
      refine z_iload hX 5 rfl dX6_fund_66 ?_
      refine z_if_lt hX 158 (by decide) dX6_fund_68 (fun _ => ?_) (fun _ => ?_)
      · refine z_sub [0, 2] rfl ?_
        exact hkk19 (u17.1, u17.2.1, u17.2.2)
      · refine z_aload_n hX 0 rfl rfl dX6_fund_71 ?_
        refine z_gFR 6 6 hX (by decide) rfl (by decide) rfl q_202 dX6_fund_72 (fun r21 => ?_)
        refine z_iload hX 5 rfl dX6_fund_75 ?_
        refine z_aI hX dX6_fund_77 (fun x22 => ?_)
        refine z_iload_n hX 3 rfl rfl dX6_fund_78 ?_
        refine z_aload_n hX 0 rfl rfl dX6_fund_79 ?_
        refine z_gFR 6 5 hX (by decide) rfl (by decide) rfl q_201 dX6_fund_80 (fun r23 => ?_)
        refine z_iload hX 5 rfl dX6_fund_83 ?_
        refine z_aI hX dX6_fund_85 (fun x24 => ?_)
        refine z_imul hX dX6_fund_86 ?_
        refine z_min hX dX6_fund_87 q_718 q_480 q_97 q_481 (Nat.le_of_ble_eq_true rfl) (Nat.le_of_ble_eq_true rfl) ⟨(Nat.le_of_ble_eq_true rfl), (Nat.le_of_ble_eq_true rfl)⟩ ?_
        refine z_ltI (fun x25 => ?_)
        refine z_istore hX [(6, .int x25), (0, .ref v0), (1, .ref v1), (2, .int v2), (3, .int v3), (4, .int u17.1), (5, .int u17.2.1)] (by decide) rfl dX6_fund_90 ?_
        refine z_aload_n hX 1 rfl rfl dX6_fund_92 ?_
        refine z_gFR 6 6 hX (by decide) rfl (by decide) rfl q_202 dX6_fund_93 (fun r26 => ?_)
        refine z_iload hX 6 rfl dX6_fund_96 ?_
        refine z_aI hX dX6_fund_98 (fun x27 => ?_)
        refine z_iload_n hX 4 rfl rfl dX6_fund_99 ?_
        refine z_iconst (v := 1) hX (by decide) dX6_fund_100 ?_
        refine z_isub hX dX6_fund_101 ?_
        refine z_aload_n hX 1 rfl rfl dX6_fund_102 ?_
        refine z_gFR 6 5 hX (by decide) rfl (by decide) rfl q_201 dX6_fund_103 (fun r28 => ?_)
        refine z_iload hX 6 rfl dX6_fund_106 ?_
        refine z_aI hX dX6_fund_108 (fun x29 => ?_)
        refine z_imul hX dX6_fund_109 ?_
        refine z_min hX dX6_fund_110 q_718 q_480 q_97 q_481 (Nat.le_of_ble_eq_true rfl) (Nat.le_of_ble_eq_true rfl) ⟨(Nat.le_of_ble_eq_true rfl), (Nat.le_of_ble_eq_true rfl)⟩ ?_
        refine z_ltI (fun x30 => ?_)
        refine z_istore hX [(7, .int x30), (6, .int x25), (0, .ref v0), (1, .ref v1), (2, .int v2), (3, .int v3), (4, .int u17.1), (5, .int u17.2.1)] (by decide) rfl dX6_fund_113 ?_
        refine z_iload hX 6 rfl dX6_fund_115 ?_
        refine z_iload hX 1 rfl dX6_fund_117 ?_
        refine z_iload hX 0 rfl dX6_fund_119 ?_
        refine z_isub hX dX6_fund_121 ?_
        refine z_min hX dX6_fund_122 q_718 q_480 q_97 q_481 (Nat.le_of_ble_eq_true rfl) (Nat.le_of_ble_eq_true rfl) ⟨(Nat.le_of_ble_eq_true rfl), (Nat.le_of_ble_eq_true rfl)⟩ ?_
        refine z_ltI (fun x31 => ?_)
        refine z_istore hX [(8, .int x31), (7, .int x30), (6, .int x25), (0, .ref v0), (1, .ref v1), (2, .int v2), (3, .int v3), (4, .int u17.1), (5, .int u17.2.1)] (by decide) rfl dX6_fund_125 ?_
        refine z_iload hX 7 rfl dX6_fund_127 ?_
        refine z_iload hX 0 rfl dX6_fund_129 ?_
        refine z_isub hX dX6_fund_131 ?_
        refine z_ltI (fun x32 => ?_)
        refine z_istore hX [(4, .int x32), (8, .int x31), (7, .int x30), (6, .int x25), (0, .ref v0), (1, .ref v1), (2, .int v2), (3, .int v3), (5, .int u17.2.1)] (by decide) rfl dX6_fund_132 ?_
        refine z_aload_n hX 4 rfl rfl dX6_fund_134 ?_
        refine z_iload_n hX 6 rfl rfl dX6_fund_135 ?_
        refine z_iload hX 8 rfl dX6_fund_136 ?_
        refine z_aload_n hX 5 rfl rfl dX6_fund_138 ?_
        refine z_gFR 0 7 hX (by decide) rfl (by decide) rfl q_359 dX6_fund_139 (fun r33 => ?_)
        refine z_iload_n hX 6 rfl rfl dX6_fund_142 ?_
        refine z_aI hX dX6_fund_143 (fun x34 => ?_)
        refine z_iload hX 3 rfl dX6_fund_144 ?_
        refine z_iload hX 1 rfl dX6_fund_146 ?_
        refine z_isub hX dX6_fund_148 ?_
        refine z_cVVm 6 [.int v2, .int u17.2.1, .int x34, .int (x25 - x31)] hX (fun l hl o ho => c_X6_pay l hl u17.2.2 v0 v2 u17.2.1 x34 (x25 - x31) o ho) dX6_fund_149 (by decide) rfl rfl q_719 okV_X6_pay rfl ⟨(Nat.le_of_ble_eq_true rfl), (Nat.le_of_ble_eq_true rfl)⟩ rfl (Nat.le_of_ble_eq_true rfl) rfl rfl ⟨(Nat.le_of_ble_eq_true rfl), (Nat.le_of_ble_eq_true rfl)⟩ (fun o35 => ?_)
        obtain ⟨w36, hw36⟩ : ∃ z : Int32, u17.2.1 + (-1) = z := ⟨_, rfl⟩
        rw [hw36]
        refine z_iinc hX 8 [(5, .int w36), (4, .int x32), (8, .int x31), (7, .int x30), (6, .int x25), (0, .ref v0), (1, .ref v1), (2, .int v2), (3, .int v3)] rfl ((congrArg (fun z : Int32 => u17.2.1 + z) (show Int32.ofInt (-1) = (-1) by decide)).trans hw36) (by decide) rfl dX6_fund_152 ?_
        refine z_goto hX 66 (by decide) dX6_fund_155 ?_
        refine z_sub [5, 6, 7, 8, 1, 0] rfl ?_
        exact hrc20 (x32, w36, o35)
  · intro kk7 rc8 hkk7 hrc8 u5
    unfold bd_X6_fund_19
    refine z_iload hX 5 rfl dX6_fund_19 ?_
    refine z_aload_n hX 1 rfl rfl dX6_fund_21 ?_
    refine z_gFI 0 2 hX (by decide) rfl (by decide) rfl q_332 dX6_fund_22 (fun x9 => ?_)
    refine z_icmp_ge hX 58 (by decide) dX6_fund_25 (fun _ => ?_) (fun _ => ?_)
    · refine z_sub [0, 1, 2, 3, 4] rfl ?_
      exact hkk7 (u5.1, u5.2)
    · refine z_iload hX 4 rfl dX6_fund_28 ?_
      refine z_aload_n hX 0 rfl rfl dX6_fund_30 ?_
      refine z_gFR 6 6 hX (by decide) rfl (by decide) rfl q_202 dX6_fund_31 (fun r10 => ?_)
      refine z_iload hX 5 rfl dX6_fund_34 ?_
      refine z_aI hX dX6_fund_36 (fun x11 => ?_)
      refine z_iload_n hX 3 rfl rfl dX6_fund_37 ?_
      refine z_aload_n hX 0 rfl rfl dX6_fund_38 ?_
      refine z_gFR 6 5 hX (by decide) rfl (by decide) rfl q_201 dX6_fund_39 (fun r12 => ?_)
      refine z_iload hX 5 rfl dX6_fund_42 ?_
      refine z_aI hX dX6_fund_44 (fun x13 => ?_)
      refine z_imul hX dX6_fund_45 ?_
      refine z_min hX dX6_fund_46 q_718 q_480 q_97 q_481 (Nat.le_of_ble_eq_true rfl) (Nat.le_of_ble_eq_true rfl) ⟨(Nat.le_of_ble_eq_true rfl), (Nat.le_of_ble_eq_true rfl)⟩ ?_
      refine z_iadd hX dX6_fund_49 ?_
      refine z_ltI (fun x14 => ?_)
      refine z_istore hX [(4, .int x14), (0, .ref v0), (1, .ref v1), (2, .int v2), (3, .int v3), (5, .int u5.2)] (by decide) rfl dX6_fund_50 ?_
      refine z_iinc hX 5 [(5, .int (u5.2 + 1)), (4, .int x14), (0, .ref v0), (1, .ref v1), (2, .int v2), (3, .int v3)] rfl rfl (by decide) rfl dX6_fund_52 ?_
      refine z_goto hX 19 (by decide) dX6_fund_55 ?_
      refine z_sub [2, 3, 4, 5, 1, 0] rfl ?_
      exact hrc8 (x14, u5.2 + 1)
theorem c_X6_fund (l : Launch) (hl : l.stackTraces = false) (M : Mem) (v0 : Nat) (v1 : Nat) (v2 : Int32) (v3 : Int32) (o : Mem) (ho : f_X6_fund M v0 v1 v2 v3 = some o) : Ct l yX6_fund cX6_fund 9 (none) rm_X6_fund [.ref v0, .ref v1, .int v2, .int v3] M (none) o :=
  Ct.of hl (by decide +kernel) (Nat.le_of_ble_eq_true rfl) rfl (fun X hX hin => z_X6_fund hX M v0 v1 v2 v3 o ho)
theorem okV_X6_fund : okV yX6_fund cX6_fund 9 (none) 3 := ⟨q_716, q_11, q_91, q_717, by unfold okY; decide +kernel⟩
