/-! ParticipatoryBudget$Text.wordKind()I -/
abbrev rm_X7_wordKind : Room := { frames := 8, cells := 0, slots := 0, locals := 203 }
set_option maxRecDepth 20000 in
set_option maxHeartbeats 4000000 in
theorem z_X7_wordKind {X : Cxt} (hX : okX X cX7_wordKind RX7 rm_X7_wordKind (some .int) 1) (M : Mem) (v0 : Nat) : Zj X (fun o : Int32 => Qr X rm_X7_wordKind.cells rm_X7_wordKind.slots (some (.int o)) M) 0 0 0 [(0, .ref v0)] [] M (f_X7_wordKind M v0) := by
  unfold f_X7_wordKind
  refine z_aload_n hX 0 rfl rfl dX7_wordKind_0 ?_
  refine z_ldcS 0 hX (by decide) rfl dX7_wordKind_1 (fun s1 => ?_)
  refine z_cVIp 7 [.ref s1] hX (fun l hl o ho => c_X7_isWord l hl M v0 s1 o ho) dX7_wordKind_3 (by decide) rfl rfl q_502 okV_X7_isWord rfl ⟨(Nat.le_of_ble_eq_true rfl), (Nat.le_of_ble_eq_true rfl)⟩ rfl (Nat.le_of_ble_eq_true rfl) rfl rfl ⟨(Nat.le_of_ble_eq_true rfl), (Nat.le_of_ble_eq_true rfl)⟩ (fun o2 => ?_)
  refine z_if_eq hX 11 (by decide) dX7_wordKind_6 (fun _ => ?_) (fun _ => ?_)
  · refine z_aload_n hX 0 rfl rfl dX7_wordKind_11 ?_
    refine z_ldcS 1 hX (by decide) rfl dX7_wordKind_12 (fun s3 => ?_)
    refine z_cVIp 7 [.ref s3] hX (fun l hl o ho => c_X7_isWord l hl M v0 s3 o ho) dX7_wordKind_14 (by decide) rfl rfl q_502 okV_X7_isWord rfl ⟨(Nat.le_of_ble_eq_true rfl), (Nat.le_of_ble_eq_true rfl)⟩ rfl (Nat.le_of_ble_eq_true rfl) rfl rfl ⟨(Nat.le_of_ble_eq_true rfl), (Nat.le_of_ble_eq_true rfl)⟩ (fun o4 => ?_)
    refine z_if_eq hX 23 (by decide) dX7_wordKind_17 (fun _ => ?_) (fun _ => ?_)
    · refine z_aload_n hX 0 rfl rfl dX7_wordKind_23 ?_
      refine z_ldcS 2 hX (by decide) rfl dX7_wordKind_24 (fun s5 => ?_)
      refine z_cVIp 7 [.ref s5] hX (fun l hl o ho => c_X7_isWord l hl M v0 s5 o ho) dX7_wordKind_26 (by decide) rfl rfl q_502 okV_X7_isWord rfl ⟨(Nat.le_of_ble_eq_true rfl), (Nat.le_of_ble_eq_true rfl)⟩ rfl (Nat.le_of_ble_eq_true rfl) rfl rfl ⟨(Nat.le_of_ble_eq_true rfl), (Nat.le_of_ble_eq_true rfl)⟩ (fun o6 => ?_)
      refine z_if_eq hX 35 (by decide) dX7_wordKind_29 (fun _ => ?_) (fun _ => ?_)
      · refine z_aload_n hX 0 rfl rfl dX7_wordKind_35 ?_
        refine z_ldcS 3 hX (by decide) rfl dX7_wordKind_36 (fun s7 => ?_)
        refine z_cVIp 7 [.ref s7] hX (fun l hl o ho => c_X7_isWord l hl M v0 s7 o ho) dX7_wordKind_38 (by decide) rfl rfl q_502 okV_X7_isWord rfl ⟨(Nat.le_of_ble_eq_true rfl), (Nat.le_of_ble_eq_true rfl)⟩ rfl (Nat.le_of_ble_eq_true rfl) rfl rfl ⟨(Nat.le_of_ble_eq_true rfl), (Nat.le_of_ble_eq_true rfl)⟩ (fun o8 => ?_)
        refine z_if_eq hX 47 (by decide) dX7_wordKind_41 (fun _ => ?_) (fun _ => ?_)
        · refine z_aload_n hX 0 rfl rfl dX7_wordKind_47 ?_
          refine z_ldcS 4 hX (by decide) rfl dX7_wordKind_48 (fun s9 => ?_)
          refine z_cVIp 7 [.ref s9] hX (fun l hl o ho => c_X7_isWord l hl M v0 s9 o ho) dX7_wordKind_50 (by decide) rfl rfl q_502 okV_X7_isWord rfl ⟨(Nat.le_of_ble_eq_true rfl), (Nat.le_of_ble_eq_true rfl)⟩ rfl (Nat.le_of_ble_eq_true rfl) rfl rfl ⟨(Nat.le_of_ble_eq_true rfl), (Nat.le_of_ble_eq_true rfl)⟩ (fun o10 => ?_)
          refine z_if_eq hX 59 (by decide) dX7_wordKind_53 (fun _ => ?_) (fun _ => ?_)
          · refine z_aload_n hX 0 rfl rfl dX7_wordKind_59 ?_
            refine z_ldcS 5 hX (by decide) rfl dX7_wordKind_60 (fun s11 => ?_)
            refine z_cVIp 7 [.ref s11] hX (fun l hl o ho => c_X7_isWord l hl M v0 s11 o ho) dX7_wordKind_62 (by decide) rfl rfl q_502 okV_X7_isWord rfl ⟨(Nat.le_of_ble_eq_true rfl), (Nat.le_of_ble_eq_true rfl)⟩ rfl (Nat.le_of_ble_eq_true rfl) rfl rfl ⟨(Nat.le_of_ble_eq_true rfl), (Nat.le_of_ble_eq_true rfl)⟩ (fun o12 => ?_)
            refine z_if_eq hX 71 (by decide) dX7_wordKind_65 (fun _ => ?_) (fun _ => ?_)
            · refine z_aload_n hX 0 rfl rfl dX7_wordKind_71 ?_
              refine z_ldcS 6 hX (by decide) rfl dX7_wordKind_72 (fun s13 => ?_)
              refine z_cVIp 7 [.ref s13] hX (fun l hl o ho => c_X7_isWord l hl M v0 s13 o ho) dX7_wordKind_74 (by decide) rfl rfl q_502 okV_X7_isWord rfl ⟨(Nat.le_of_ble_eq_true rfl), (Nat.le_of_ble_eq_true rfl)⟩ rfl (Nat.le_of_ble_eq_true rfl) rfl rfl ⟨(Nat.le_of_ble_eq_true rfl), (Nat.le_of_ble_eq_true rfl)⟩ (fun o14 => ?_)
              refine z_if_eq hX 83 (by decide) dX7_wordKind_77 (fun _ => ?_) (fun _ => ?_)
              · refine z_aload_n hX 0 rfl rfl dX7_wordKind_83 ?_
                refine z_ldcS 7 hX (by decide) rfl dX7_wordKind_84 (fun s15 => ?_)
                refine z_cVIp 7 [.ref s15] hX (fun l hl o ho => c_X7_isWord l hl M v0 s15 o ho) dX7_wordKind_86 (by decide) rfl rfl q_502 okV_X7_isWord rfl ⟨(Nat.le_of_ble_eq_true rfl), (Nat.le_of_ble_eq_true rfl)⟩ rfl (Nat.le_of_ble_eq_true rfl) rfl rfl ⟨(Nat.le_of_ble_eq_true rfl), (Nat.le_of_ble_eq_true rfl)⟩ (fun o16 => ?_)
                refine z_if_eq hX 95 (by decide) dX7_wordKind_89 (fun _ => ?_) (fun _ => ?_)
                · refine z_aload_n hX 0 rfl rfl dX7_wordKind_95 ?_
                  refine z_ldcS 8 hX (by decide) rfl dX7_wordKind_96 (fun s17 => ?_)
                  refine z_cVIp 7 [.ref s17] hX (fun l hl o ho => c_X7_isWord l hl M v0 s17 o ho) dX7_wordKind_98 (by decide) rfl rfl q_502 okV_X7_isWord rfl ⟨(Nat.le_of_ble_eq_true rfl), (Nat.le_of_ble_eq_true rfl)⟩ rfl (Nat.le_of_ble_eq_true rfl) rfl rfl ⟨(Nat.le_of_ble_eq_true rfl), (Nat.le_of_ble_eq_true rfl)⟩ (fun o18 => ?_)
                  refine z_if_eq hX 107 (by decide) dX7_wordKind_101 (fun _ => ?_) (fun _ => ?_)
                  · refine z_aload_n hX 0 rfl rfl dX7_wordKind_107 ?_
                    refine z_ldcS 9 hX (by decide) rfl dX7_wordKind_108 (fun s19 => ?_)
                    refine z_cVIp 7 [.ref s19] hX (fun l hl o ho => c_X7_isWord l hl M v0 s19 o ho) dX7_wordKind_110 (by decide) rfl rfl q_502 okV_X7_isWord rfl ⟨(Nat.le_of_ble_eq_true rfl), (Nat.le_of_ble_eq_true rfl)⟩ rfl (Nat.le_of_ble_eq_true rfl) rfl rfl ⟨(Nat.le_of_ble_eq_true rfl), (Nat.le_of_ble_eq_true rfl)⟩ (fun o20 => ?_)
                    refine z_if_eq hX 119 (by decide) dX7_wordKind_113 (fun _ => ?_) (fun _ => ?_)
                    · refine z_aload_n hX 0 rfl rfl dX7_wordKind_119 ?_
                      refine z_gFI 7 5 hX (by decide) rfl (by decide) rfl q_130 dX7_wordKind_120 (fun x21 => ?_)
                      refine z_aload_n hX 0 rfl rfl dX7_wordKind_123 ?_
                      refine z_gFI 7 3 hX (by decide) rfl (by decide) rfl q_127 dX7_wordKind_124 (fun x22 => ?_)
                      refine z_isub hX dX7_wordKind_127 ?_
                      refine z_bipush (v := 6) hX (by decide) dX7_wordKind_128 ?_
                      refine z_jn (C' := 0) (S' := 0) 138 (fun (j23 : Int32) => []) (fun (j23 : Int32) => [.int j23]) (fun (j23 : Int32) => M) (fun j23 => ?_) (fun kj23 => ?_)
                      · exact z_iretP hX dX7_wordKind_138 (Nat.le_of_ble_eq_true rfl) (Nat.le_of_ble_eq_true rfl)
                      · refine z_iteB ?_
                        refine z_icmp_gt hX 137 (by decide) dX7_wordKind_130 (fun _ => ?_) (fun _ => ?_)
                        · refine z_iconst (v := 4) hX (by decide) dX7_wordKind_137 ?_
                          refine z_pure ?_
                          refine z_sub [] rfl ?_
                          exact kj23 4
                        · refine z_iconst (v := 1) hX (by decide) dX7_wordKind_133 ?_
                          refine z_goto hX 138 (by decide) dX7_wordKind_134 ?_
                          refine z_pure ?_
                          refine z_sub [] rfl ?_
                          exact kj23 1
                    · refine z_bipush (v := 14) hX (by decide) dX7_wordKind_116 ?_
                      exact z_iretP hX dX7_wordKind_118 (Nat.le_of_ble_eq_true rfl) (Nat.le_of_ble_eq_true rfl)
                  · refine z_bipush (v := 13) hX (by decide) dX7_wordKind_104 ?_
                    exact z_iretP hX dX7_wordKind_106 (Nat.le_of_ble_eq_true rfl) (Nat.le_of_ble_eq_true rfl)
                · refine z_bipush (v := 12) hX (by decide) dX7_wordKind_92 ?_
                  exact z_iretP hX dX7_wordKind_94 (Nat.le_of_ble_eq_true rfl) (Nat.le_of_ble_eq_true rfl)
              · refine z_bipush (v := 11) hX (by decide) dX7_wordKind_80 ?_
                exact z_iretP hX dX7_wordKind_82 (Nat.le_of_ble_eq_true rfl) (Nat.le_of_ble_eq_true rfl)
            · refine z_bipush (v := 10) hX (by decide) dX7_wordKind_68 ?_
              exact z_iretP hX dX7_wordKind_70 (Nat.le_of_ble_eq_true rfl) (Nat.le_of_ble_eq_true rfl)
          · refine z_bipush (v := 9) hX (by decide) dX7_wordKind_56 ?_
            exact z_iretP hX dX7_wordKind_58 (Nat.le_of_ble_eq_true rfl) (Nat.le_of_ble_eq_true rfl)
        · refine z_bipush (v := 8) hX (by decide) dX7_wordKind_44 ?_
          exact z_iretP hX dX7_wordKind_46 (Nat.le_of_ble_eq_true rfl) (Nat.le_of_ble_eq_true rfl)
      · refine z_bipush (v := 7) hX (by decide) dX7_wordKind_32 ?_
        exact z_iretP hX dX7_wordKind_34 (Nat.le_of_ble_eq_true rfl) (Nat.le_of_ble_eq_true rfl)
    · refine z_bipush (v := 6) hX (by decide) dX7_wordKind_20 ?_
      exact z_iretP hX dX7_wordKind_22 (Nat.le_of_ble_eq_true rfl) (Nat.le_of_ble_eq_true rfl)
  · refine z_iconst (v := 5) hX (by decide) dX7_wordKind_9 ?_
    exact z_iretP hX dX7_wordKind_10 (Nat.le_of_ble_eq_true rfl) (Nat.le_of_ble_eq_true rfl)
theorem c_X7_wordKind (l : Launch) (hl : l.stackTraces = false) (M : Mem) (v0 : Nat) (o : Int32) (ho : f_X7_wordKind M v0 = some o) : Ct l yX7_wordKind cX7_wordKind 1 (some .int) rm_X7_wordKind [.ref v0] M (some (.int o)) M :=
  Ct.of hl (by decide +kernel) (Nat.le_of_ble_eq_true rfl) rfl (fun X hX hin => z_X7_wordKind hX M v0 o ho)
theorem okV_X7_wordKind : okV yX7_wordKind cX7_wordKind 1 (some .int) 0 := ⟨q_499, q_0, q_87, q_500, by unfold okY; decide +kernel⟩
/-! ParticipatoryBudget$Text.isDigit(I)Z -/
abbrev rm_X7_isDigit : Room := { frames := 0, cells := 0, slots := 0, locals := 0 }
set_option maxRecDepth 20000 in
set_option maxHeartbeats 4000000 in
theorem z_X7_isDigit {X : Cxt} (hX : okX X cX7_isDigit RX7 rm_X7_isDigit (some .boolean) 1) (M : Mem) (v0 : Int32) : Zj X (fun o : Int32 => Qr X rm_X7_isDigit.cells rm_X7_isDigit.slots (some (.int o)) M) 0 0 0 [(0, .int v0)] [] M (f_X7_isDigit M v0) := by
  unfold f_X7_isDigit
  refine z_iload_n hX 0 rfl rfl dX7_isDigit_0 ?_
  refine z_bipush (v := 48) hX (by decide) dX7_isDigit_1 ?_
  refine z_jn (C' := 0) (S' := 0) 17 (fun (j1 : Int32) => []) (fun (j1 : Int32) => [.int j1]) (fun (j1 : Int32) => M) (fun j1 => ?_) (fun kj1 => ?_)
  · exact z_zretP hX dX7_isDigit_17 (Nat.le_of_ble_eq_true rfl) (Nat.le_of_ble_eq_true rfl)
  · refine z_iteB ?_
    refine z_icmp_lt hX 16 (by decide) dX7_isDigit_3 (fun _ => ?_) (fun _ => ?_)
    · refine z_iconst (v := 0) hX (by decide) dX7_isDigit_16 ?_
      refine z_pure ?_
      refine z_sub [] rfl ?_
      exact kj1 0
    · refine z_iload_n hX 0 rfl rfl dX7_isDigit_6 ?_
      refine z_bipush (v := 57) hX (by decide) dX7_isDigit_7 ?_
      refine z_iteB ?_
      refine z_icmp_gt hX 16 (by decide) dX7_isDigit_9 (fun _ => ?_) (fun _ => ?_)
      · refine z_iconst (v := 0) hX (by decide) dX7_isDigit_16 ?_
        refine z_pure ?_
        refine z_sub [] rfl ?_
        exact kj1 0
      · refine z_iconst (v := 1) hX (by decide) dX7_isDigit_12 ?_
        refine z_goto hX 17 (by decide) dX7_isDigit_13 ?_
        refine z_pure ?_
        refine z_sub [] rfl ?_
        exact kj1 1
theorem c_X7_isDigit (l : Launch) (hl : l.stackTraces = false) (M : Mem) (v0 : Int32) (o : Int32) (ho : f_X7_isDigit M v0 = some o) : Ct l yX7_isDigit cX7_isDigit 1 (some .boolean) rm_X7_isDigit [.int v0] M (some (.int o)) M :=
  Ct.of hl (by decide +kernel) (Nat.le_of_ble_eq_true rfl) rfl (fun X hX hin => z_X7_isDigit hX M v0 o ho)
theorem okS_X7_isDigit : okS yX7_isDigit cX7_isDigit 1 (some .boolean) 1 := ⟨q_564, q_87, q_565, by unfold okY; decide +kernel⟩
/-! ParticipatoryBudget$Text.next()V -/
abbrev rm_X7_next : Room := { frames := 9, cells := 0, slots := 0, locals := 223 }
set_option maxRecDepth 20000 in
set_option maxHeartbeats 4000000 in
theorem z_X7_next {X : Cxt} (hX : okX X cX7_next RX7 rm_X7_next (none) 1) (M : Mem) (v0 : Nat) : Zj X (fun o : Mem => Qr X rm_X7_next.cells rm_X7_next.slots (none) o) 0 0 0 [(0, .ref v0)] [] M (f_X7_next M v0) := by
  unfold f_X7_next
  refine z_sub [0] rfl ?_
  refine z_lp (x0 := M) (bd_X7_next_0 v0) 0 52 (fun (u1 : Mem) => [(0, .ref v0)]) (fun (e2 : Mem) => [(0, .ref v0)]) (fun (u1 : Mem) => u1) ?_ ?_
  · intro e2
    refine z_aload_n hX 0 rfl rfl dX7_next_52 ?_
    refine z_aload_n hX 0 rfl rfl dX7_next_53 ?_
    refine z_gFI 7 5 hX (by decide) rfl (by decide) rfl q_130 dX7_next_54 (fun x17 => ?_)
    refine z_pFI 7 3 hX (by decide) rfl (by decide) rfl q_127 rfl pd_1 rfl rfl dX7_next_57 (fun M18 => ?_)
    refine z_aload_n hX 0 rfl rfl dX7_next_60 ?_
    refine z_gFI 7 3 hX (by decide) rfl (by decide) rfl q_127 dX7_next_61 (fun x19 => ?_)
    refine z_aload_n hX 0 rfl rfl dX7_next_64 ?_
    refine z_gFI 7 4 hX (by decide) rfl (by decide) rfl q_129 dX7_next_65 (fun x20 => ?_)
    refine z_jn (C' := 0) (S' := 0) 239 (fun (j21 : Mem) => []) (fun (j21 : Mem) => []) (fun (j21 : Mem) => j21) (fun j21 => ?_) (fun kj21 => ?_)
    · exact z_vretM hX dX7_next_239 (Nat.le_of_ble_eq_true rfl) (Nat.le_of_ble_eq_true rfl)
    · refine z_iteB ?_
      refine z_icmp_lt hX 79 (by decide) dX7_next_68 (fun _ => ?_) (fun _ => ?_)
      · refine z_aload_n hX 0 rfl rfl dX7_next_79 ?_
        refine z_asc ?_
        refine z_gFR 7 0 hX (by decide) rfl (by decide) rfl q_122 dX7_next_80 (fun r22 => ?_)
        refine z_aload_n hX 0 rfl rfl dX7_next_83 ?_
        refine z_asc ?_
        refine z_gFI 7 3 hX (by decide) rfl (by decide) rfl q_127 dX7_next_84 (fun x23 => ?_)
        refine z_asc ?_
        refine z_aB hX dX7_next_87 (fun x24 => ?_)
        refine z_asc ?_
        refine z_cSIp [.int x24] hX (fun l hl o ho => c_X7_isLetter l hl M18 x24 o ho) dX7_next_88 q_494 okS_X7_isLetter rfl ⟨(Nat.le_of_ble_eq_true rfl), (Nat.le_of_ble_eq_true rfl)⟩ rfl (Nat.le_of_ble_eq_true rfl) rfl rfl ⟨(Nat.le_of_ble_eq_true rfl), (Nat.le_of_ble_eq_true rfl)⟩ (fun o25 => ?_)
        refine z_iteB ?_
        refine z_if_eq hX 144 (by decide) dX7_next_91 (fun _ => ?_) (fun _ => ?_)
        · refine z_aload_n hX 0 rfl rfl dX7_next_144 ?_
          refine z_asc ?_
          refine z_gFR 7 0 hX (by decide) rfl (by decide) rfl q_122 dX7_next_145 (fun r26 => ?_)
          refine z_aload_n hX 0 rfl rfl dX7_next_148 ?_
          refine z_asc ?_
          refine z_gFI 7 3 hX (by decide) rfl (by decide) rfl q_127 dX7_next_149 (fun x27 => ?_)
          refine z_asc ?_
          refine z_aB hX dX7_next_152 (fun x28 => ?_)
          refine z_asc ?_
          refine z_cSIp [.int x28] hX (fun l hl o ho => c_X7_isDigit l hl M18 x28 o ho) dX7_next_153 q_563 okS_X7_isDigit rfl ⟨(Nat.le_of_ble_eq_true rfl), (Nat.le_of_ble_eq_true rfl)⟩ rfl (Nat.le_of_ble_eq_true rfl) rfl rfl ⟨(Nat.le_of_ble_eq_true rfl), (Nat.le_of_ble_eq_true rfl)⟩ (fun o29 => ?_)
          refine z_iteB ?_
          refine z_if_eq hX 206 (by decide) dX7_next_156 (fun _ => ?_) (fun _ => ?_)
          · refine z_aload_n hX 0 rfl rfl dX7_next_206 ?_
            refine z_dup hX rfl dX7_next_207 ?_
            refine z_asc ?_
            refine z_gFI 7 5 hX (by decide) rfl (by decide) rfl q_130 dX7_next_208 (fun x30 => ?_)
            refine z_iconst (v := 1) hX (by decide) dX7_next_211 ?_
            refine z_iadd hX dX7_next_212 ?_
            refine z_asc ?_
            refine z_pFI 7 5 hX (by decide) rfl (by decide) rfl q_130 rfl pd_1 rfl rfl dX7_next_213 (fun M31 => ?_)
            refine z_aload_n hX 0 rfl rfl dX7_next_216 ?_
            refine z_aload_n hX 0 rfl rfl dX7_next_217 ?_
            refine z_asc ?_
            refine z_gFR 7 0 hX (by decide) rfl (by decide) rfl q_122 dX7_next_218 (fun r32 => ?_)
            refine z_aload_n hX 0 rfl rfl dX7_next_221 ?_
            refine z_asc ?_
            refine z_gFI 7 3 hX (by decide) rfl (by decide) rfl q_127 dX7_next_222 (fun x33 => ?_)
            refine z_asc ?_
            refine z_aB hX dX7_next_225 (fun x34 => ?_)
            refine z_bipush (v := 59) hX (by decide) dX7_next_226 ?_
            refine z_asc ?_
            refine z_jn (C' := 0) (S' := 0) 236 (fun (j35 : Int32) => []) (fun (j35 : Int32) => [.int j35, .ref v0]) (fun (j35 : Int32) => M31) (fun j35 => ?_) (fun kj35 => ?_)
            · refine z_asc ?_
              refine z_pFI 7 2 hX (by decide) rfl (by decide) rfl q_126 rfl pd_1 rfl rfl dX7_next_236 (fun M36 => ?_)
              refine z_pure ?_
              refine z_sub [] rfl ?_
              exact kj21 M36
            · refine z_iteB ?_
              refine z_icmp_ne hX 235 (by decide) dX7_next_228 (fun _ => ?_) (fun _ => ?_)
              · refine z_iconst (v := 4) hX (by decide) dX7_next_235 ?_
                refine z_pure ?_
                refine z_sub [] rfl ?_
                exact kj35 4
              · refine z_iconst (v := 3) hX (by decide) dX7_next_231 ?_
                refine z_goto hX 236 (by decide) dX7_next_232 ?_
                refine z_pure ?_
                refine z_sub [] rfl ?_
                exact kj35 3
          · refine z_sub [0] rfl ?_
            refine z_lpB (x0 := M18) (bd_X7_next_159 v0) 159 198 (fun (u37 : Mem) => [(0, .ref v0)]) (fun (e38 : Mem) => [(0, .ref v0)]) (fun (u37 : Mem) => u37) ?_ ?_
            · intro e38
              refine z_aload_n hX 0 rfl rfl dX7_next_198 ?_
              refine z_iconst (v := 2) hX (by decide) dX7_next_199 ?_
              refine z_asc ?_
              refine z_pFI 7 2 hX (by decide) rfl (by decide) rfl q_126 rfl pd_1 rfl rfl dX7_next_200 (fun M49 => ?_)
              refine z_goto hX 239 (by decide) dX7_next_203 ?_
              refine z_pure ?_
              refine z_sub [] rfl ?_
              exact kj21 M49
            · intro kk39 rc40 hkk39 hrc40 u37
              unfold bd_X7_next_159
              refine z_aload_n hX 0 rfl rfl dX7_next_159 ?_
              refine z_asc ?_
              refine z_gFI 7 5 hX (by decide) rfl (by decide) rfl q_130 dX7_next_160 (fun x41 => ?_)
              refine z_aload_n hX 0 rfl rfl dX7_next_163 ?_
              refine z_asc ?_
              refine z_gFI 7 4 hX (by decide) rfl (by decide) rfl q_129 dX7_next_164 (fun x42 => ?_)
              refine z_iteB ?_
              refine z_icmp_ge hX 198 (by decide) dX7_next_167 (fun _ => ?_) (fun _ => ?_)
              · refine z_sub [0] rfl ?_
                exact hkk39 u37
              · refine z_aload_n hX 0 rfl rfl dX7_next_170 ?_
                refine z_asc ?_
                refine z_gFR 7 0 hX (by decide) rfl (by decide) rfl q_122 dX7_next_171 (fun r43 => ?_)
                refine z_aload_n hX 0 rfl rfl dX7_next_174 ?_
                refine z_asc ?_
                refine z_gFI 7 5 hX (by decide) rfl (by decide) rfl q_130 dX7_next_175 (fun x44 => ?_)
                refine z_asc ?_
                refine z_aB hX dX7_next_178 (fun x45 => ?_)
                refine z_asc ?_
                refine z_cSIp [.int x45] hX (fun l hl o ho => c_X7_isDigit l hl u37 x45 o ho) dX7_next_179 q_563 okS_X7_isDigit rfl ⟨(Nat.le_of_ble_eq_true rfl), (Nat.le_of_ble_eq_true rfl)⟩ rfl (Nat.le_of_ble_eq_true rfl) rfl rfl ⟨(Nat.le_of_ble_eq_true rfl), (Nat.le_of_ble_eq_true rfl)⟩ (fun o46 => ?_)
                refine z_iteB ?_
                refine z_if_eq hX 198 (by decide) dX7_next_182 (fun _ => ?_) (fun _ => ?_)
                · refine z_sub [0] rfl ?_
                  exact hkk39 u37
                · refine z_aload_n hX 0 rfl rfl dX7_next_185 ?_
                  refine z_dup hX rfl dX7_next_186 ?_
                  refine z_asc ?_
                  refine z_gFI 7 5 hX (by decide) rfl (by decide) rfl q_130 dX7_next_187 (fun x47 => ?_)
                  refine z_iconst (v := 1) hX (by decide) dX7_next_190 ?_
                  refine z_iadd hX dX7_next_191 ?_
                  refine z_asc ?_
                  refine z_pFI 7 5 hX (by decide) rfl (by decide) rfl q_130 rfl pd_1 rfl rfl dX7_next_192 (fun M48 => ?_)
                  refine z_goto hX 159 (by decide) dX7_next_195 ?_
                  refine z_sub [0] rfl ?_
                  exact hrc40 M48
        · refine z_sub [0] rfl ?_
          refine z_lpB (x0 := M18) (bd_X7_next_94 v0) 94 133 (fun (u50 : Mem) => [(0, .ref v0)]) (fun (e51 : Mem) => [(0, .ref v0)]) (fun (u50 : Mem) => u50) ?_ ?_
          · intro e51
            refine z_aload_n hX 0 rfl rfl dX7_next_133 ?_
            refine z_aload_n hX 0 rfl rfl dX7_next_134 ?_
            refine z_asc ?_
            refine z_asc2 ?_
            refine z_cVIp 7 [] hX (fun l hl o ho => c_X7_wordKind l hl e51 v0 o ho) dX7_next_135 (by decide) rfl rfl q_497 okV_X7_wordKind rfl ⟨(Nat.le_of_ble_eq_true rfl), (Nat.le_of_ble_eq_true rfl)⟩ rfl (Nat.le_of_ble_eq_true rfl) rfl rfl ⟨(Nat.le_of_ble_eq_true rfl), (Nat.le_of_ble_eq_true rfl)⟩ (fun o62 => ?_)
            refine z_asc ?_
            refine z_pFI 7 2 hX (by decide) rfl (by decide) rfl q_126 rfl pd_1 rfl rfl dX7_next_138 (fun M63 => ?_)
            refine z_goto hX 239 (by decide) dX7_next_141 ?_
            refine z_pure ?_
            refine z_sub [] rfl ?_
            exact kj21 M63
          · intro kk52 rc53 hkk52 hrc53 u50
            unfold bd_X7_next_94
            refine z_aload_n hX 0 rfl rfl dX7_next_94 ?_
            refine z_asc ?_
            refine z_gFI 7 5 hX (by decide) rfl (by decide) rfl q_130 dX7_next_95 (fun x54 => ?_)
            refine z_aload_n hX 0 rfl rfl dX7_next_98 ?_
            refine z_asc ?_
            refine z_gFI 7 4 hX (by decide) rfl (by decide) rfl q_129 dX7_next_99 (fun x55 => ?_)
            refine z_iteB ?_
            refine z_icmp_ge hX 133 (by decide) dX7_next_102 (fun _ => ?_) (fun _ => ?_)
            · refine z_sub [0] rfl ?_
              exact hkk52 u50
            · refine z_aload_n hX 0 rfl rfl dX7_next_105 ?_
              refine z_asc ?_
              refine z_gFR 7 0 hX (by decide) rfl (by decide) rfl q_122 dX7_next_106 (fun r56 => ?_)
              refine z_aload_n hX 0 rfl rfl dX7_next_109 ?_
              refine z_asc ?_
              refine z_gFI 7 5 hX (by decide) rfl (by decide) rfl q_130 dX7_next_110 (fun x57 => ?_)
              refine z_asc ?_
              refine z_aB hX dX7_next_113 (fun x58 => ?_)
              refine z_asc ?_
              refine z_cSIp [.int x58] hX (fun l hl o ho => c_X7_isLetter l hl u50 x58 o ho) dX7_next_114 q_494 okS_X7_isLetter rfl ⟨(Nat.le_of_ble_eq_true rfl), (Nat.le_of_ble_eq_true rfl)⟩ rfl (Nat.le_of_ble_eq_true rfl) rfl rfl ⟨(Nat.le_of_ble_eq_true rfl), (Nat.le_of_ble_eq_true rfl)⟩ (fun o59 => ?_)
              refine z_iteB ?_
              refine z_if_eq hX 133 (by decide) dX7_next_117 (fun _ => ?_) (fun _ => ?_)
              · refine z_sub [0] rfl ?_
                exact hkk52 u50
              · refine z_aload_n hX 0 rfl rfl dX7_next_120 ?_
                refine z_dup hX rfl dX7_next_121 ?_
                refine z_asc ?_
                refine z_gFI 7 5 hX (by decide) rfl (by decide) rfl q_130 dX7_next_122 (fun x60 => ?_)
                refine z_iconst (v := 1) hX (by decide) dX7_next_125 ?_
                refine z_iadd hX dX7_next_126 ?_
                refine z_asc ?_
                refine z_pFI 7 5 hX (by decide) rfl (by decide) rfl q_130 rfl pd_1 rfl rfl dX7_next_127 (fun M61 => ?_)
                refine z_goto hX 94 (by decide) dX7_next_130 ?_
                refine z_sub [0] rfl ?_
                exact hrc53 M61
      · refine z_aload_n hX 0 rfl rfl dX7_next_71 ?_
        refine z_iconst (v := 0) hX (by decide) dX7_next_72 ?_
        refine z_asc ?_
        refine z_pFI 7 2 hX (by decide) rfl (by decide) rfl q_126 rfl pd_1 rfl rfl dX7_next_73 (fun M64 => ?_)
        refine z_goto hX 239 (by decide) dX7_next_76 ?_
        refine z_pure ?_
        refine z_sub [] rfl ?_
        exact kj21 M64
  · intro kk3 rc4 hkk3 hrc4 u1
    unfold bd_X7_next_0
    refine z_aload_n hX 0 rfl rfl dX7_next_0 ?_
    refine z_gFI 7 5 hX (by decide) rfl (by decide) rfl q_130 dX7_next_1 (fun x5 => ?_)
    refine z_aload_n hX 0 rfl rfl dX7_next_4 ?_
    refine z_gFI 7 4 hX (by decide) rfl (by decide) rfl q_129 dX7_next_5 (fun x6 => ?_)
    refine z_icmp_ge hX 52 (by decide) dX7_next_8 (fun _ => ?_) (fun _ => ?_)
    · refine z_sub [0] rfl ?_
      exact hkk3 u1
    · refine z_aload_n hX 0 rfl rfl dX7_next_11 ?_
      refine z_gFR 7 0 hX (by decide) rfl (by decide) rfl q_122 dX7_next_12 (fun r7 => ?_)
      refine z_aload_n hX 0 rfl rfl dX7_next_15 ?_
      refine z_gFI 7 5 hX (by decide) rfl (by decide) rfl q_130 dX7_next_16 (fun x8 => ?_)
      refine z_aB hX dX7_next_19 (fun x9 => ?_)
      refine z_bipush (v := 32) hX (by decide) dX7_next_20 ?_
      refine z_icmp_eq hX 39 (by decide) dX7_next_22 (fun _ => ?_) (fun _ => ?_)
      · refine z_aload_n hX 0 rfl rfl dX7_next_39 ?_
        refine z_dup hX rfl dX7_next_40 ?_
        refine z_gFI 7 5 hX (by decide) rfl (by decide) rfl q_130 dX7_next_41 (fun x10 => ?_)
        refine z_iconst (v := 1) hX (by decide) dX7_next_44 ?_
        refine z_iadd hX dX7_next_45 ?_
        refine z_pFI 7 5 hX (by decide) rfl (by decide) rfl q_130 rfl pd_1 rfl rfl dX7_next_46 (fun M11 => ?_)
        refine z_goto hX 0 (by decide) dX7_next_49 ?_
        refine z_sub [0] rfl ?_
        exact hrc4 M11
      · refine z_aload_n hX 0 rfl rfl dX7_next_25 ?_
        refine z_gFR 7 0 hX (by decide) rfl (by decide) rfl q_122 dX7_next_26 (fun r12 => ?_)
        refine z_aload_n hX 0 rfl rfl dX7_next_29 ?_
        refine z_gFI 7 5 hX (by decide) rfl (by decide) rfl q_130 dX7_next_30 (fun x13 => ?_)
        refine z_aB hX dX7_next_33 (fun x14 => ?_)
        refine z_bipush (v := 10) hX (by decide) dX7_next_34 ?_
        refine z_icmp_ne hX 52 (by decide) dX7_next_36 (fun _ => ?_) (fun _ => ?_)
        · refine z_sub [0] rfl ?_
          exact hkk3 u1
        · refine z_aload_n hX 0 rfl rfl dX7_next_39 ?_
          refine z_dup hX rfl dX7_next_40 ?_
          refine z_gFI 7 5 hX (by decide) rfl (by decide) rfl q_130 dX7_next_41 (fun x15 => ?_)
          refine z_iconst (v := 1) hX (by decide) dX7_next_44 ?_
          refine z_iadd hX dX7_next_45 ?_
          refine z_pFI 7 5 hX (by decide) rfl (by decide) rfl q_130 rfl pd_1 rfl rfl dX7_next_46 (fun M16 => ?_)
          refine z_goto hX 0 (by decide) dX7_next_49 ?_
          refine z_sub [0] rfl ?_
          exact hrc4 M16
theorem c_X7_next (l : Launch) (hl : l.stackTraces = false) (M : Mem) (v0 : Nat) (o : Mem) (ho : f_X7_next M v0 = some o) : Ct l yX7_next cX7_next 1 (none) rm_X7_next [.ref v0] M (none) o :=
  Ct.of hl (by decide +kernel) (Nat.le_of_ble_eq_true rfl) rfl (fun X hX hin => z_X7_next hX M v0 o ho)
theorem okV_X7_next : okV yX7_next cX7_next 1 (none) 0 := ⟨q_491, q_492, q_87, q_493, by unfold okY; decide +kernel⟩
/-! ParticipatoryBudget$Text.letters()I -/
abbrev rm_X7_letters : Room := { frames := 0, cells := 0, slots := 0, locals := 0 }
set_option maxRecDepth 20000 in
set_option maxHeartbeats 4000000 in
theorem z_X7_letters {X : Cxt} (hX : okX X cX7_letters RX7 rm_X7_letters (some .int) 3) (M : Mem) (v0 : Nat) : Zj X (fun o : Int32 => Qr X rm_X7_letters.cells rm_X7_letters.slots (some (.int o)) M) 0 0 0 [(0, .ref v0)] [] M (f_X7_letters M v0) := by
  unfold f_X7_letters
  refine z_iconst (v := 0) hX (by decide) dX7_letters_0 ?_
  refine z_istore_n hX [(1, .int 0), (0, .ref v0)] rfl (by decide) rfl dX7_letters_1 ?_
  refine z_aload_n hX 1 rfl rfl dX7_letters_2 ?_
  refine z_gFI 7 3 hX (by decide) rfl (by decide) rfl q_127 dX7_letters_3 (fun x1 => ?_)
  refine z_istore_n hX [(2, .int x1), (1, .int 0), (0, .ref v0)] rfl (by decide) rfl dX7_letters_6 ?_
  refine z_sub [2, 1, 0] rfl ?_
  refine z_lp (x0 := (0, x1)) (bd_X7_letters_7 M v0) 7 52 (fun (u2 : Int32 × Int32) => [(0, .ref v0), (1, .int u2.1), (2, .int u2.2)]) (fun (e3 : Int32 × Int32) => [(1, .int e3.1)]) (fun (u2 : Int32 × Int32) => M) ?_ ?_
  · intro e3
    refine z_iload_n hX 0 rfl rfl dX7_letters_52 ?_
    exact z_iretP hX dX7_letters_53 (Nat.le_of_ble_eq_true rfl) (Nat.le_of_ble_eq_true rfl)
  · intro kk4 rc5 hkk4 hrc5 u2
    unfold bd_X7_letters_7
    refine z_iload_n hX 2 rfl rfl dX7_letters_7 ?_
    refine z_aload_n hX 0 rfl rfl dX7_letters_8 ?_
    refine z_gFI 7 3 hX (by decide) rfl (by decide) rfl q_127 dX7_letters_9 (fun x6 => ?_)
    refine z_bipush (v := 6) hX (by decide) dX7_letters_12 ?_
    refine z_iadd hX dX7_letters_14 ?_
    refine z_icmp_ge hX 52 (by decide) dX7_letters_15 (fun _ => ?_) (fun _ => ?_)
    · refine z_sub [1] rfl ?_
      exact hkk4 (u2.1, u2.2)
    · refine z_iload_n hX 1 rfl rfl dX7_letters_18 ?_
      refine z_iconst (v := 5) hX (by decide) dX7_letters_19 ?_
      refine z_ishl hX dX7_letters_20 ?_
      refine z_iload_n hX 2 rfl rfl dX7_letters_21 ?_
      refine z_aload_n hX 0 rfl rfl dX7_letters_22 ?_
      refine z_gFI 7 5 hX (by decide) rfl (by decide) rfl q_130 dX7_letters_23 (fun x7 => ?_)
      refine z_jn (C' := 0) (S' := 0) 44 (fun (j8 : Int32) => [(0, .ref v0), (2, .int u2.2)]) (fun (j8 : Int32) => [.int j8, .int (u2.1 <<< (5 &&& 31))]) (fun (j8 : Int32) => M) (fun j8 => ?_) (fun kj8 => ?_)
      · refine z_ior hX dX7_letters_44 ?_
        refine z_ltI (fun x9 => ?_)
        refine z_istore_n hX [(1, .int x9), (0, .ref v0), (2, .int u2.2)] rfl (by decide) rfl dX7_letters_45 ?_
        refine z_iinc hX 2 [(2, .int (u2.2 + 1)), (1, .int x9), (0, .ref v0)] rfl rfl (by decide) rfl dX7_letters_46 ?_
        refine z_goto hX 7 (by decide) dX7_letters_49 ?_
        refine z_sub [2, 1, 0] rfl ?_
        exact hrc5 (x9, u2.2 + 1)
      · refine z_iteB ?_
        refine z_icmp_ge hX 43 (by decide) dX7_letters_26 (fun _ => ?_) (fun _ => ?_)
        · refine z_iconst (v := 0) hX (by decide) dX7_letters_43 ?_
          refine z_pure ?_
          refine z_sub [0, 2] rfl ?_
          exact kj8 0
        · refine z_aload_n hX 0 rfl rfl dX7_letters_29 ?_
          refine z_asc ?_
          refine z_gFR 7 0 hX (by decide) rfl (by decide) rfl q_122 dX7_letters_30 (fun r10 => ?_)
          refine z_iload_n hX 2 rfl rfl dX7_letters_33 ?_
          refine z_asc ?_
          refine z_aB hX dX7_letters_34 (fun x11 => ?_)
          refine z_bipush (v := 97) hX (by decide) dX7_letters_35 ?_
          refine z_isub hX dX7_letters_37 ?_
          refine z_iconst (v := 1) hX (by decide) dX7_letters_38 ?_
          refine z_iadd hX dX7_letters_39 ?_
          refine z_goto hX 44 (by decide) dX7_letters_40 ?_
          refine z_pure ?_
          refine z_sub [0, 2] rfl ?_
          exact kj8 ((x11 - 97) + 1)
theorem c_X7_letters (l : Launch) (hl : l.stackTraces = false) (M : Mem) (v0 : Nat) (o : Int32) (ho : f_X7_letters M v0 = some o) : Ct l yX7_letters cX7_letters 3 (some .int) rm_X7_letters [.ref v0] M (some (.int o)) M :=
  Ct.of hl (by decide +kernel) (Nat.le_of_ble_eq_true rfl) rfl (fun X hX hin => z_X7_letters hX M v0 o ho)
theorem okV_X7_letters : okV yX7_letters cX7_letters 3 (some .int) 0 := ⟨q_573, q_574, q_87, q_575, by unfold okY; decide +kernel⟩
/-! ParticipatoryBudget.place([III)I -/
abbrev rm_X8_place : Room := { frames := 0, cells := 0, slots := 0, locals := 0 }
set_option maxRecDepth 20000 in
set_option maxHeartbeats 4000000 in
theorem z_X8_place {X : Cxt} (hX : okX X cX8_place RX8 rm_X8_place (some .int) 4) (M : Mem) (v0 : Nat) (v1 : Int32) (v2 : Int32) : Zj X (fun o : Int32 => Qr X rm_X8_place.cells rm_X8_place.slots (some (.int o)) M) 0 0 0 [(0, .ref v0), (1, .int v1), (2, .int v2)] [] M (f_X8_place M v0 v1 v2) := by
  unfold f_X8_place
  refine z_iconst (v := 0) hX (by decide) dX8_place_0 ?_
  refine z_istore_n hX [(3, .int 0), (0, .ref v0), (1, .int v1), (2, .int v2)] rfl (by decide) rfl dX8_place_1 ?_
  refine z_sub [1, 2, 3, 0] rfl ?_
  refine z_lp (x0 := 0) (bd_X8_place_2 M v0 v1 v2) 2 22 (fun (u1 : Int32) => [(0, .ref v0), (1, .int v1), (2, .int v2), (3, .int u1)]) (fun (e2 : Int32) => []) (fun (u1 : Int32) => M) ?_ ?_
  · intro e2
    refine z_iconst (v := (-1)) hX (by decide) dX8_place_22 ?_
    exact z_iretP hX dX8_place_23 (Nat.le_of_ble_eq_true rfl) (Nat.le_of_ble_eq_true rfl)
  · intro kk3 rc4 hkk3 hrc4 u1
    unfold bd_X8_place_2
    refine z_iload_n hX 3 rfl rfl dX8_place_2 ?_
    refine z_iload_n hX 1 rfl rfl dX8_place_3 ?_
    refine z_icmp_ge hX 22 (by decide) dX8_place_4 (fun _ => ?_) (fun _ => ?_)
    · refine z_sub [] rfl ?_
      exact hkk3 u1
    · refine z_aload_n hX 0 rfl rfl dX8_place_7 ?_
      refine z_iload_n hX 3 rfl rfl dX8_place_8 ?_
      refine z_aI hX dX8_place_9 (fun x5 => ?_)
      refine z_iload_n hX 2 rfl rfl dX8_place_10 ?_
      refine z_icmp_ne hX 16 (by decide) dX8_place_11 (fun _ => ?_) (fun _ => ?_)
      · refine z_iinc hX 3 [(3, .int (u1 + 1)), (0, .ref v0), (1, .int v1), (2, .int v2)] rfl rfl (by decide) rfl dX8_place_16 ?_
        refine z_goto hX 2 (by decide) dX8_place_19 ?_
        refine z_sub [1, 2, 3, 0] rfl ?_
        exact hrc4 (u1 + 1)
      · refine z_iload_n hX 3 rfl rfl dX8_place_14 ?_
        exact z_iretP hX dX8_place_15 (Nat.le_of_ble_eq_true rfl) (Nat.le_of_ble_eq_true rfl)
theorem c_X8_place (l : Launch) (hl : l.stackTraces = false) (M : Mem) (v0 : Nat) (v1 : Int32) (v2 : Int32) (o : Int32) (ho : f_X8_place M v0 v1 v2 = some o) : Ct l yX8_place cX8_place 4 (some .int) rm_X8_place [.ref v0, .int v1, .int v2] M (some (.int o)) M :=
  Ct.of hl (by decide +kernel) (Nat.le_of_ble_eq_true rfl) rfl (fun X hX hin => z_X8_place hX M v0 v1 v2 o ho)
theorem okS_X8_place : okS yX8_place cX8_place 4 (some .int) 3 := ⟨q_577, q_86, q_578, by unfold okY; decide +kernel⟩
/-! ParticipatoryBudget$Reader.newName(LParticipatoryBudget$Text;LParticipatoryBudget$Ballot;)I -/
abbrev rm_X5_newName : Room := { frames := 10, cells := 0, slots := 0, locals := 243 }
set_option maxRecDepth 20000 in
set_option maxHeartbeats 4000000 in
theorem z_X5_newName {X : Cxt} (hX : okX X cX5_newName RX5 rm_X5_newName (some .int) 4) (M : Mem) (v0 : Nat) (v1 : Nat) : Zj X (fun o : Int32 × Mem => Qr X rm_X5_newName.cells rm_X5_newName.slots (some (.int o.1)) o.2) 0 0 0 [(0, .ref v0), (1, .ref v1)] [] M (f_X5_newName M v0 v1) := by
  unfold f_X5_newName
  refine z_aload_n hX 0 rfl rfl dX5_newName_0 ?_
  refine z_cVVm 7 [] hX (fun l hl o ho => c_X7_next l hl M v0 o ho) dX5_newName_1 (by decide) rfl rfl q_490 okV_X7_next rfl ⟨(Nat.le_of_ble_eq_true rfl), (Nat.le_of_ble_eq_true rfl)⟩ rfl (Nat.le_of_ble_eq_true rfl) rfl rfl ⟨(Nat.le_of_ble_eq_true rfl), (Nat.le_of_ble_eq_true rfl)⟩ (fun o1 => ?_)
  refine z_aload_n hX 0 rfl rfl dX5_newName_4 ?_
  refine z_gFI 7 2 hX (by decide) rfl (by decide) rfl q_125 dX5_newName_5 (fun x2 => ?_)
  refine z_iconst (v := 1) hX (by decide) dX5_newName_8 ?_
  refine z_icmp_eq hX 15 (by decide) dX5_newName_9 (fun _ => ?_) (fun _ => ?_)
  · refine z_aload_n hX 0 rfl rfl dX5_newName_15 ?_
    refine z_cVIp 7 [] hX (fun l hl o ho => c_X7_letters l hl o1 v0 o ho) dX5_newName_16 (by decide) rfl rfl q_572 okV_X7_letters rfl ⟨(Nat.le_of_ble_eq_true rfl), (Nat.le_of_ble_eq_true rfl)⟩ rfl (Nat.le_of_ble_eq_true rfl) rfl rfl ⟨(Nat.le_of_ble_eq_true rfl), (Nat.le_of_ble_eq_true rfl)⟩ (fun o3 => ?_)
    refine z_istore_n hX [(2, .int o3), (0, .ref v0), (1, .ref v1)] rfl (by decide) rfl dX5_newName_19 ?_
    refine z_aload_n hX 2 rfl rfl dX5_newName_20 ?_
    refine z_gFR 0 3 hX (by decide) rfl (by decide) rfl q_336 dX5_newName_21 (fun r4 => ?_)
    refine z_aload_n hX 2 rfl rfl dX5_newName_24 ?_
    refine z_gFI 0 0 hX (by decide) rfl (by decide) rfl q_320 dX5_newName_25 (fun x5 => ?_)
    refine z_iload_n hX 0 rfl rfl dX5_newName_28 ?_
    refine z_cSNIp [.ref r4, .int x5, .int o3] hX (fun l hl o ho => c_X8_place l hl o1 r4 x5 o3 o ho) dX5_newName_29 nw_9 okS_X8_place rfl ⟨(Nat.le_of_ble_eq_true rfl), (Nat.le_of_ble_eq_true rfl)⟩ rfl (Nat.le_of_ble_eq_true rfl) rfl rfl ⟨(Nat.le_of_ble_eq_true rfl), (Nat.le_of_ble_eq_true rfl)⟩ (fun o6 => ?_)
    refine z_jn (C' := 0) (S' := 0) 55 (fun (j7 : Int32) => [(2, .int o3)]) (fun (j7 : Int32) => [.int j7]) (fun (j7 : Int32) => o1) (fun j7 => ?_) (fun kj7 => ?_)
    · refine z_istore_n hX [(3, .int j7), (2, .int o3)] rfl (by decide) rfl dX5_newName_55 ?_
      refine z_iload_n hX 0 rfl rfl dX5_newName_56 ?_
      refine z_jn (C' := 0) (S' := 0) 66 (fun (j8 : Int32) => []) (fun (j8 : Int32) => [.int j8]) (fun (j8 : Int32) => o1) (fun j8 => ?_) (fun kj8 => ?_)
      · exact z_iretM hX dX5_newName_66 (Nat.le_of_ble_eq_true rfl) (Nat.le_of_ble_eq_true rfl)
      · refine z_iteB ?_
        refine z_if_eq hX 65 (by decide) dX5_newName_57 (fun _ => ?_) (fun _ => ?_)
        · refine z_iload_n hX 1 rfl rfl dX5_newName_65 ?_
          refine z_pure ?_
          refine z_sub [] rfl ?_
          exact kj8 o3
        · refine z_bipush (v := (-14)) hX (by decide) dX5_newName_60 ?_
          refine z_goto hX 66 (by decide) dX5_newName_62 ?_
          refine z_pure ?_
          refine z_sub [] rfl ?_
          exact kj8 (-14)
    · refine z_iteB ?_
      refine z_if_ge hX 50 (by decide) dX5_newName_32 (fun _ => ?_) (fun _ => ?_)
      · refine z_iconst (v := 1) hX (by decide) dX5_newName_50 ?_
        refine z_goto hX 55 (by decide) dX5_newName_51 ?_
        refine z_pure ?_
        refine z_sub [0] rfl ?_
        exact kj7 1
      · refine z_aload_n hX 2 rfl rfl dX5_newName_35 ?_
        refine z_asc ?_
        refine z_gFR 0 5 hX (by decide) rfl (by decide) rfl q_346 dX5_newName_36 (fun r9 => ?_)
        refine z_aload_n hX 2 rfl rfl dX5_newName_39 ?_
        refine z_asc ?_
        refine z_gFI 0 1 hX (by decide) rfl (by decide) rfl q_328 dX5_newName_40 (fun x10 => ?_)
        refine z_iload_n hX 0 rfl rfl dX5_newName_43 ?_
        refine z_asc ?_
        refine z_cSNIp [.ref r9, .int x10, .int o3] hX (fun l hl o ho => c_X8_place l hl o1 r9 x10 o3 o ho) dX5_newName_44 nw_9 okS_X8_place rfl ⟨(Nat.le_of_ble_eq_true rfl), (Nat.le_of_ble_eq_true rfl)⟩ rfl (Nat.le_of_ble_eq_true rfl) rfl rfl ⟨(Nat.le_of_ble_eq_true rfl), (Nat.le_of_ble_eq_true rfl)⟩ (fun o11 => ?_)
        refine z_iteB ?_
        refine z_if_lt hX 54 (by decide) dX5_newName_47 (fun _ => ?_) (fun _ => ?_)
        · refine z_iconst (v := 0) hX (by decide) dX5_newName_54 ?_
          refine z_pure ?_
          refine z_sub [0] rfl ?_
          exact kj7 0
        · refine z_iconst (v := 1) hX (by decide) dX5_newName_50 ?_
          refine z_goto hX 55 (by decide) dX5_newName_51 ?_
          refine z_pure ?_
          refine z_sub [0] rfl ?_
          exact kj7 1
  · refine z_bipush (v := (-11)) hX (by decide) dX5_newName_12 ?_
    exact z_iretM hX dX5_newName_14 (Nat.le_of_ble_eq_true rfl) (Nat.le_of_ble_eq_true rfl)
theorem c_X5_newName (l : Launch) (hl : l.stackTraces = false) (M : Mem) (v0 : Nat) (v1 : Nat) (o : Int32 × Mem) (ho : f_X5_newName M v0 v1 = some o) : Ct l yX5_newName cX5_newName 4 (some .int) rm_X5_newName [.ref v0, .ref v1] M (some (.int o.1)) o.2 :=
  Ct.of hl (by decide +kernel) (Nat.le_of_ble_eq_true rfl) rfl (fun X hX hin => z_X5_newName hX M v0 v1 o ho)
theorem okS_X5_newName : okS yX5_newName cX5_newName 4 (some .int) 2 := ⟨q_570, q_88, q_571, by unfold okY; decide +kernel⟩
/-! ParticipatoryBudget$Text.number()I -/
abbrev rm_X7_number : Room := { frames := 1, cells := 0, slots := 0, locals := 13 }
set_option maxRecDepth 20000 in
set_option maxHeartbeats 4000000 in
theorem z_X7_number {X : Cxt} (hX : okX X cX7_number RX7 rm_X7_number (some .int) 3) (M : Mem) (v0 : Nat) : Zj X (fun o : Int32 => Qr X rm_X7_number.cells rm_X7_number.slots (some (.int o)) M) 0 0 0 [(0, .ref v0)] [] M (f_X7_number M v0) := by
  unfold f_X7_number
  refine z_iconst (v := 0) hX (by decide) dX7_number_0 ?_
  refine z_istore_n hX [(1, .int 0), (0, .ref v0)] rfl (by decide) rfl dX7_number_1 ?_
  refine z_aload_n hX 1 rfl rfl dX7_number_2 ?_
  refine z_gFI 7 3 hX (by decide) rfl (by decide) rfl q_127 dX7_number_3 (fun x1 => ?_)
  refine z_istore_n hX [(2, .int x1), (1, .int 0), (0, .ref v0)] rfl (by decide) rfl dX7_number_6 ?_
  refine z_sub [2, 1, 0] rfl ?_
  refine z_lp (x0 := (0, x1)) (bd_X7_number_7 M v0) 7 41 (fun (u2 : Int32 × Int32) => [(0, .ref v0), (1, .int u2.1), (2, .int u2.2)]) (fun (e3 : Int32 × Int32) => [(1, .int e3.1)]) (fun (u2 : Int32 × Int32) => M) ?_ ?_
  · intro e3
    refine z_iload_n hX 0 rfl rfl dX7_number_41 ?_
    exact z_iretP hX dX7_number_42 (Nat.le_of_ble_eq_true rfl) (Nat.le_of_ble_eq_true rfl)
  · intro kk4 rc5 hkk4 hrc5 u2
    unfold bd_X7_number_7
    refine z_iload_n hX 2 rfl rfl dX7_number_7 ?_
    refine z_aload_n hX 0 rfl rfl dX7_number_8 ?_
    refine z_gFI 7 5 hX (by decide) rfl (by decide) rfl q_130 dX7_number_9 (fun x6 => ?_)
    refine z_icmp_ge hX 41 (by decide) dX7_number_12 (fun _ => ?_) (fun _ => ?_)
    · refine z_sub [1] rfl ?_
      exact hkk4 (u2.1, u2.2)
    · refine z_iload_n hX 1 rfl rfl dX7_number_15 ?_
      refine z_bipush (v := 10) hX (by decide) dX7_number_16 ?_
      refine z_imul hX dX7_number_18 ?_
      refine z_aload_n hX 0 rfl rfl dX7_number_19 ?_
      refine z_gFR 7 0 hX (by decide) rfl (by decide) rfl q_122 dX7_number_20 (fun r7 => ?_)
      refine z_iload_n hX 2 rfl rfl dX7_number_23 ?_
      refine z_aB hX dX7_number_24 (fun x8 => ?_)
      refine z_iadd hX dX7_number_25 ?_
      refine z_bipush (v := 48) hX (by decide) dX7_number_26 ?_
      refine z_isub hX dX7_number_28 ?_
      refine z_ldc (v := 100001) hX q_587 dX7_number_29 ?_
      refine z_min hX dX7_number_31 q_479 q_480 q_97 q_481 (Nat.le_of_ble_eq_true rfl) (Nat.le_of_ble_eq_true rfl) ⟨(Nat.le_of_ble_eq_true rfl), (Nat.le_of_ble_eq_true rfl)⟩ ?_
      refine z_ltI (fun x9 => ?_)
      refine z_istore_n hX [(1, .int x9), (0, .ref v0), (2, .int u2.2)] rfl (by decide) rfl dX7_number_34 ?_
      refine z_iinc hX 2 [(2, .int (u2.2 + 1)), (1, .int x9), (0, .ref v0)] rfl rfl (by decide) rfl dX7_number_35 ?_
      refine z_goto hX 7 (by decide) dX7_number_38 ?_
      refine z_sub [2, 1, 0] rfl ?_
      exact hrc5 (x9, u2.2 + 1)
theorem c_X7_number (l : Launch) (hl : l.stackTraces = false) (M : Mem) (v0 : Nat) (o : Int32) (ho : f_X7_number M v0 = some o) : Ct l yX7_number cX7_number 3 (some .int) rm_X7_number [.ref v0] M (some (.int o)) M :=
  Ct.of hl (by decide +kernel) (Nat.le_of_ble_eq_true rfl) rfl (fun X hX hin => z_X7_number hX M v0 o ho)
theorem okV_X7_number : okV yX7_number cX7_number 3 (some .int) 0 := ⟨q_584, q_585, q_87, q_586, by unfold okY; decide +kernel⟩
/-! ParticipatoryBudget$Reader.integer(LParticipatoryBudget$Text;II)I -/
abbrev rm_X5_integer : Room := { frames := 10, cells := 0, slots := 0, locals := 243 }
set_option maxRecDepth 20000 in
set_option maxHeartbeats 4000000 in
theorem z_X5_integer {X : Cxt} (hX : okX X cX5_integer RX5 rm_X5_integer (some .int) 4) (M : Mem) (v0 : Nat) (v1 : Int32) (v2 : Int32) : Zj X (fun o : Int32 × Mem => Qr X rm_X5_integer.cells rm_X5_integer.slots (some (.int o.1)) o.2) 0 0 0 [(0, .ref v0), (1, .int v1), (2, .int v2)] [] M (f_X5_integer M v0 v1 v2) := by
  unfold f_X5_integer
  refine z_aload_n hX 0 rfl rfl dX5_integer_0 ?_
  refine z_cVVm 7 [] hX (fun l hl o ho => c_X7_next l hl M v0 o ho) dX5_integer_1 (by decide) rfl rfl q_490 okV_X7_next rfl ⟨(Nat.le_of_ble_eq_true rfl), (Nat.le_of_ble_eq_true rfl)⟩ rfl (Nat.le_of_ble_eq_true rfl) rfl rfl ⟨(Nat.le_of_ble_eq_true rfl), (Nat.le_of_ble_eq_true rfl)⟩ (fun o1 => ?_)
  refine z_aload_n hX 0 rfl rfl dX5_integer_4 ?_
  refine z_gFI 7 2 hX (by decide) rfl (by decide) rfl q_125 dX5_integer_5 (fun x2 => ?_)
  refine z_iconst (v := 2) hX (by decide) dX5_integer_8 ?_
  refine z_icmp_eq hX 15 (by decide) dX5_integer_9 (fun _ => ?_) (fun _ => ?_)
  · refine z_aload_n hX 0 rfl rfl dX5_integer_15 ?_
    refine z_cVIp 7 [] hX (fun l hl o ho => c_X7_number l hl o1 v0 o ho) dX5_integer_16 (by decide) rfl rfl q_583 okV_X7_number rfl ⟨(Nat.le_of_ble_eq_true rfl), (Nat.le_of_ble_eq_true rfl)⟩ rfl (Nat.le_of_ble_eq_true rfl) rfl rfl ⟨(Nat.le_of_ble_eq_true rfl), (Nat.le_of_ble_eq_true rfl)⟩ (fun o3 => ?_)
    refine z_istore_n hX [(3, .int o3), (0, .ref v0), (1, .int v1), (2, .int v2)] rfl (by decide) rfl dX5_integer_19 ?_
    refine z_iload_n hX 0 rfl rfl dX5_integer_20 ?_
    refine z_iload_n hX 2 rfl rfl dX5_integer_21 ?_
    refine z_jn (C' := 0) (S' := 0) 36 (fun (j4 : Int32) => []) (fun (j4 : Int32) => [.int j4]) (fun (j4 : Int32) => o1) (fun j4 => ?_) (fun kj4 => ?_)
    · exact z_iretM hX dX5_integer_36 (Nat.le_of_ble_eq_true rfl) (Nat.le_of_ble_eq_true rfl)
    · refine z_iteB ?_
      refine z_icmp_lt hX 30 (by decide) dX5_integer_22 (fun _ => ?_) (fun _ => ?_)
      · refine z_bipush (v := (-12)) hX (by decide) dX5_integer_30 ?_
        refine z_goto hX 36 (by decide) dX5_integer_32 ?_
        refine z_pure ?_
        refine z_sub [] rfl ?_
        exact kj4 (-12)
      · refine z_iload_n hX 0 rfl rfl dX5_integer_25 ?_
        refine z_iload_n hX 3 rfl rfl dX5_integer_26 ?_
        refine z_iteB ?_
        refine z_icmp_le hX 35 (by decide) dX5_integer_27 (fun _ => ?_) (fun _ => ?_)
        · refine z_iload_n hX 0 rfl rfl dX5_integer_35 ?_
          refine z_pure ?_
          refine z_sub [] rfl ?_
          exact kj4 o3
        · refine z_bipush (v := (-12)) hX (by decide) dX5_integer_30 ?_
          refine z_goto hX 36 (by decide) dX5_integer_32 ?_
          refine z_pure ?_
          refine z_sub [] rfl ?_
          exact kj4 (-12)
  · refine z_bipush (v := (-11)) hX (by decide) dX5_integer_12 ?_
    exact z_iretM hX dX5_integer_14 (Nat.le_of_ble_eq_true rfl) (Nat.le_of_ble_eq_true rfl)
theorem c_X5_integer (l : Launch) (hl : l.stackTraces = false) (M : Mem) (v0 : Nat) (v1 : Int32) (v2 : Int32) (o : Int32 × Mem) (ho : f_X5_integer M v0 v1 v2 = some o) : Ct l yX5_integer cX5_integer 4 (some .int) rm_X5_integer [.ref v0, .int v1, .int v2] M (some (.int o.1)) o.2 :=
  Ct.of hl (by decide +kernel) (Nat.le_of_ble_eq_true rfl) rfl (fun X hX hin => z_X5_integer hX M v0 v1 v2 o ho)
theorem okS_X5_integer : okS yX5_integer cX5_integer 4 (some .int) 3 := ⟨q_581, q_88, q_582, by unfold okY; decide +kernel⟩
/-! ParticipatoryBudget$Reader.district(LParticipatoryBudget$Text;LParticipatoryBudget$Ballot;)I -/
abbrev rm_X5_district : Room := { frames := 11, cells := 0, slots := 0, locals := 266 }
set_option maxRecDepth 20000 in
set_option maxHeartbeats 4000000 in
theorem z_X5_district {X : Cxt} (hX : okX X cX5_district RX5 rm_X5_district (some .int) 5) (M : Mem) (v0 : Nat) (v1 : Nat) : Zj X (fun o : Int32 × Mem => Qr X rm_X5_district.cells rm_X5_district.slots (some (.int o.1)) o.2) 0 0 0 [(0, .ref v0), (1, .ref v1)] [] M (f_X5_district M v0 v1) := by
  unfold f_X5_district
  refine z_aload_n hX 1 rfl rfl dX5_district_0 ?_
  refine z_gFI 0 0 hX (by decide) rfl (by decide) rfl q_320 dX5_district_1 (fun x1 => ?_)
  refine z_istore_n hX [(2, .int x1), (0, .ref v0), (1, .ref v1)] rfl (by decide) rfl dX5_district_4 ?_
  refine z_iload_n hX 0 rfl rfl dX5_district_5 ?_
  refine z_iconst (v := 4) hX (by decide) dX5_district_6 ?_
  refine z_icmp_lt hX 13 (by decide) dX5_district_7 (fun _ => ?_) (fun _ => ?_)
  · refine z_aload_n hX 1 rfl rfl dX5_district_13 ?_
    refine z_aload_n hX 2 rfl rfl dX5_district_14 ?_
    refine z_cSIm [.ref v0, .ref v1] hX (fun l hl o ho => c_X5_newName l hl M v0 v1 o ho) dX5_district_15 q_569 okS_X5_newName rfl ⟨(Nat.le_of_ble_eq_true rfl), (Nat.le_of_ble_eq_true rfl)⟩ rfl (Nat.le_of_ble_eq_true rfl) rfl rfl ⟨(Nat.le_of_ble_eq_true rfl), (Nat.le_of_ble_eq_true rfl)⟩ (fun o2 => ?_)
    refine z_istore_n hX [(3, .int o2.1), (2, .int x1), (0, .ref v0), (1, .ref v1)] rfl (by decide) rfl dX5_district_18 ?_
    refine z_iload_n hX 0 rfl rfl dX5_district_19 ?_
    refine z_if_ge hX 25 (by decide) dX5_district_20 (fun _ => ?_) (fun _ => ?_)
    · refine z_aload_n hX 2 rfl rfl dX5_district_25 ?_
      refine z_iconst (v := 0) hX (by decide) dX5_district_26 ?_
      refine z_ldc (v := 100000) hX q_579 dX5_district_27 ?_
      refine z_cSIm [.ref v0, .int 0, .int 100000] hX (fun l hl o ho => c_X5_integer l hl o2.2 v0 0 100000 o ho) dX5_district_29 q_580 okS_X5_integer rfl ⟨(Nat.le_of_ble_eq_true rfl), (Nat.le_of_ble_eq_true rfl)⟩ rfl (Nat.le_of_ble_eq_true rfl) rfl rfl ⟨(Nat.le_of_ble_eq_true rfl), (Nat.le_of_ble_eq_true rfl)⟩ (fun o3 => ?_)
      refine z_istore hX [(4, .int o3.1), (3, .int o2.1), (2, .int x1), (0, .ref v0), (1, .ref v1)] (by decide) rfl dX5_district_32 ?_
      refine z_iload hX 0 rfl dX5_district_34 ?_
      refine z_if_ge hX 42 (by decide) dX5_district_36 (fun _ => ?_) (fun _ => ?_)
      · refine z_aload_n hX 4 rfl rfl dX5_district_42 ?_
        refine z_gFR 0 3 hX (by decide) rfl (by decide) rfl q_336 dX5_district_43 (fun r4 => ?_)
        refine z_iload_n hX 2 rfl rfl dX5_district_46 ?_
        refine z_iload_n hX 1 rfl rfl dX5_district_47 ?_
        refine z_wI hX dX5_district_48 (fun M5 => ?_)
        refine z_aload_n hX 4 rfl rfl dX5_district_49 ?_
        refine z_gFR 0 4 hX (by decide) rfl (by decide) rfl q_341 dX5_district_50 (fun r6 => ?_)
        refine z_iload_n hX 2 rfl rfl dX5_district_53 ?_
        refine z_iload hX 0 rfl dX5_district_54 ?_
        refine z_wI hX dX5_district_56 (fun M7 => ?_)
        refine z_aload_n hX 4 rfl rfl dX5_district_57 ?_
        refine z_iload_n hX 2 rfl rfl dX5_district_58 ?_
        refine z_iconst (v := 1) hX (by decide) dX5_district_59 ?_
        refine z_iadd hX dX5_district_60 ?_
        refine z_pFI 0 0 hX (by decide) rfl (by decide) rfl q_320 rfl pd_1 rfl rfl dX5_district_61 (fun M8 => ?_)
        refine z_aload_n hX 3 rfl rfl dX5_district_64 ?_
        refine z_cVVm 7 [] hX (fun l hl o ho => c_X7_next l hl M8 v0 o ho) dX5_district_65 (by decide) rfl rfl q_490 okV_X7_next rfl ⟨(Nat.le_of_ble_eq_true rfl), (Nat.le_of_ble_eq_true rfl)⟩ rfl (Nat.le_of_ble_eq_true rfl) rfl rfl ⟨(Nat.le_of_ble_eq_true rfl), (Nat.le_of_ble_eq_true rfl)⟩ (fun o9 => ?_)
        refine z_iconst (v := 0) hX (by decide) dX5_district_68 ?_
        exact z_iretM hX dX5_district_69 (Nat.le_of_ble_eq_true rfl) (Nat.le_of_ble_eq_true rfl)
      · refine z_iload hX 0 rfl dX5_district_39 ?_
        exact z_iretM hX dX5_district_41 (Nat.le_of_ble_eq_true rfl) (Nat.le_of_ble_eq_true rfl)
    · refine z_iload_n hX 0 rfl rfl dX5_district_23 ?_
      exact z_iretM hX dX5_district_24 (Nat.le_of_ble_eq_true rfl) (Nat.le_of_ble_eq_true rfl)
  · refine z_bipush (v := (-15)) hX (by decide) dX5_district_10 ?_
    exact z_iretM hX dX5_district_12 (Nat.le_of_ble_eq_true rfl) (Nat.le_of_ble_eq_true rfl)
theorem c_X5_district (l : Launch) (hl : l.stackTraces = false) (M : Mem) (v0 : Nat) (v1 : Nat) (o : Int32 × Mem) (ho : f_X5_district M v0 v1 = some o) : Ct l yX5_district cX5_district 5 (some .int) rm_X5_district [.ref v0, .ref v1] M (some (.int o.1)) o.2 :=
  Ct.of hl (by decide +kernel) (Nat.le_of_ble_eq_true rfl) rfl (fun X hX hin => z_X5_district hX M v0 v1 o ho)
theorem okS_X5_district : okS yX5_district cX5_district 5 (some .int) 2 := ⟨q_567, q_88, q_568, by unfold okY; decide +kernel⟩
/-! ParticipatoryBudget$Reader.list(LParticipatoryBudget$Text;[II)I -/
abbrev rm_X5_list : Room := { frames := 10, cells := 0, slots := 0, locals := 243 }
set_option maxRecDepth 20000 in
set_option maxHeartbeats 4000000 in
theorem z_X5_list {X : Cxt} (hX : okX X cX5_list RX5 rm_X5_list (some .int) 6) (M : Mem) (v0 : Nat) (v1 : Nat) (v2 : Int32) : Zj X (fun o : Int32 × Mem => Qr X rm_X5_list.cells rm_X5_list.slots (some (.int o.1)) o.2) 0 0 0 [(0, .ref v0), (1, .ref v1), (2, .int v2)] [] M (f_X5_list M v0 v1 v2) := by
  unfold f_X5_list
  refine z_iconst (v := 0) hX (by decide) dX5_list_0 ?_
  refine z_istore_n hX [(3, .int 0), (0, .ref v0), (1, .ref v1), (2, .int v2)] rfl (by decide) rfl dX5_list_1 ?_
  refine z_iconst (v := 0) hX (by decide) dX5_list_2 ?_
  refine z_istore hX [(4, .int 0), (3, .int 0), (0, .ref v0), (1, .ref v1), (2, .int v2)] (by decide) rfl dX5_list_3 ?_
  refine z_sub [2, 3, 4, 1, 0] rfl ?_
  refine z_lp (x0 := (0, 0, M)) (bd_X5_list_5 v0 v1 v2) 5 78 (fun (u1 : Int32 × Int32 × Mem) => [(0, .ref v0), (1, .ref v1), (2, .int v2), (3, .int u1.1), (4, .int u1.2.1)]) (fun (e2 : Int32 × Int32 × Mem) => [(3, .int e2.1)]) (fun (u1 : Int32 × Int32 × Mem) => u1.2.2) ?_ ?_
  · intro e2
    refine z_iload_n hX 0 rfl rfl dX5_list_78 ?_
    exact z_iretM hX dX5_list_79 (Nat.le_of_ble_eq_true rfl) (Nat.le_of_ble_eq_true rfl)
  · intro kk3 rc4 hkk3 hrc4 u1
    unfold bd_X5_list_5
    refine z_iload hX 4 rfl dX5_list_5 ?_
    refine z_iload_n hX 2 rfl rfl dX5_list_7 ?_
    refine z_icmp_gt hX 78 (by decide) dX5_list_8 (fun _ => ?_) (fun _ => ?_)
    · refine z_sub [3] rfl ?_
      exact hkk3 (u1.1, u1.2.1, u1.2.2)
    · refine z_aload_n hX 0 rfl rfl dX5_list_11 ?_
      refine z_cVVm 7 [] hX (fun l hl o ho => c_X7_next l hl u1.2.2 v0 o ho) dX5_list_12 (by decide) rfl rfl q_490 okV_X7_next rfl ⟨(Nat.le_of_ble_eq_true rfl), (Nat.le_of_ble_eq_true rfl)⟩ rfl (Nat.le_of_ble_eq_true rfl) rfl rfl ⟨(Nat.le_of_ble_eq_true rfl), (Nat.le_of_ble_eq_true rfl)⟩ (fun o5 => ?_)
      refine z_aload_n hX 0 rfl rfl dX5_list_15 ?_
      refine z_gFI 7 2 hX (by decide) rfl (by decide) rfl q_125 dX5_list_16 (fun x6 => ?_)
      refine z_iconst (v := 1) hX (by decide) dX5_list_19 ?_
      refine z_icmp_eq hX 34 (by decide) dX5_list_20 (fun _ => ?_) (fun _ => ?_)
      · refine z_aload_n hX 1 rfl rfl dX5_list_34 ?_
        refine z_iload_n hX 2 rfl rfl dX5_list_35 ?_
        refine z_aload_n hX 0 rfl rfl dX5_list_36 ?_
        refine z_cVIp 7 [] hX (fun l hl o ho => c_X7_letters l hl o5 v0 o ho) dX5_list_37 (by decide) rfl rfl q_572 okV_X7_letters rfl ⟨(Nat.le_of_ble_eq_true rfl), (Nat.le_of_ble_eq_true rfl)⟩ rfl (Nat.le_of_ble_eq_true rfl) rfl rfl ⟨(Nat.le_of_ble_eq_true rfl), (Nat.le_of_ble_eq_true rfl)⟩ (fun o7 => ?_)
        refine z_cSNIp [.ref v1, .int v2, .int o7] hX (fun l hl o ho => c_X8_place l hl o5 v1 v2 o7 o ho) dX5_list_40 nw_9 okS_X8_place rfl ⟨(Nat.le_of_ble_eq_true rfl), (Nat.le_of_ble_eq_true rfl)⟩ rfl (Nat.le_of_ble_eq_true rfl) rfl rfl ⟨(Nat.le_of_ble_eq_true rfl), (Nat.le_of_ble_eq_true rfl)⟩ (fun o8 => ?_)
        refine z_istore hX [(5, .int o8), (0, .ref v0), (1, .ref v1), (2, .int v2), (3, .int u1.1), (4, .int u1.2.1)] (by decide) rfl dX5_list_43 ?_
        refine z_iload hX 0 rfl dX5_list_45 ?_
        refine z_if_ge hX 53 (by decide) dX5_list_47 (fun _ => ?_) (fun _ => ?_)
        · refine z_iload_n hX 4 rfl rfl dX5_list_53 ?_
          refine z_iload hX 0 rfl dX5_list_54 ?_
          refine z_cSNIp [.int u1.1, .int o8] hX (fun l hl o ho => c_X8_has l hl o5 u1.1 o8 o ho) dX5_list_56 nw_10 okS_X8_has rfl ⟨(Nat.le_of_ble_eq_true rfl), (Nat.le_of_ble_eq_true rfl)⟩ rfl (Nat.le_of_ble_eq_true rfl) rfl rfl ⟨(Nat.le_of_ble_eq_true rfl), (Nat.le_of_ble_eq_true rfl)⟩ (fun o9 => ?_)
          refine z_if_eq hX 65 (by decide) dX5_list_59 (fun _ => ?_) (fun _ => ?_)
          · refine z_iload_n hX 4 rfl rfl dX5_list_65 ?_
            refine z_iconst (v := 1) hX (by decide) dX5_list_66 ?_
            refine z_iload hX 0 rfl dX5_list_67 ?_
            refine z_ishl hX dX5_list_69 ?_
            refine z_ior hX dX5_list_70 ?_
            refine z_ltI (fun x10 => ?_)
            refine z_istore_n hX [(3, .int x10), (5, .int o8), (0, .ref v0), (1, .ref v1), (2, .int v2), (4, .int u1.2.1)] rfl (by decide) rfl dX5_list_71 ?_
            refine z_iinc hX 5 [(4, .int (u1.2.1 + 1)), (3, .int x10), (5, .int o8), (0, .ref v0), (1, .ref v1), (2, .int v2)] rfl rfl (by decide) rfl dX5_list_72 ?_
            refine z_goto hX 5 (by decide) dX5_list_75 ?_
            refine z_sub [3, 4, 5, 1, 0] rfl ?_
            exact hrc4 (x10, u1.2.1 + 1, o5)
          · refine z_bipush (v := (-14)) hX (by decide) dX5_list_62 ?_
            exact z_iretM hX dX5_list_64 (Nat.le_of_ble_eq_true rfl) (Nat.le_of_ble_eq_true rfl)
        · refine z_bipush (v := (-13)) hX (by decide) dX5_list_50 ?_
          exact z_iretM hX dX5_list_52 (Nat.le_of_ble_eq_true rfl) (Nat.le_of_ble_eq_true rfl)
      · refine z_iload_n hX 3 rfl rfl dX5_list_23 ?_
        refine z_jn (C' := 0) (S' := 0) 33 (fun (j11 : Int32) => []) (fun (j11 : Int32) => [.int j11]) (fun (j11 : Int32) => o5) (fun j11 => ?_) (fun kj11 => ?_)
        · exact z_iretM hX dX5_list_33 (Nat.le_of_ble_eq_true rfl) (Nat.le_of_ble_eq_true rfl)
        · refine z_iteB ?_
          refine z_if_ne hX 32 (by decide) dX5_list_24 (fun _ => ?_) (fun _ => ?_)
          · refine z_iload_n hX 3 rfl rfl dX5_list_32 ?_
            refine z_pure ?_
            refine z_sub [] rfl ?_
            exact kj11 u1.1
          · refine z_bipush (v := (-11)) hX (by decide) dX5_list_27 ?_
            refine z_goto hX 33 (by decide) dX5_list_29 ?_
            refine z_pure ?_
            refine z_sub [] rfl ?_
            exact kj11 (-11)
theorem c_X5_list (l : Launch) (hl : l.stackTraces = false) (M : Mem) (v0 : Nat) (v1 : Nat) (v2 : Int32) (o : Int32 × Mem) (ho : f_X5_list M v0 v1 v2 = some o) : Ct l yX5_list cX5_list 6 (some .int) rm_X5_list [.ref v0, .ref v1, .int v2] M (some (.int o.1)) o.2 :=
  Ct.of hl (by decide +kernel) (Nat.le_of_ble_eq_true rfl) rfl (fun X hX hin => z_X5_list hX M v0 v1 v2 o ho)
theorem okS_X5_list : okS yX5_list cX5_list 6 (some .int) 3 := ⟨q_592, q_88, q_593, by unfold okY; decide +kernel⟩
/-! ParticipatoryBudget$Reader.project(LParticipatoryBudget$Text;LParticipatoryBudget$Ballot;)I -/
abbrev rm_X5_project : Room := { frames := 11, cells := 0, slots := 0, locals := 268 }
set_option maxRecDepth 20000 in
set_option maxHeartbeats 4000000 in
theorem z_X5_project {X : Cxt} (hX : okX X cX5_project RX5 rm_X5_project (some .int) 6) (M : Mem) (v0 : Nat) (v1 : Nat) : Zj X (fun o : Int32 × Mem => Qr X rm_X5_project.cells rm_X5_project.slots (some (.int o.1)) o.2) 0 0 0 [(0, .ref v0), (1, .ref v1)] [] M (f_X5_project M v0 v1) := by
  unfold f_X5_project
  refine z_aload_n hX 1 rfl rfl dX5_project_0 ?_
  refine z_gFI 0 1 hX (by decide) rfl (by decide) rfl q_328 dX5_project_1 (fun x1 => ?_)
  refine z_istore_n hX [(2, .int x1), (0, .ref v0), (1, .ref v1)] rfl (by decide) rfl dX5_project_4 ?_
  refine z_iload_n hX 0 rfl rfl dX5_project_5 ?_
  refine z_bipush (v := 12) hX (by decide) dX5_project_6 ?_
  refine z_icmp_lt hX 14 (by decide) dX5_project_8 (fun _ => ?_) (fun _ => ?_)
  · refine z_aload_n hX 1 rfl rfl dX5_project_14 ?_
    refine z_aload_n hX 2 rfl rfl dX5_project_15 ?_
    refine z_cSIm [.ref v0, .ref v1] hX (fun l hl o ho => c_X5_newName l hl M v0 v1 o ho) dX5_project_16 q_569 okS_X5_newName rfl ⟨(Nat.le_of_ble_eq_true rfl), (Nat.le_of_ble_eq_true rfl)⟩ rfl (Nat.le_of_ble_eq_true rfl) rfl rfl ⟨(Nat.le_of_ble_eq_true rfl), (Nat.le_of_ble_eq_true rfl)⟩ (fun o2 => ?_)
    refine z_istore_n hX [(3, .int o2.1), (2, .int x1), (0, .ref v0), (1, .ref v1)] rfl (by decide) rfl dX5_project_19 ?_
    refine z_iload_n hX 0 rfl rfl dX5_project_20 ?_
    refine z_if_ge hX 26 (by decide) dX5_project_21 (fun _ => ?_) (fun _ => ?_)
    · refine z_aload_n hX 2 rfl rfl dX5_project_26 ?_
      refine z_iconst (v := 1) hX (by decide) dX5_project_27 ?_
      refine z_ldc (v := 100000) hX q_579 dX5_project_28 ?_
      refine z_cSIm [.ref v0, .int 1, .int 100000] hX (fun l hl o ho => c_X5_integer l hl o2.2 v0 1 100000 o ho) dX5_project_30 q_580 okS_X5_integer rfl ⟨(Nat.le_of_ble_eq_true rfl), (Nat.le_of_ble_eq_true rfl)⟩ rfl (Nat.le_of_ble_eq_true rfl) rfl rfl ⟨(Nat.le_of_ble_eq_true rfl), (Nat.le_of_ble_eq_true rfl)⟩ (fun o3 => ?_)
      refine z_istore hX [(4, .int o3.1), (3, .int o2.1), (2, .int x1), (0, .ref v0), (1, .ref v1)] (by decide) rfl dX5_project_33 ?_
      refine z_iload hX 0 rfl dX5_project_35 ?_
      refine z_if_ge hX 43 (by decide) dX5_project_37 (fun _ => ?_) (fun _ => ?_)
      · refine z_aload_n hX 3 rfl rfl dX5_project_43 ?_
        refine z_aload_n hX 4 rfl rfl dX5_project_44 ?_
        refine z_gFR 0 3 hX (by decide) rfl (by decide) rfl q_336 dX5_project_45 (fun r4 => ?_)
        refine z_aload_n hX 4 rfl rfl dX5_project_48 ?_
        refine z_gFI 0 0 hX (by decide) rfl (by decide) rfl q_320 dX5_project_49 (fun x5 => ?_)
        refine z_cSIm [.ref v0, .ref r4, .int x5] hX (fun l hl o ho => c_X5_list l hl o3.2 v0 r4 x5 o ho) dX5_project_52 q_591 okS_X5_list rfl ⟨(Nat.le_of_ble_eq_true rfl), (Nat.le_of_ble_eq_true rfl)⟩ rfl (Nat.le_of_ble_eq_true rfl) rfl rfl ⟨(Nat.le_of_ble_eq_true rfl), (Nat.le_of_ble_eq_true rfl)⟩ (fun o6 => ?_)
        refine z_istore hX [(5, .int o6.1), (4, .int o3.1), (3, .int o2.1), (2, .int x1), (0, .ref v0), (1, .ref v1)] (by decide) rfl dX5_project_55 ?_
        refine z_iload hX 0 rfl dX5_project_57 ?_
        refine z_if_ge hX 65 (by decide) dX5_project_59 (fun _ => ?_) (fun _ => ?_)
        · refine z_aload_n hX 5 rfl rfl dX5_project_65 ?_
          refine z_gFR 0 5 hX (by decide) rfl (by decide) rfl q_346 dX5_project_66 (fun r7 => ?_)
          refine z_iload_n hX 3 rfl rfl dX5_project_69 ?_
          refine z_iload_n hX 2 rfl rfl dX5_project_70 ?_
          refine z_wI hX dX5_project_71 (fun M8 => ?_)
          refine z_aload_n hX 5 rfl rfl dX5_project_72 ?_
          refine z_gFR 0 6 hX (by decide) rfl (by decide) rfl q_351 dX5_project_73 (fun r9 => ?_)
          refine z_iload_n hX 3 rfl rfl dX5_project_76 ?_
          refine z_iload hX 1 rfl dX5_project_77 ?_
          refine z_wI hX dX5_project_79 (fun M10 => ?_)
          refine z_aload_n hX 5 rfl rfl dX5_project_80 ?_
          refine z_gFR 0 7 hX (by decide) rfl (by decide) rfl q_358 dX5_project_81 (fun r11 => ?_)
          refine z_iload_n hX 3 rfl rfl dX5_project_84 ?_
          refine z_iload hX 0 rfl dX5_project_85 ?_
          refine z_wI hX dX5_project_87 (fun M12 => ?_)
          refine z_aload_n hX 5 rfl rfl dX5_project_88 ?_
          refine z_iload_n hX 3 rfl rfl dX5_project_89 ?_
          refine z_iconst (v := 1) hX (by decide) dX5_project_90 ?_
          refine z_iadd hX dX5_project_91 ?_
          refine z_pFI 0 1 hX (by decide) rfl (by decide) rfl q_328 rfl pd_1 rfl rfl dX5_project_92 (fun M13 => ?_)
          refine z_iconst (v := 0) hX (by decide) dX5_project_95 ?_
          exact z_iretM hX dX5_project_96 (Nat.le_of_ble_eq_true rfl) (Nat.le_of_ble_eq_true rfl)
        · refine z_iload hX 0 rfl dX5_project_62 ?_
          exact z_iretM hX dX5_project_64 (Nat.le_of_ble_eq_true rfl) (Nat.le_of_ble_eq_true rfl)
      · refine z_iload hX 0 rfl dX5_project_40 ?_
        exact z_iretM hX dX5_project_42 (Nat.le_of_ble_eq_true rfl) (Nat.le_of_ble_eq_true rfl)
    · refine z_iload_n hX 0 rfl rfl dX5_project_24 ?_
      exact z_iretM hX dX5_project_25 (Nat.le_of_ble_eq_true rfl) (Nat.le_of_ble_eq_true rfl)
  · refine z_bipush (v := (-15)) hX (by decide) dX5_project_11 ?_
    exact z_iretM hX dX5_project_13 (Nat.le_of_ble_eq_true rfl) (Nat.le_of_ble_eq_true rfl)
theorem c_X5_project (l : Launch) (hl : l.stackTraces = false) (M : Mem) (v0 : Nat) (v1 : Nat) (o : Int32 × Mem) (ho : f_X5_project M v0 v1 = some o) : Ct l yX5_project cX5_project 6 (some .int) rm_X5_project [.ref v0, .ref v1] M (some (.int o.1)) o.2 :=
  Ct.of hl (by decide +kernel) (Nat.le_of_ble_eq_true rfl) rfl (fun X hX hin => z_X5_project hX M v0 v1 o ho)
theorem okS_X5_project : okS yX5_project cX5_project 6 (some .int) 2 := ⟨q_589, q_88, q_590, by unfold okY; decide +kernel⟩
/-! ParticipatoryBudget$Reader.voter(LParticipatoryBudget$Text;LParticipatoryBudget$Ballot;)I -/
abbrev rm_X5_voter : Room := { frames := 11, cells := 0, slots := 0, locals := 268 }
set_option maxRecDepth 20000 in
set_option maxHeartbeats 4000000 in
theorem z_X5_voter {X : Cxt} (hX : okX X cX5_voter RX5 rm_X5_voter (some .int) 6) (M : Mem) (v0 : Nat) (v1 : Nat) : Zj X (fun o : Int32 × Mem => Qr X rm_X5_voter.cells rm_X5_voter.slots (some (.int o.1)) o.2) 0 0 0 [(0, .ref v0), (1, .ref v1)] [] M (f_X5_voter M v0 v1) := by
  unfold f_X5_voter
  refine z_aload_n hX 1 rfl rfl dX5_voter_0 ?_
  refine z_gFI 0 2 hX (by decide) rfl (by decide) rfl q_333 dX5_voter_1 (fun x1 => ?_)
  refine z_istore_n hX [(2, .int x1), (0, .ref v0), (1, .ref v1)] rfl (by decide) rfl dX5_voter_4 ?_
  refine z_iload_n hX 0 rfl rfl dX5_voter_5 ?_
  refine z_bipush (v := 24) hX (by decide) dX5_voter_6 ?_
  refine z_icmp_lt hX 14 (by decide) dX5_voter_8 (fun _ => ?_) (fun _ => ?_)
  · refine z_aload_n hX 1 rfl rfl dX5_voter_14 ?_
    refine z_iconst (v := 1) hX (by decide) dX5_voter_15 ?_
    refine z_bipush (v := 9) hX (by decide) dX5_voter_16 ?_
    refine z_cSIm [.ref v0, .int 1, .int 9] hX (fun l hl o ho => c_X5_integer l hl M v0 1 9 o ho) dX5_voter_18 q_580 okS_X5_integer rfl ⟨(Nat.le_of_ble_eq_true rfl), (Nat.le_of_ble_eq_true rfl)⟩ rfl (Nat.le_of_ble_eq_true rfl) rfl rfl ⟨(Nat.le_of_ble_eq_true rfl), (Nat.le_of_ble_eq_true rfl)⟩ (fun o2 => ?_)
    refine z_istore_n hX [(3, .int o2.1), (2, .int x1), (0, .ref v0), (1, .ref v1)] rfl (by decide) rfl dX5_voter_21 ?_
    refine z_iload_n hX 0 rfl rfl dX5_voter_22 ?_
    refine z_if_ge hX 28 (by decide) dX5_voter_23 (fun _ => ?_) (fun _ => ?_)
    · refine z_aload_n hX 2 rfl rfl dX5_voter_28 ?_
      refine z_cVVm 7 [] hX (fun l hl o ho => c_X7_next l hl o2.2 v0 o ho) dX5_voter_29 (by decide) rfl rfl q_490 okV_X7_next rfl ⟨(Nat.le_of_ble_eq_true rfl), (Nat.le_of_ble_eq_true rfl)⟩ rfl (Nat.le_of_ble_eq_true rfl) rfl rfl ⟨(Nat.le_of_ble_eq_true rfl), (Nat.le_of_ble_eq_true rfl)⟩ (fun o3 => ?_)
      refine z_aload_n hX 2 rfl rfl dX5_voter_32 ?_
      refine z_gFI 7 2 hX (by decide) rfl (by decide) rfl q_125 dX5_voter_33 (fun x4 => ?_)
      refine z_bipush (v := 8) hX (by decide) dX5_voter_36 ?_
      refine z_icmp_eq hX 44 (by decide) dX5_voter_38 (fun _ => ?_) (fun _ => ?_)
      · refine z_aload_n hX 2 rfl rfl dX5_voter_44 ?_
        refine z_aload_n hX 3 rfl rfl dX5_voter_45 ?_
        refine z_gFR 0 3 hX (by decide) rfl (by decide) rfl q_336 dX5_voter_46 (fun r5 => ?_)
        refine z_aload_n hX 3 rfl rfl dX5_voter_49 ?_
        refine z_gFI 0 0 hX (by decide) rfl (by decide) rfl q_320 dX5_voter_50 (fun x6 => ?_)
        refine z_cSIm [.ref v0, .ref r5, .int x6] hX (fun l hl o ho => c_X5_list l hl o3 v0 r5 x6 o ho) dX5_voter_53 q_591 okS_X5_list rfl ⟨(Nat.le_of_ble_eq_true rfl), (Nat.le_of_ble_eq_true rfl)⟩ rfl (Nat.le_of_ble_eq_true rfl) rfl rfl ⟨(Nat.le_of_ble_eq_true rfl), (Nat.le_of_ble_eq_true rfl)⟩ (fun o7 => ?_)
        refine z_istore hX [(4, .int o7.1), (3, .int o2.1), (2, .int x1), (0, .ref v0), (1, .ref v1)] (by decide) rfl dX5_voter_56 ?_
        refine z_iload hX 0 rfl dX5_voter_58 ?_
        refine z_if_ge hX 66 (by decide) dX5_voter_60 (fun _ => ?_) (fun _ => ?_)
        · refine z_aload_n hX 3 rfl rfl dX5_voter_66 ?_
          refine z_gFI 7 2 hX (by decide) rfl (by decide) rfl q_125 dX5_voter_67 (fun x8 => ?_)
          refine z_bipush (v := 9) hX (by decide) dX5_voter_70 ?_
          refine z_jn (C' := 0) (S' := 0) 91 (fun (j9 : Int32 × Mem) => [(1, .ref v1), (2, .int x1), (3, .int o2.1), (4, .int o7.1)]) (fun (j9 : Int32 × Mem) => [.int j9.1]) (fun (j9 : Int32 × Mem) => j9.2) (fun j9 => ?_) (fun kj9 => ?_)
          · refine z_istore hX [(5, .int j9.1), (1, .ref v1), (2, .int x1), (3, .int o2.1), (4, .int o7.1)] (by decide) rfl dX5_voter_91 ?_
            refine z_iload hX 0 rfl dX5_voter_93 ?_
            refine z_if_ge hX 101 (by decide) dX5_voter_95 (fun _ => ?_) (fun _ => ?_)
            · refine z_aload_n hX 1 rfl rfl dX5_voter_101 ?_
              refine z_gFR 0 8 hX (by decide) rfl (by decide) rfl q_363 dX5_voter_102 (fun r10 => ?_)
              refine z_iload_n hX 2 rfl rfl dX5_voter_105 ?_
              refine z_iload_n hX 3 rfl rfl dX5_voter_106 ?_
              refine z_wI hX dX5_voter_107 (fun M11 => ?_)
              refine z_aload_n hX 1 rfl rfl dX5_voter_108 ?_
              refine z_gFR 0 9 hX (by decide) rfl (by decide) rfl q_369 dX5_voter_109 (fun r12 => ?_)
              refine z_iload_n hX 2 rfl rfl dX5_voter_112 ?_
              refine z_iload hX 4 rfl dX5_voter_113 ?_
              refine z_wI hX dX5_voter_115 (fun M13 => ?_)
              refine z_aload_n hX 1 rfl rfl dX5_voter_116 ?_
              refine z_gFR 0 10 hX (by decide) rfl (by decide) rfl q_373 dX5_voter_117 (fun r14 => ?_)
              refine z_iload_n hX 2 rfl rfl dX5_voter_120 ?_
              refine z_iload hX 0 rfl dX5_voter_121 ?_
              refine z_wI hX dX5_voter_123 (fun M15 => ?_)
              refine z_aload_n hX 1 rfl rfl dX5_voter_124 ?_
              refine z_iload_n hX 2 rfl rfl dX5_voter_125 ?_
              refine z_iconst (v := 1) hX (by decide) dX5_voter_126 ?_
              refine z_iadd hX dX5_voter_127 ?_
              refine z_pFI 0 2 hX (by decide) rfl (by decide) rfl q_333 rfl pd_1 rfl rfl dX5_voter_128 (fun M16 => ?_)
              refine z_iconst (v := 0) hX (by decide) dX5_voter_131 ?_
              exact z_iretM hX dX5_voter_132 (Nat.le_of_ble_eq_true rfl) (Nat.le_of_ble_eq_true rfl)
            · refine z_iload hX 0 rfl dX5_voter_98 ?_
              exact z_iretM hX dX5_voter_100 (Nat.le_of_ble_eq_true rfl) (Nat.le_of_ble_eq_true rfl)
          · refine z_iteB ?_
            refine z_icmp_ne hX 90 (by decide) dX5_voter_72 (fun _ => ?_) (fun _ => ?_)
            · refine z_iconst (v := 0) hX (by decide) dX5_voter_90 ?_
              refine z_pure ?_
              refine z_sub [4, 2, 1, 0] rfl ?_
              exact kj9 (0, o7.2)
            · refine z_aload_n hX 3 rfl rfl dX5_voter_75 ?_
              refine z_aload_n hX 4 rfl rfl dX5_voter_76 ?_
              refine z_asc ?_
              refine z_gFR 0 5 hX (by decide) rfl (by decide) rfl q_346 dX5_voter_77 (fun r17 => ?_)
              refine z_aload_n hX 4 rfl rfl dX5_voter_80 ?_
              refine z_asc ?_
              refine z_gFI 0 1 hX (by decide) rfl (by decide) rfl q_328 dX5_voter_81 (fun x18 => ?_)
              refine z_asc ?_
              refine z_cSIm [.ref v0, .ref r17, .int x18] hX (fun l hl o ho => c_X5_list l hl o7.2 v0 r17 x18 o ho) dX5_voter_84 q_591 okS_X5_list rfl ⟨(Nat.le_of_ble_eq_true rfl), (Nat.le_of_ble_eq_true rfl)⟩ rfl (Nat.le_of_ble_eq_true rfl) rfl rfl ⟨(Nat.le_of_ble_eq_true rfl), (Nat.le_of_ble_eq_true rfl)⟩ (fun o19 => ?_)
              refine z_goto hX 91 (by decide) dX5_voter_87 ?_
              refine z_pure ?_
              refine z_sub [4, 2, 1, 0] rfl ?_
              exact kj9 (o19.1, o19.2)
        · refine z_iload hX 0 rfl dX5_voter_63 ?_
          exact z_iretM hX dX5_voter_65 (Nat.le_of_ble_eq_true rfl) (Nat.le_of_ble_eq_true rfl)
      · refine z_bipush (v := (-11)) hX (by decide) dX5_voter_41 ?_
        exact z_iretM hX dX5_voter_43 (Nat.le_of_ble_eq_true rfl) (Nat.le_of_ble_eq_true rfl)
    · refine z_iload_n hX 0 rfl rfl dX5_voter_26 ?_
      exact z_iretM hX dX5_voter_27 (Nat.le_of_ble_eq_true rfl) (Nat.le_of_ble_eq_true rfl)
  · refine z_bipush (v := (-15)) hX (by decide) dX5_voter_11 ?_
    exact z_iretM hX dX5_voter_13 (Nat.le_of_ble_eq_true rfl) (Nat.le_of_ble_eq_true rfl)
theorem c_X5_voter (l : Launch) (hl : l.stackTraces = false) (M : Mem) (v0 : Nat) (v1 : Nat) (o : Int32 × Mem) (ho : f_X5_voter M v0 v1 = some o) : Ct l yX5_voter cX5_voter 6 (some .int) rm_X5_voter [.ref v0, .ref v1] M (some (.int o.1)) o.2 :=
  Ct.of hl (by decide +kernel) (Nat.le_of_ble_eq_true rfl) rfl (fun X hX hin => z_X5_voter hX M v0 v1 o ho)
theorem okS_X5_voter : okS yX5_voter cX5_voter 6 (some .int) 2 := ⟨q_598, q_88, q_599, by unfold okY; decide +kernel⟩
/-! ParticipatoryBudget$Text.setting()I -/
abbrev rm_X7_setting : Room := { frames := 1, cells := 0, slots := 0, locals := 21 }
set_option maxRecDepth 20000 in
set_option maxHeartbeats 4000000 in
theorem z_X7_setting {X : Cxt} (hX : okX X cX7_setting RX7 rm_X7_setting (some .int) 1) (M : Mem) (v0 : Nat) : Zj X (fun o : Int32 => Qr X rm_X7_setting.cells rm_X7_setting.slots (some (.int o)) M) 0 0 0 [(0, .ref v0)] [] M (f_X7_setting M v0) := by
  unfold f_X7_setting
  refine z_aload_n hX 0 rfl rfl dX7_setting_0 ?_
  refine z_gFI 7 2 hX (by decide) rfl (by decide) rfl q_126 dX7_setting_1 (fun x1 => ?_)
  refine z_bipush (v := 11) hX (by decide) dX7_setting_4 ?_
  refine z_isub hX dX7_setting_6 ?_
  refine z_iconst (v := 4) hX (by decide) dX7_setting_7 ?_
  refine z_cSNIp [.int (x1 - 11), .int 4] hX (fun l hl o ho => c_X8_isIndex l hl M (x1 - 11) 4 o ho) dX7_setting_8 nw_11 okS_X8_isIndex rfl ⟨(Nat.le_of_ble_eq_true rfl), (Nat.le_of_ble_eq_true rfl)⟩ rfl (Nat.le_of_ble_eq_true rfl) rfl rfl ⟨(Nat.le_of_ble_eq_true rfl), (Nat.le_of_ble_eq_true rfl)⟩ (fun o2 => ?_)
  refine z_jn (C' := 0) (S' := 0) 25 (fun (j3 : Int32) => []) (fun (j3 : Int32) => [.int j3]) (fun (j3 : Int32) => M) (fun j3 => ?_) (fun kj3 => ?_)
  · exact z_iretP hX dX7_setting_25 (Nat.le_of_ble_eq_true rfl) (Nat.le_of_ble_eq_true rfl)
  · refine z_iteB ?_
    refine z_if_eq hX 24 (by decide) dX7_setting_11 (fun _ => ?_) (fun _ => ?_)
    · refine z_iconst (v := (-1)) hX (by decide) dX7_setting_24 ?_
      refine z_pure ?_
      refine z_sub [] rfl ?_
      exact kj3 (-1)
    · refine z_aload_n hX 0 rfl rfl dX7_setting_14 ?_
      refine z_asc ?_
      refine z_gFI 7 2 hX (by decide) rfl (by decide) rfl q_126 dX7_setting_15 (fun x4 => ?_)
      refine z_bipush (v := 11) hX (by decide) dX7_setting_18 ?_
      refine z_isub hX dX7_setting_20 ?_
      refine z_goto hX 25 (by decide) dX7_setting_21 ?_
      refine z_pure ?_
      refine z_sub [] rfl ?_
      exact kj3 (x4 - 11)
theorem c_X7_setting (l : Launch) (hl : l.stackTraces = false) (M : Mem) (v0 : Nat) (o : Int32) (ho : f_X7_setting M v0 = some o) : Ct l yX7_setting cX7_setting 1 (some .int) rm_X7_setting [.ref v0] M (some (.int o)) M :=
  Ct.of hl (by decide +kernel) (Nat.le_of_ble_eq_true rfl) rfl (fun X hX hin => z_X7_setting hX M v0 o ho)
theorem okV_X7_setting : okV yX7_setting cX7_setting 1 (some .int) 0 := ⟨q_605, q_606, q_87, q_607, by unfold okY; decide +kernel⟩
/-! ParticipatoryBudget$Reader.setting(LParticipatoryBudget$Text;LParticipatoryBudget$Ballot;)I -/
abbrev rm_X5_setting : Room := { frames := 11, cells := 0, slots := 0, locals := 266 }
set_option maxRecDepth 20000 in
set_option maxHeartbeats 4000000 in
theorem z_X5_setting {X : Cxt} (hX : okX X cX5_setting RX5 rm_X5_setting (some .int) 5) (M : Mem) (v0 : Nat) (v1 : Nat) (v2 : Nat) : Zj X (fun o : Int32 × Mem => Qr X rm_X5_setting.cells rm_X5_setting.slots (some (.int o.1)) o.2) 0 0 0 [(0, .ref v0), (1, .ref v1), (2, .ref v2)] [] M (f_X5_setting M v0 v1 v2) := by
  unfold f_X5_setting
  refine z_aload_n hX 1 rfl rfl dX5_setting_0 ?_
  refine z_cVVm 7 [] hX (fun l hl o ho => c_X7_next l hl M v1 o ho) dX5_setting_1 (by decide) rfl rfl q_490 okV_X7_next rfl ⟨(Nat.le_of_ble_eq_true rfl), (Nat.le_of_ble_eq_true rfl)⟩ rfl (Nat.le_of_ble_eq_true rfl) rfl rfl ⟨(Nat.le_of_ble_eq_true rfl), (Nat.le_of_ble_eq_true rfl)⟩ (fun o1 => ?_)
  refine z_aload_n hX 1 rfl rfl dX5_setting_4 ?_
  refine z_cVIp 7 [] hX (fun l hl o ho => c_X7_setting l hl o1 v1 o ho) dX5_setting_5 (by decide) rfl rfl q_604 okV_X7_setting rfl ⟨(Nat.le_of_ble_eq_true rfl), (Nat.le_of_ble_eq_true rfl)⟩ rfl (Nat.le_of_ble_eq_true rfl) rfl rfl ⟨(Nat.le_of_ble_eq_true rfl), (Nat.le_of_ble_eq_true rfl)⟩ (fun o2 => ?_)
  refine z_istore_n hX [(3, .int o2), (0, .ref v0), (1, .ref v1), (2, .ref v2)] rfl (by decide) rfl dX5_setting_8 ?_
  refine z_iload_n hX 0 rfl rfl dX5_setting_9 ?_
  refine z_if_ge hX 16 (by decide) dX5_setting_10 (fun _ => ?_) (fun _ => ?_)
  · refine z_aload_n hX 1 rfl rfl dX5_setting_16 ?_
    refine z_gFI 5 0 hX (by decide) rfl (by decide) rfl q_151 dX5_setting_17 (fun x3 => ?_)
    refine z_iload_n hX 0 rfl rfl dX5_setting_20 ?_
    refine z_cSNIp [.int x3, .int o2] hX (fun l hl o ho => c_X8_has l hl o1 x3 o2 o ho) dX5_setting_21 nw_10 okS_X8_has rfl ⟨(Nat.le_of_ble_eq_true rfl), (Nat.le_of_ble_eq_true rfl)⟩ rfl (Nat.le_of_ble_eq_true rfl) rfl rfl ⟨(Nat.le_of_ble_eq_true rfl), (Nat.le_of_ble_eq_true rfl)⟩ (fun o4 => ?_)
    refine z_if_eq hX 30 (by decide) dX5_setting_24 (fun _ => ?_) (fun _ => ?_)
    · refine z_aload_n hX 2 rfl rfl dX5_setting_30 ?_
      refine z_gSTN 1 hX (by decide) rfl nw_12 dX5_setting_31 (fun r5 => ?_)
      refine z_iload_n hX 0 rfl rfl dX5_setting_34 ?_
      refine z_aI hX dX5_setting_35 (fun x6 => ?_)
      refine z_gSTN 2 hX (by decide) rfl nw_13 dX5_setting_36 (fun r7 => ?_)
      refine z_iload_n hX 0 rfl rfl dX5_setting_39 ?_
      refine z_aI hX dX5_setting_40 (fun x8 => ?_)
      refine z_cSIm [.ref v1, .int x6, .int x8] hX (fun l hl o ho => c_X5_integer l hl o1 v1 x6 x8 o ho) dX5_setting_41 q_580 okS_X5_integer rfl ⟨(Nat.le_of_ble_eq_true rfl), (Nat.le_of_ble_eq_true rfl)⟩ rfl (Nat.le_of_ble_eq_true rfl) rfl rfl ⟨(Nat.le_of_ble_eq_true rfl), (Nat.le_of_ble_eq_true rfl)⟩ (fun o9 => ?_)
      refine z_istore hX [(4, .int o9.1), (3, .int o2), (0, .ref v0), (1, .ref v1), (2, .ref v2)] (by decide) rfl dX5_setting_44 ?_
      refine z_iload hX 0 rfl dX5_setting_46 ?_
      refine z_if_ge hX 54 (by decide) dX5_setting_48 (fun _ => ?_) (fun _ => ?_)
      · refine z_aload_n hX 2 rfl rfl dX5_setting_54 ?_
        refine z_dup hX rfl dX5_setting_55 ?_
        refine z_gFI 5 0 hX (by decide) rfl (by decide) rfl q_151 dX5_setting_56 (fun x10 => ?_)
        refine z_iconst (v := 1) hX (by decide) dX5_setting_59 ?_
        refine z_iload_n hX 1 rfl rfl dX5_setting_60 ?_
        refine z_ishl hX dX5_setting_61 ?_
        refine z_ior hX dX5_setting_62 ?_
        refine z_pFI 5 0 hX (by decide) rfl (by decide) rfl q_151 rfl pd_1 rfl rfl dX5_setting_63 (fun M11 => ?_)
        refine z_aload_n hX 4 rfl rfl dX5_setting_66 ?_
        refine z_gFR 0 11 hX (by decide) rfl (by decide) rfl q_379 dX5_setting_67 (fun r12 => ?_)
        refine z_iload_n hX 1 rfl rfl dX5_setting_70 ?_
        refine z_iload hX 0 rfl dX5_setting_71 ?_
        refine z_wI hX dX5_setting_73 (fun M13 => ?_)
        refine z_aload_n hX 3 rfl rfl dX5_setting_74 ?_
        refine z_cVVm 7 [] hX (fun l hl o ho => c_X7_next l hl M13 v1 o ho) dX5_setting_75 (by decide) rfl rfl q_490 okV_X7_next rfl ⟨(Nat.le_of_ble_eq_true rfl), (Nat.le_of_ble_eq_true rfl)⟩ rfl (Nat.le_of_ble_eq_true rfl) rfl rfl ⟨(Nat.le_of_ble_eq_true rfl), (Nat.le_of_ble_eq_true rfl)⟩ (fun o14 => ?_)
        refine z_iconst (v := 0) hX (by decide) dX5_setting_78 ?_
        exact z_iretM hX dX5_setting_79 (Nat.le_of_ble_eq_true rfl) (Nat.le_of_ble_eq_true rfl)
      · refine z_iload hX 0 rfl dX5_setting_51 ?_
        exact z_iretM hX dX5_setting_53 (Nat.le_of_ble_eq_true rfl) (Nat.le_of_ble_eq_true rfl)
    · refine z_bipush (v := (-14)) hX (by decide) dX5_setting_27 ?_
      exact z_iretM hX dX5_setting_29 (Nat.le_of_ble_eq_true rfl) (Nat.le_of_ble_eq_true rfl)
  · refine z_bipush (v := (-11)) hX (by decide) dX5_setting_13 ?_
    exact z_iretM hX dX5_setting_15 (Nat.le_of_ble_eq_true rfl) (Nat.le_of_ble_eq_true rfl)
theorem c_X5_setting (l : Launch) (hl : l.stackTraces = false) (M : Mem) (v0 : Nat) (v1 : Nat) (v2 : Nat) (o : Int32 × Mem) (ho : f_X5_setting M v0 v1 v2 = some o) : Ct l yX5_setting cX5_setting 5 (some .int) rm_X5_setting [.ref v0, .ref v1, .ref v2] M (some (.int o.1)) o.2 :=
  Ct.of hl (by decide +kernel) (Nat.le_of_ble_eq_true rfl) rfl (fun X hX hin => z_X5_setting hX M v0 v1 v2 o ho)
theorem okV_X5_setting : okV yX5_setting cX5_setting 5 (some .int) 2 := ⟨q_602, q_2, q_88, q_603, by unfold okY; decide +kernel⟩
/-! ParticipatoryBudget$Reader.read(LParticipatoryBudget$Text;LParticipatoryBudget$Ballot;)I -/
abbrev rm_X5_read : Room := { frames := 12, cells := 0, slots := 0, locals := 293 }
set_option maxRecDepth 20000 in
set_option maxHeartbeats 4000000 in
theorem z_X5_read {X : Cxt} (hX : okX X cX5_read RX5 rm_X5_read (some .int) 6) (M : Mem) (v0 : Nat) (v1 : Nat) (v2 : Nat) : Zj X (fun o : Int32 × Mem => Qr X rm_X5_read.cells rm_X5_read.slots (some (.int o.1)) o.2) 0 0 0 [(0, .ref v0), (1, .ref v1), (2, .ref v2)] [] M (f_X5_read M v0 v1 v2) := by
  unfold f_X5_read
  refine z_aload_n hX 2 rfl rfl dX5_read_0 ?_
  refine z_cVVm 0 [] hX (fun l hl o ho => c_X0_clear l hl M v2 o ho) dX5_read_1 (by decide) rfl rfl q_486 okV_X0_clear rfl ⟨(Nat.le_of_ble_eq_true rfl), (Nat.le_of_ble_eq_true rfl)⟩ rfl (Nat.le_of_ble_eq_true rfl) rfl rfl ⟨(Nat.le_of_ble_eq_true rfl), (Nat.le_of_ble_eq_true rfl)⟩ (fun o1 => ?_)
  refine z_aload_n hX 0 rfl rfl dX5_read_4 ?_
  refine z_iconst (v := 0) hX (by decide) dX5_read_5 ?_
  refine z_pFI 5 0 hX (by decide) rfl (by decide) rfl q_151 rfl pd_1 rfl rfl dX5_read_6 (fun M2 => ?_)
  refine z_iconst (v := 0) hX (by decide) dX5_read_9 ?_
  refine z_istore_n hX [(3, .int 0), (0, .ref v0), (1, .ref v1), (2, .ref v2)] rfl (by decide) rfl dX5_read_10 ?_
  refine z_iconst (v := 0) hX (by decide) dX5_read_11 ?_
  refine z_istore hX [(4, .int 0), (3, .int 0), (0, .ref v0), (1, .ref v1), (2, .ref v2)] (by decide) rfl dX5_read_12 ?_
  refine z_sub [2, 3, 4, 1, 0] rfl ?_
  refine z_lp (x0 := (0, 0, M2)) (bd_X5_read_14 v0 v1 v2) 14 163 (fun (u3 : Int32 × Int32 × Mem) => [(0, .ref v0), (1, .ref v1), (2, .ref v2), (3, .int u3.1), (4, .int u3.2.1)]) (fun (e4 : Int32 × Int32 × Mem) => [(3, .int e4.1)]) (fun (u3 : Int32 × Int32 × Mem) => u3.2.2) ?_ ?_
  · intro e4
    refine z_iload_n hX 0 rfl rfl dX5_read_163 ?_
    exact z_iretM hX dX5_read_164 (Nat.le_of_ble_eq_true rfl) (Nat.le_of_ble_eq_true rfl)
  · intro kk5 rc6 hkk5 hrc6 u3
    unfold bd_X5_read_14
    refine z_iload hX 4 rfl dX5_read_14 ?_
    refine z_sipush (v := 1200) hX (by decide) dX5_read_16 ?_
    refine z_icmp_gt hX 163 (by decide) dX5_read_19 (fun _ => ?_) (fun _ => ?_)
    · refine z_sub [3] rfl ?_
      exact hkk5 (u3.1, u3.2.1, u3.2.2)
    · refine z_aload_n hX 1 rfl rfl dX5_read_22 ?_
      refine z_cVVm 7 [] hX (fun l hl o ho => c_X7_next l hl u3.2.2 v1 o ho) dX5_read_23 (by decide) rfl rfl q_490 okV_X7_next rfl ⟨(Nat.le_of_ble_eq_true rfl), (Nat.le_of_ble_eq_true rfl)⟩ rfl (Nat.le_of_ble_eq_true rfl) rfl rfl ⟨(Nat.le_of_ble_eq_true rfl), (Nat.le_of_ble_eq_true rfl)⟩ (fun o7 => ?_)
      refine z_aload_n hX 1 rfl rfl dX5_read_26 ?_
      refine z_gFI 7 2 hX (by decide) rfl (by decide) rfl q_125 dX5_read_27 (fun x8 => ?_)
      refine z_jl (C' := 0) (S' := 0) 135 (fun (j9 : Int32 × Mem) => [(0, .ref v0), (1, .ref v1), (2, .ref v2), (3, .int u3.1), (4, .int u3.2.1), (5, .int j9.1)]) (fun (j9 : Int32 × Mem) => []) (fun (j9 : Int32 × Mem) => j9.2) (fun j9 => ?_) (fun j9f kj9 => ?_)
      · refine z_iload hX 5 rfl dX5_read_135 ?_
        refine z_if_ge hX 143 (by decide) dX5_read_137 (fun _ => ?_) (fun _ => ?_)
        · refine z_aload_n hX 1 rfl rfl dX5_read_143 ?_
          refine z_gFI 7 2 hX (by decide) rfl (by decide) rfl q_125 dX5_read_144 (fun x10 => ?_)
          refine z_iconst (v := 3) hX (by decide) dX5_read_147 ?_
          refine z_icmp_eq hX 154 (by decide) dX5_read_148 (fun _ => ?_) (fun _ => ?_)
          · refine z_iinc hX 3 [(3, .int (u3.1 + 1)), (0, .ref v0), (1, .ref v1), (2, .ref v2), (4, .int u3.2.1), (5, .int j9.1)] rfl rfl (by decide) rfl dX5_read_154 ?_
            refine z_iinc hX 4 [(4, .int (u3.2.1 + 1)), (3, .int (u3.1 + 1)), (0, .ref v0), (1, .ref v1), (2, .ref v2), (5, .int j9.1)] rfl rfl (by decide) rfl dX5_read_157 ?_
            refine z_goto hX 14 (by decide) dX5_read_160 ?_
            refine z_sub [2, 3, 4, 1, 0] rfl ?_
            exact hrc6 (u3.1 + 1, u3.2.1 + 1, j9.2)
          · refine z_bipush (v := (-11)) hX (by decide) dX5_read_151 ?_
            exact z_iretM hX dX5_read_153 (Nat.le_of_ble_eq_true rfl) (Nat.le_of_ble_eq_true rfl)
        · refine z_iload hX 5 rfl dX5_read_140 ?_
          exact z_iretM hX dX5_read_142 (Nat.le_of_ble_eq_true rfl) (Nat.le_of_ble_eq_true rfl)
      · refine z_tsw0 (fun hz11 => ?_)
        refine z_tswC hX 0 88 hz11 dX5_read_30 (by decide) (by decide) rfl (by decide) ?_ (fun hz23 => ?_)
        · refine z_iload_n hX 3 rfl rfl dX5_read_88 ?_
          exact z_iretM hX dX5_read_89 (Nat.le_of_ble_eq_true rfl) (Nat.le_of_ble_eq_true rfl)
        refine z_tswC hX 1 131 hz23 dX5_read_30 (by decide) (by decide) rfl (by decide) ?_ (fun hz24 => ?_)
        · refine z_bipush (v := (-11)) hX (by decide) dX5_read_131 ?_
          refine z_ltI (fun x13 => ?_)
          refine z_istore hX [(5, .int x13), (0, .ref v0), (1, .ref v1), (2, .ref v2), (3, .int u3.1), (4, .int u3.2.1)] (by decide) rfl dX5_read_133 ?_
          refine z_sub [1, 2, 3, 4, 5, 0] rfl ?_
          exact kj9 (x13, o7)
        refine z_tswC hX 2 131 hz24 dX5_read_30 (by decide) (by decide) rfl (by decide) ?_ (fun hz25 => ?_)
        · refine z_bipush (v := (-11)) hX (by decide) dX5_read_131 ?_
          refine z_ltI (fun x14 => ?_)
          refine z_istore hX [(5, .int x14), (0, .ref v0), (1, .ref v1), (2, .ref v2), (3, .int u3.1), (4, .int u3.2.1)] (by decide) rfl dX5_read_133 ?_
          refine z_sub [1, 2, 3, 4, 5, 0] rfl ?_
          exact kj9 (x14, o7)
        refine z_tswC hX 3 131 hz25 dX5_read_30 (by decide) (by decide) rfl (by decide) ?_ (fun hz26 => ?_)
        · refine z_bipush (v := (-11)) hX (by decide) dX5_read_131 ?_
          refine z_ltI (fun x15 => ?_)
          refine z_istore hX [(5, .int x15), (0, .ref v0), (1, .ref v1), (2, .ref v2), (3, .int u3.1), (4, .int u3.2.1)] (by decide) rfl dX5_read_133 ?_
          refine z_sub [1, 2, 3, 4, 5, 0] rfl ?_
          exact kj9 (x15, o7)
        refine z_tswC hX 4 131 hz26 dX5_read_30 (by decide) (by decide) rfl (by decide) ?_ (fun hz27 => ?_)
        · refine z_bipush (v := (-11)) hX (by decide) dX5_read_131 ?_
          refine z_ltI (fun x16 => ?_)
          refine z_istore hX [(5, .int x16), (0, .ref v0), (1, .ref v1), (2, .ref v2), (3, .int u3.1), (4, .int u3.2.1)] (by decide) rfl dX5_read_133 ?_
          refine z_sub [1, 2, 3, 4, 5, 0] rfl ?_
          exact kj9 (x16, o7)
        refine z_tswC hX 5 90 hz27 dX5_read_30 (by decide) (by decide) rfl (by decide) ?_ (fun hz28 => ?_)
        · refine z_aload_n hX 1 rfl rfl dX5_read_90 ?_
          refine z_aload_n hX 2 rfl rfl dX5_read_91 ?_
          refine z_cSIm [.ref v1, .ref v2] hX (fun l hl o ho => c_X5_district l hl o7 v1 v2 o ho) dX5_read_92 q_566 okS_X5_district rfl ⟨(Nat.le_of_ble_eq_true rfl), (Nat.le_of_ble_eq_true rfl)⟩ rfl (Nat.le_of_ble_eq_true rfl) rfl rfl ⟨(Nat.le_of_ble_eq_true rfl), (Nat.le_of_ble_eq_true rfl)⟩ (fun o17 => ?_)
          refine z_istore hX [(5, .int o17.1), (0, .ref v0), (1, .ref v1), (2, .ref v2), (3, .int u3.1), (4, .int u3.2.1)] (by decide) rfl dX5_read_95 ?_
          refine z_goto hX 135 (by decide) dX5_read_97 ?_
          refine z_sub [1, 2, 3, 4, 5, 0] rfl ?_
          exact kj9 (o17.1, o17.2)
        refine z_tswC hX 6 100 hz28 dX5_read_30 (by decide) (by decide) rfl (by decide) ?_ (fun hz29 => ?_)
        · refine z_aload_n hX 1 rfl rfl dX5_read_100 ?_
          refine z_aload_n hX 2 rfl rfl dX5_read_101 ?_
          refine z_cSIm [.ref v1, .ref v2] hX (fun l hl o ho => c_X5_project l hl o7 v1 v2 o ho) dX5_read_102 q_588 okS_X5_project rfl ⟨(Nat.le_of_ble_eq_true rfl), (Nat.le_of_ble_eq_true rfl)⟩ rfl (Nat.le_of_ble_eq_true rfl) rfl rfl ⟨(Nat.le_of_ble_eq_true rfl), (Nat.le_of_ble_eq_true rfl)⟩ (fun o18 => ?_)
          refine z_istore hX [(5, .int o18.1), (0, .ref v0), (1, .ref v1), (2, .ref v2), (3, .int u3.1), (4, .int u3.2.1)] (by decide) rfl dX5_read_105 ?_
          refine z_goto hX 135 (by decide) dX5_read_107 ?_
          refine z_sub [1, 2, 3, 4, 5, 0] rfl ?_
          exact kj9 (o18.1, o18.2)
        refine z_tswC hX 7 110 hz29 dX5_read_30 (by decide) (by decide) rfl (by decide) ?_ (fun hz30 => ?_)
        · refine z_aload_n hX 1 rfl rfl dX5_read_110 ?_
          refine z_aload_n hX 2 rfl rfl dX5_read_111 ?_
          refine z_cSIm [.ref v1, .ref v2] hX (fun l hl o ho => c_X5_voter l hl o7 v1 v2 o ho) dX5_read_112 q_597 okS_X5_voter rfl ⟨(Nat.le_of_ble_eq_true rfl), (Nat.le_of_ble_eq_true rfl)⟩ rfl (Nat.le_of_ble_eq_true rfl) rfl rfl ⟨(Nat.le_of_ble_eq_true rfl), (Nat.le_of_ble_eq_true rfl)⟩ (fun o19 => ?_)
          refine z_istore hX [(5, .int o19.1), (0, .ref v0), (1, .ref v1), (2, .ref v2), (3, .int u3.1), (4, .int u3.2.1)] (by decide) rfl dX5_read_115 ?_
          refine z_goto hX 135 (by decide) dX5_read_117 ?_
          refine z_sub [1, 2, 3, 4, 5, 0] rfl ?_
          exact kj9 (o19.1, o19.2)
        refine z_tswC hX 8 131 hz30 dX5_read_30 (by decide) (by decide) rfl (by decide) ?_ (fun hz31 => ?_)
        · refine z_bipush (v := (-11)) hX (by decide) dX5_read_131 ?_
          refine z_ltI (fun x20 => ?_)
          refine z_istore hX [(5, .int x20), (0, .ref v0), (1, .ref v1), (2, .ref v2), (3, .int u3.1), (4, .int u3.2.1)] (by decide) rfl dX5_read_133 ?_
          refine z_sub [1, 2, 3, 4, 5, 0] rfl ?_
          exact kj9 (x20, o7)
        refine z_tswC hX 9 131 hz31 dX5_read_30 (by decide) (by decide) rfl (by decide) ?_ (fun hz32 => ?_)
        · refine z_bipush (v := (-11)) hX (by decide) dX5_read_131 ?_
          refine z_ltI (fun x21 => ?_)
          refine z_istore hX [(5, .int x21), (0, .ref v0), (1, .ref v1), (2, .ref v2), (3, .int u3.1), (4, .int u3.2.1)] (by decide) rfl dX5_read_133 ?_
          refine z_sub [1, 2, 3, 4, 5, 0] rfl ?_
          exact kj9 (x21, o7)
        refine z_tswC hX 10 120 hz32 dX5_read_30 (by decide) (by decide) rfl (by decide) ?_ (fun hz33 => ?_)
        · refine z_aload_n hX 0 rfl rfl dX5_read_120 ?_
          refine z_aload_n hX 1 rfl rfl dX5_read_121 ?_
          refine z_aload_n hX 2 rfl rfl dX5_read_122 ?_
          refine z_cVIm 5 [.ref v1, .ref v2] hX (fun l hl o ho => c_X5_setting l hl o7 v0 v1 v2 o ho) dX5_read_123 (by decide) rfl rfl q_600 okV_X5_setting rfl ⟨(Nat.le_of_ble_eq_true rfl), (Nat.le_of_ble_eq_true rfl)⟩ rfl (Nat.le_of_ble_eq_true rfl) rfl rfl ⟨(Nat.le_of_ble_eq_true rfl), (Nat.le_of_ble_eq_true rfl)⟩ (fun o22 => ?_)
          refine z_istore hX [(5, .int o22.1), (0, .ref v0), (1, .ref v1), (2, .ref v2), (3, .int u3.1), (4, .int u3.2.1)] (by decide) rfl dX5_read_126 ?_
          refine z_goto hX 135 (by decide) dX5_read_128 ?_
          refine z_sub [1, 2, 3, 4, 5, 0] rfl ?_
          exact kj9 (o22.1, o22.2)
        refine z_tswD hX 11 131 hz33 dX5_read_30 (by decide) (by decide) (by decide) ?_
        refine z_bipush (v := (-11)) hX (by decide) dX5_read_131 ?_
        refine z_ltI (fun x12 => ?_)
        refine z_istore hX [(5, .int x12), (0, .ref v0), (1, .ref v1), (2, .ref v2), (3, .int u3.1), (4, .int u3.2.1)] (by decide) rfl dX5_read_133 ?_
        refine z_sub [1, 2, 3, 4, 5, 0] rfl ?_
        exact kj9 (x12, o7)
theorem c_X5_read (l : Launch) (hl : l.stackTraces = false) (M : Mem) (v0 : Nat) (v1 : Nat) (v2 : Nat) (o : Int32 × Mem) (ho : f_X5_read M v0 v1 v2 = some o) : Ct l yX5_read cX5_read 6 (some .int) rm_X5_read [.ref v0, .ref v1, .ref v2] M (some (.int o.1)) o.2 :=
  Ct.of hl (by decide +kernel) (Nat.le_of_ble_eq_true rfl) rfl (fun X hX hin => z_X5_read hX M v0 v1 v2 o ho)
theorem okV_X5_read : okV yX5_read cX5_read 6 (some .int) 2 := ⟨q_483, q_484, q_88, q_485, by unfold okY; decide +kernel⟩
/-! ParticipatoryBudget$Rounds.whenFunded(I)I -/
abbrev rm_X6_whenFunded : Room := { frames := 0, cells := 0, slots := 0, locals := 0 }
set_option maxRecDepth 20000 in
set_option maxHeartbeats 4000000 in
theorem z_X6_whenFunded {X : Cxt} (hX : okX X cX6_whenFunded RX6 rm_X6_whenFunded (some .int) 3) (M : Mem) (v0 : Nat) (v1 : Int32) : Zj X (fun o : Int32 => Qr X rm_X6_whenFunded.cells rm_X6_whenFunded.slots (some (.int o)) M) 0 0 0 [(0, .ref v0), (1, .int v1)] [] M (f_X6_whenFunded M v0 v1) := by
  unfold f_X6_whenFunded
  refine z_iconst (v := 0) hX (by decide) dX6_whenFunded_0 ?_
  refine z_istore_n hX [(2, .int 0), (0, .ref v0), (1, .int v1)] rfl (by decide) rfl dX6_whenFunded_1 ?_
  refine z_sub [1, 2, 0] rfl ?_
  refine z_lp (x0 := 0) (bd_X6_whenFunded_2 M v0 v1) 2 28 (fun (u1 : Int32) => [(0, .ref v0), (1, .int v1), (2, .int u1)]) (fun (e2 : Int32) => []) (fun (u1 : Int32) => M) ?_ ?_
  · intro e2
    refine z_iconst (v := (-1)) hX (by decide) dX6_whenFunded_28 ?_
    exact z_iretP hX dX6_whenFunded_29 (Nat.le_of_ble_eq_true rfl) (Nat.le_of_ble_eq_true rfl)
  · intro kk3 rc4 hkk3 hrc4 u1
    unfold bd_X6_whenFunded_2
    refine z_iload_n hX 2 rfl rfl dX6_whenFunded_2 ?_
    refine z_aload_n hX 0 rfl rfl dX6_whenFunded_3 ?_
    refine z_gFI 6 7 hX (by decide) rfl (by decide) rfl q_203 dX6_whenFunded_4 (fun x5 => ?_)
    refine z_icmp_ge hX 28 (by decide) dX6_whenFunded_7 (fun _ => ?_) (fun _ => ?_)
    · refine z_sub [] rfl ?_
      exact hkk3 u1
    · refine z_aload_n hX 0 rfl rfl dX6_whenFunded_10 ?_
      refine z_gFR 6 4 hX (by decide) rfl (by decide) rfl q_199 dX6_whenFunded_11 (fun r6 => ?_)
      refine z_iload_n hX 2 rfl rfl dX6_whenFunded_14 ?_
      refine z_aI hX dX6_whenFunded_15 (fun x7 => ?_)
      refine z_iload_n hX 1 rfl rfl dX6_whenFunded_16 ?_
      refine z_icmp_ne hX 22 (by decide) dX6_whenFunded_17 (fun _ => ?_) (fun _ => ?_)
      · refine z_iinc hX 2 [(2, .int (u1 + 1)), (0, .ref v0), (1, .int v1)] rfl rfl (by decide) rfl dX6_whenFunded_22 ?_
        refine z_goto hX 2 (by decide) dX6_whenFunded_25 ?_
        refine z_sub [1, 2, 0] rfl ?_
        exact hrc4 (u1 + 1)
      · refine z_iload_n hX 2 rfl rfl dX6_whenFunded_20 ?_
        exact z_iretP hX dX6_whenFunded_21 (Nat.le_of_ble_eq_true rfl) (Nat.le_of_ble_eq_true rfl)
theorem c_X6_whenFunded (l : Launch) (hl : l.stackTraces = false) (M : Mem) (v0 : Nat) (v1 : Int32) (o : Int32) (ho : f_X6_whenFunded M v0 v1 = some o) : Ct l yX6_whenFunded cX6_whenFunded 3 (some .int) rm_X6_whenFunded [.ref v0, .int v1] M (some (.int o)) M :=
  Ct.of hl (by decide +kernel) (Nat.le_of_ble_eq_true rfl) rfl (fun X hX hin => z_X6_whenFunded hX M v0 v1 o ho)
theorem okV_X6_whenFunded : okV yX6_whenFunded cX6_whenFunded 3 (some .int) 1 := ⟨q_1138, q_1139, q_91, q_1140, by unfold okY; decide +kernel⟩
/-! ParticipatoryBudget$Text.<init>()V -/
abbrev rm_X7_init : Room := { frames := 1, cells := 1, slots := 1200, locals := 13 }
set_option maxRecDepth 20000 in
set_option maxHeartbeats 4000000 in
theorem z_X7_init {X : Cxt} (hX : okX X cX7_init RX7 rm_X7_init (none) 1) (hin : inX X) (M : Mem) (v0 : Nat) : Zj X (fun o : Mem => Qr X rm_X7_init.cells rm_X7_init.slots (none) o) 0 0 0 [(0, .ref v0)] [] M (f_X7_init M v0) := by
  unfold f_X7_init
  refine z_aload_n hX 0 rfl rfl dX7_init_0 ?_
  refine z_oI hX dX7_init_1 q_121 q_114 q_115 (Nat.le_of_ble_eq_true rfl) (Nat.le_of_ble_eq_true rfl) ?_
  refine z_aload_n hX 0 rfl rfl dX7_init_4 ?_
  refine z_sipush (v := 1200) hX (by decide) dX7_init_5 ?_
  refine z_newA (aty := .byte) 21 1200 hX (Or.inr (Or.inl ⟨rfl, rfl⟩)) q_144 (by decide) (by decide) (by decide) dX7_init_8 rfl rfl (Nat.le_of_ble_eq_true rfl) (Nat.le_of_ble_eq_true rfl) (fun o1 => ?_)
  refine z_pFRf 7 0 hX hin (by decide) rfl (by decide) rfl q_122 rfl rfl pd_5 rfl rfl dX7_init_10 (fun M2 => ?_)
  exact z_vretM hX dX7_init_13 (Nat.le_of_ble_eq_true rfl) (Nat.le_of_ble_eq_true rfl)
theorem c_X7_init (l : Launch) (hl : l.stackTraces = false) (M : Mem) (v0 : Nat) (o : Mem) (ho : f_X7_init M v0 = some o) : Ct l yX7_init cX7_init 1 (none) rm_X7_init [.ref v0] M (none) o :=
  Ct.of hl (by decide +kernel) (Nat.le_of_ble_eq_true rfl) rfl (fun X hX hin => z_X7_init hX (hin rfl) M v0 o ho)
theorem okI_X7_init : okI yX7_init cX7_init 1 0 := ⟨rfl, q_119, q_87, q_120, by unfold okY; decide +kernel⟩
/-! ParticipatoryBudget$Text.append(I)V -/
abbrev rm_X7_append : Room := { frames := 0, cells := 0, slots := 0, locals := 0 }
set_option maxRecDepth 20000 in
set_option maxHeartbeats 4000000 in
theorem z_X7_append {X : Cxt} (hX : okX X cX7_append RX7 rm_X7_append (none) 3) (M : Mem) (v0 : Nat) (v1 : Int32) : Zj X (fun o : Mem => Qr X rm_X7_append.cells rm_X7_append.slots (none) o) 0 0 0 [(0, .ref v0), (1, .int v1)] [] M (f_X7_append M v0 v1) := by
  unfold f_X7_append
  refine z_bipush (v := 24) hX (by decide) dX7_append_0 ?_
  refine z_istore_n hX [(2, .int 24), (0, .ref v0), (1, .int v1)] rfl (by decide) rfl dX7_append_2 ?_
  refine z_sub [1, 2, 0] rfl ?_
  refine z_lp (x0 := (24, M)) (bd_X7_append_3 v0 v1) 3 46 (fun (u1 : Int32 × Mem) => [(0, .ref v0), (1, .int v1), (2, .int u1.1)]) (fun (e2 : Int32 × Mem) => []) (fun (u1 : Int32 × Mem) => u1.2) ?_ ?_
  · intro e2
    exact z_vretM hX dX7_append_46 (Nat.le_of_ble_eq_true rfl) (Nat.le_of_ble_eq_true rfl)
  · intro kk3 rc4 hkk3 hrc4 u1
    unfold bd_X7_append_3
    refine z_iload_n hX 2 rfl rfl dX7_append_3 ?_
    refine z_if_lt hX 46 (by decide) dX7_append_4 (fun _ => ?_) (fun _ => ?_)
    · refine z_sub [] rfl ?_
      exact hkk3 (u1.1, u1.2)
    · refine z_aload_n hX 0 rfl rfl dX7_append_7 ?_
      refine z_gFI 7 1 hX (by decide) rfl (by decide) rfl q_124 dX7_append_8 (fun x5 => ?_)
      refine z_sipush (v := 1200) hX (by decide) dX7_append_11 ?_
      refine z_icmp_ge hX 46 (by decide) dX7_append_14 (fun _ => ?_) (fun _ => ?_)
      · refine z_sub [] rfl ?_
        exact hkk3 (u1.1, u1.2)
      · refine z_aload_n hX 0 rfl rfl dX7_append_17 ?_
        refine z_gFR 7 0 hX (by decide) rfl (by decide) rfl q_122 dX7_append_18 (fun r6 => ?_)
        refine z_aload_n hX 0 rfl rfl dX7_append_21 ?_
        refine z_gFI 7 1 hX (by decide) rfl (by decide) rfl q_124 dX7_append_22 (fun x7 => ?_)
        refine z_iload_n hX 1 rfl rfl dX7_append_25 ?_
        refine z_iload_n hX 2 rfl rfl dX7_append_26 ?_
        refine z_ishr hX dX7_append_27 ?_
        refine z_i2b hX rfl dX7_append_28 ?_
        refine z_wB hX dX7_append_29 (fun M8 => ?_)
        refine z_aload_n hX 0 rfl rfl dX7_append_30 ?_
        refine z_dup hX rfl dX7_append_31 ?_
        refine z_gFI 7 1 hX (by decide) rfl (by decide) rfl q_124 dX7_append_32 (fun x9 => ?_)
        refine z_iconst (v := 1) hX (by decide) dX7_append_35 ?_
        refine z_iadd hX dX7_append_36 ?_
        refine z_pFI 7 1 hX (by decide) rfl (by decide) rfl q_124 rfl pd_1 rfl rfl dX7_append_37 (fun M10 => ?_)
        obtain ⟨w11, hw11⟩ : ∃ z : Int32, u1.1 + (-8) = z := ⟨_, rfl⟩
        rw [hw11]
        refine z_iinc hX 2 [(2, .int w11), (0, .ref v0), (1, .int v1)] rfl ((congrArg (fun z : Int32 => u1.1 + z) (show Int32.ofInt (-8) = (-8) by decide)).trans hw11) (by decide) rfl dX7_append_40 ?_
        refine z_goto hX 3 (by decide) dX7_append_43 ?_
        refine z_sub [1, 2, 0] rfl ?_
        exact hrc4 (w11, M10)
theorem c_X7_append (l : Launch) (hl : l.stackTraces = false) (M : Mem) (v0 : Nat) (v1 : Int32) (o : Mem) (ho : f_X7_append M v0 v1 = some o) : Ct l yX7_append cX7_append 3 (none) rm_X7_append [.ref v0, .int v1] M (none) o :=
  Ct.of hl (by decide +kernel) (Nat.le_of_ble_eq_true rfl) rfl (fun X hX hin => z_X7_append hX M v0 v1 o ho)
theorem okV_X7_append : okV yX7_append cX7_append 3 (none) 1 := ⟨q_468, q_469, q_87, q_470, by unfold okY; decide +kernel⟩
/-! ParticipatoryBudget$Text.open(I)V -/
abbrev rm_X7_open : Room := { frames := 1, cells := 0, slots := 0, locals := 14 }
set_option maxRecDepth 20000 in
set_option maxHeartbeats 4000000 in
theorem z_X7_open {X : Cxt} (hX : okX X cX7_open RX7 rm_X7_open (none) 2) (M : Mem) (v0 : Nat) (v1 : Int32) : Zj X (fun o : Mem => Qr X rm_X7_open.cells rm_X7_open.slots (none) o) 0 0 0 [(0, .ref v0), (1, .int v1)] [] M (f_X7_open M v0 v1) := by
  unfold f_X7_open
  refine z_aload_n hX 0 rfl rfl dX7_open_0 ?_
  refine z_iload_n hX 1 rfl rfl dX7_open_1 ?_
  refine z_aload_n hX 0 rfl rfl dX7_open_2 ?_
  refine z_gFI 7 1 hX (by decide) rfl (by decide) rfl q_124 dX7_open_3 (fun x1 => ?_)
  refine z_min hX dX7_open_6 q_479 q_480 q_97 q_481 (Nat.le_of_ble_eq_true rfl) (Nat.le_of_ble_eq_true rfl) ⟨(Nat.le_of_ble_eq_true rfl), (Nat.le_of_ble_eq_true rfl)⟩ ?_
  refine z_pFI 7 4 hX (by decide) rfl (by decide) rfl q_129 rfl pd_1 rfl rfl dX7_open_9 (fun M2 => ?_)
  refine z_aload_n hX 0 rfl rfl dX7_open_12 ?_
  refine z_iconst (v := 0) hX (by decide) dX7_open_13 ?_
  refine z_pFI 7 3 hX (by decide) rfl (by decide) rfl q_127 rfl pd_1 rfl rfl dX7_open_14 (fun M3 => ?_)
  refine z_aload_n hX 0 rfl rfl dX7_open_17 ?_
  refine z_iconst (v := 0) hX (by decide) dX7_open_18 ?_
  refine z_pFI 7 5 hX (by decide) rfl (by decide) rfl q_130 rfl pd_1 rfl rfl dX7_open_19 (fun M4 => ?_)
  refine z_aload_n hX 0 rfl rfl dX7_open_22 ?_
  refine z_iconst (v := 0) hX (by decide) dX7_open_23 ?_
  refine z_pFI 7 2 hX (by decide) rfl (by decide) rfl q_126 rfl pd_1 rfl rfl dX7_open_24 (fun M5 => ?_)
  exact z_vretM hX dX7_open_27 (Nat.le_of_ble_eq_true rfl) (Nat.le_of_ble_eq_true rfl)
theorem c_X7_open (l : Launch) (hl : l.stackTraces = false) (M : Mem) (v0 : Nat) (v1 : Int32) (o : Mem) (ho : f_X7_open M v0 v1 = some o) : Ct l yX7_open cX7_open 2 (none) rm_X7_open [.ref v0, .int v1] M (none) o :=
  Ct.of hl (by decide +kernel) (Nat.le_of_ble_eq_true rfl) rfl (fun X hX hin => z_X7_open hX M v0 v1 o ho)
theorem okV_X7_open : okV yX7_open cX7_open 2 (none) 1 := ⟨q_476, q_477, q_87, q_478, by unfold okY; decide +kernel⟩
/-! ParticipatoryBudget.<init>()V -/
abbrev rm_X8_init : Room := { frames := 3, cells := 376, slots := 13015, locals := 60 }
set_option maxRecDepth 20000 in
set_option maxHeartbeats 4000000 in
theorem z_X8_init {X : Cxt} (hX : okX X cX8_init RX8 rm_X8_init (none) 1) (hin : inX X) (M : Mem) (v0 : Nat) : Zj X (fun o : Mem => Qr X rm_X8_init.cells rm_X8_init.slots (none) o) 0 0 0 [(0, .ref v0)] [] M (f_X8_init M v0) := by
  unfold f_X8_init
  refine z_aload_n hX 0 rfl rfl dX8_init_0 ?_
  refine z_oI hX dX8_init_1 q_113 q_114 q_115 (Nat.le_of_ble_eq_true rfl) (Nat.le_of_ble_eq_true rfl) ?_
  refine z_aload_n hX 0 rfl rfl dX8_init_4 ?_
  refine z_new 7 hX (by decide) rfl q_116 q_117 q_87 dX8_init_5 rfl rfl (Nat.le_of_ble_eq_true rfl) (Nat.le_of_ble_eq_true rfl) (fun o1 => ?_)
  refine z_dup hX rfl dX8_init_8 ?_
  refine z_cINm [] hX (fun l hl o ho => c_X7_init l hl o1.2 o1.1 o ho) dX8_init_9 nw_0 okI_X7_init rfl ⟨(Nat.le_of_ble_eq_true rfl), (Nat.le_of_ble_eq_true rfl)⟩ rfl (Nat.le_of_ble_eq_true rfl) rfl rfl ⟨(Nat.le_of_ble_eq_true rfl), (Nat.le_of_ble_eq_true rfl)⟩ (fun o2 => ?_)
  refine z_pFRf 8 0 hX hin (by decide) rfl (by decide) rfl q_417 rfl rfl pd_6 rfl rfl dX8_init_12 (fun M3 => ?_)
  refine z_aload_n hX 0 rfl rfl dX8_init_15 ?_
  refine z_new 5 hX (by decide) rfl q_145 q_146 q_88 dX8_init_16 rfl rfl (Nat.le_of_ble_eq_true rfl) (Nat.le_of_ble_eq_true rfl) (fun o4 => ?_)
  refine z_dup hX rfl dX8_init_19 ?_
  refine z_cINm [] hX (fun l hl o ho => c_X5_init l hl o4.2 o4.1 o ho) dX8_init_20 nw_1 okI_X5_init rfl ⟨(Nat.le_of_ble_eq_true rfl), (Nat.le_of_ble_eq_true rfl)⟩ rfl (Nat.le_of_ble_eq_true rfl) rfl rfl ⟨(Nat.le_of_ble_eq_true rfl), (Nat.le_of_ble_eq_true rfl)⟩ (fun o5 => ?_)
  refine z_pFRf 8 1 hX hin (by decide) rfl (by decide) rfl q_418 rfl rfl pd_7 rfl rfl dX8_init_23 (fun M6 => ?_)
  refine z_aload_n hX 0 rfl rfl dX8_init_26 ?_
  refine z_new 3 hX (by decide) rfl q_155 q_156 q_89 dX8_init_27 rfl rfl (Nat.le_of_ble_eq_true rfl) (Nat.le_of_ble_eq_true rfl) (fun o7 => ?_)
  refine z_dup hX rfl dX8_init_30 ?_
  refine z_cINm [] hX (fun l hl o ho => c_X3_init l hl o7.2 o7.1 o ho) dX8_init_31 nw_2 okI_X3_init rfl ⟨(Nat.le_of_ble_eq_true rfl), (Nat.le_of_ble_eq_true rfl)⟩ rfl (Nat.le_of_ble_eq_true rfl) rfl rfl ⟨(Nat.le_of_ble_eq_true rfl), (Nat.le_of_ble_eq_true rfl)⟩ (fun o8 => ?_)
  refine z_pFRf 8 2 hX hin (by decide) rfl (by decide) rfl q_419 rfl rfl pd_8 rfl rfl dX8_init_34 (fun M9 => ?_)
  refine z_aload_n hX 0 rfl rfl dX8_init_37 ?_
  refine z_new 1 hX (by decide) rfl q_176 q_177 q_90 dX8_init_38 rfl rfl (Nat.le_of_ble_eq_true rfl) (Nat.le_of_ble_eq_true rfl) (fun o10 => ?_)
  refine z_dup hX rfl dX8_init_41 ?_
  refine z_cINm [] hX (fun l hl o ho => c_X1_init l hl o10.2 o10.1 o ho) dX8_init_42 nw_3 okI_X1_init rfl ⟨(Nat.le_of_ble_eq_true rfl), (Nat.le_of_ble_eq_true rfl)⟩ rfl (Nat.le_of_ble_eq_true rfl) rfl rfl ⟨(Nat.le_of_ble_eq_true rfl), (Nat.le_of_ble_eq_true rfl)⟩ (fun o11 => ?_)
  refine z_pFRf 8 3 hX hin (by decide) rfl (by decide) rfl q_420 rfl rfl pd_9 rfl rfl dX8_init_45 (fun M12 => ?_)
  refine z_aload_n hX 0 rfl rfl dX8_init_48 ?_
  refine z_new 1 hX (by decide) rfl q_176 q_177 q_90 dX8_init_49 rfl rfl (Nat.le_of_ble_eq_true rfl) (Nat.le_of_ble_eq_true rfl) (fun o13 => ?_)
  refine z_dup hX rfl dX8_init_52 ?_
  refine z_cINm [] hX (fun l hl o ho => c_X1_init l hl o13.2 o13.1 o ho) dX8_init_53 nw_3 okI_X1_init rfl ⟨(Nat.le_of_ble_eq_true rfl), (Nat.le_of_ble_eq_true rfl)⟩ rfl (Nat.le_of_ble_eq_true rfl) rfl rfl ⟨(Nat.le_of_ble_eq_true rfl), (Nat.le_of_ble_eq_true rfl)⟩ (fun o14 => ?_)
  refine z_pFRf 8 4 hX hin (by decide) rfl (by decide) rfl q_421 rfl rfl pd_9 rfl rfl dX8_init_56 (fun M15 => ?_)
  refine z_aload_n hX 0 rfl rfl dX8_init_59 ?_
  refine z_new 2 hX (by decide) rfl q_279 q_228 q_92 dX8_init_60 rfl rfl (Nat.le_of_ble_eq_true rfl) (Nat.le_of_ble_eq_true rfl) (fun o16 => ?_)
  refine z_dup hX rfl dX8_init_63 ?_
  refine z_cINm [] hX (fun l hl o ho => c_X2_init l hl o16.2 o16.1 o ho) dX8_init_64 nw_6 okI_X2_init rfl ⟨(Nat.le_of_ble_eq_true rfl), (Nat.le_of_ble_eq_true rfl)⟩ rfl (Nat.le_of_ble_eq_true rfl) rfl rfl ⟨(Nat.le_of_ble_eq_true rfl), (Nat.le_of_ble_eq_true rfl)⟩ (fun o17 => ?_)
  refine z_pFRf 8 5 hX hin (by decide) rfl (by decide) rfl q_422 rfl rfl pd_4 rfl rfl dX8_init_67 (fun M18 => ?_)
  refine z_aload_n hX 0 rfl rfl dX8_init_70 ?_
  refine z_new 2 hX (by decide) rfl q_279 q_228 q_92 dX8_init_71 rfl rfl (Nat.le_of_ble_eq_true rfl) (Nat.le_of_ble_eq_true rfl) (fun o19 => ?_)
  refine z_dup hX rfl dX8_init_74 ?_
  refine z_cINm [] hX (fun l hl o ho => c_X2_init l hl o19.2 o19.1 o ho) dX8_init_75 nw_6 okI_X2_init rfl ⟨(Nat.le_of_ble_eq_true rfl), (Nat.le_of_ble_eq_true rfl)⟩ rfl (Nat.le_of_ble_eq_true rfl) rfl rfl ⟨(Nat.le_of_ble_eq_true rfl), (Nat.le_of_ble_eq_true rfl)⟩ (fun o20 => ?_)
  refine z_pFRf 8 6 hX hin (by decide) rfl (by decide) rfl q_423 rfl rfl pd_4 rfl rfl dX8_init_78 (fun M21 => ?_)
  refine z_aload_n hX 0 rfl rfl dX8_init_81 ?_
  refine z_new 4 hX (by decide) rfl q_281 q_282 q_93 dX8_init_82 rfl rfl (Nat.le_of_ble_eq_true rfl) (Nat.le_of_ble_eq_true rfl) (fun o22 => ?_)
  refine z_dup hX rfl dX8_init_85 ?_
  refine z_cINm [] hX (fun l hl o ho => c_X4_init l hl o22.2 o22.1 o ho) dX8_init_86 nw_7 okI_X4_init rfl ⟨(Nat.le_of_ble_eq_true rfl), (Nat.le_of_ble_eq_true rfl)⟩ rfl (Nat.le_of_ble_eq_true rfl) rfl rfl ⟨(Nat.le_of_ble_eq_true rfl), (Nat.le_of_ble_eq_true rfl)⟩ (fun o23 => ?_)
  refine z_pFRf 8 7 hX hin (by decide) rfl (by decide) rfl q_424 rfl rfl pd_10 rfl rfl dX8_init_89 (fun M24 => ?_)
  refine z_aload_n hX 0 rfl rfl dX8_init_92 ?_
  refine z_new 0 hX (by decide) rfl q_307 q_308 q_94 dX8_init_93 rfl rfl (Nat.le_of_ble_eq_true rfl) (Nat.le_of_ble_eq_true rfl) (fun o25 => ?_)
  refine z_dup hX rfl dX8_init_96 ?_
  refine z_cIm [] hX (fun l hl o ho => c_X0_init l hl o25.2 o25.1 o ho) dX8_init_97 q_309 okI_X0_init rfl ⟨(Nat.le_of_ble_eq_true rfl), (Nat.le_of_ble_eq_true rfl)⟩ rfl (Nat.le_of_ble_eq_true rfl) rfl rfl ⟨(Nat.le_of_ble_eq_true rfl), (Nat.le_of_ble_eq_true rfl)⟩ (fun o26 => ?_)
  refine z_pFR 8 8 hX (by decide) rfl (by decide) rfl q_425 rfl pd_11 rfl rfl dX8_init_100 (fun M27 => ?_)
  refine z_aload_n hX 0 rfl rfl dX8_init_103 ?_
  refine z_new 0 hX (by decide) rfl q_307 q_308 q_94 dX8_init_104 rfl rfl (Nat.le_of_ble_eq_true rfl) (Nat.le_of_ble_eq_true rfl) (fun o28 => ?_)
  refine z_dup hX rfl dX8_init_107 ?_
  refine z_cIm [] hX (fun l hl o ho => c_X0_init l hl o28.2 o28.1 o ho) dX8_init_108 q_309 okI_X0_init rfl ⟨(Nat.le_of_ble_eq_true rfl), (Nat.le_of_ble_eq_true rfl)⟩ rfl (Nat.le_of_ble_eq_true rfl) rfl rfl ⟨(Nat.le_of_ble_eq_true rfl), (Nat.le_of_ble_eq_true rfl)⟩ (fun o29 => ?_)
  refine z_pFR 8 9 hX (by decide) rfl (by decide) rfl q_426 rfl pd_11 rfl rfl dX8_init_111 (fun M30 => ?_)
  refine z_aload_n hX 0 rfl rfl dX8_init_114 ?_
  refine z_iconst (v := (-1)) hX (by decide) dX8_init_115 ?_
  refine z_pFI 8 10 hX (by decide) rfl (by decide) rfl q_427 rfl pd_1 rfl rfl dX8_init_116 (fun M31 => ?_)
  exact z_vretM hX dX8_init_119 (Nat.le_of_ble_eq_true rfl) (Nat.le_of_ble_eq_true rfl)
theorem c_X8_init (l : Launch) (hl : l.stackTraces = false) (M : Mem) (v0 : Nat) (o : Mem) (ho : f_X8_init M v0 = some o) : Ct l yX8_init cX8_init 1 (none) rm_X8_init [.ref v0] M (none) o :=
  Ct.of hl (by decide +kernel) (Nat.le_of_ble_eq_true rfl) rfl (fun X hX hin => z_X8_init hX (hin rfl) M v0 o ho)
theorem okI_X8_init : okI yX8_init cX8_init 1 0 := ⟨rfl, q_111, q_86, q_112, by unfold okY; decide +kernel⟩
/-! ParticipatoryBudget.feed(IIIII)I -/
abbrev rm_X8_feed : Room := { frames := 1, cells := 0, slots := 0, locals := 22 }
set_option maxRecDepth 20000 in
set_option maxHeartbeats 4000000 in
theorem z_X8_feed {X : Cxt} (hX : okX X cX8_feed RX8 rm_X8_feed (some .int) 6) (M : Mem) (v0 : Nat) (v1 : Int32) (v2 : Int32) (v3 : Int32) (v4 : Int32) (v5 : Int32) : Zj X (fun o : Int32 × Mem => Qr X rm_X8_feed.cells rm_X8_feed.slots (some (.int o.1)) o.2) 0 0 0 [(0, .ref v0), (1, .int v1), (2, .int v2), (3, .int v3), (4, .int v4), (5, .int v5)] [] M (f_X8_feed M v0 v1 v2 v3 v4 v5) := by
  unfold f_X8_feed
  refine z_aload_n hX 0 rfl rfl dX8_feed_0 ?_
  refine z_gFR 8 0 hX (by decide) rfl (by decide) rfl q_417 dX8_feed_1 (fun r1 => ?_)
  refine z_gFI 7 1 hX (by decide) rfl (by decide) rfl q_123 dX8_feed_4 (fun x2 => ?_)
  refine z_bipush (v := 20) hX (by decide) dX8_feed_7 ?_
  refine z_iadd hX dX8_feed_9 ?_
  refine z_sipush (v := 1200) hX (by decide) dX8_feed_10 ?_
  refine z_icmp_le hX 19 (by decide) dX8_feed_13 (fun _ => ?_) (fun _ => ?_)
  · refine z_aload_n hX 0 rfl rfl dX8_feed_19 ?_
    refine z_gFR 8 0 hX (by decide) rfl (by decide) rfl q_417 dX8_feed_20 (fun r3 => ?_)
    refine z_iload_n hX 1 rfl rfl dX8_feed_23 ?_
    refine z_cVVm 7 [.int v1] hX (fun l hl o ho => c_X7_append l hl M r3 v1 o ho) dX8_feed_24 (by decide) rfl rfl q_467 okV_X7_append rfl ⟨(Nat.le_of_ble_eq_true rfl), (Nat.le_of_ble_eq_true rfl)⟩ rfl (Nat.le_of_ble_eq_true rfl) rfl rfl ⟨(Nat.le_of_ble_eq_true rfl), (Nat.le_of_ble_eq_true rfl)⟩ (fun o4 => ?_)
    refine z_aload_n hX 0 rfl rfl dX8_feed_27 ?_
    refine z_gFR 8 0 hX (by decide) rfl (by decide) rfl q_417 dX8_feed_28 (fun r5 => ?_)
    refine z_iload_n hX 2 rfl rfl dX8_feed_31 ?_
    refine z_cVVm 7 [.int v2] hX (fun l hl o ho => c_X7_append l hl o4 r5 v2 o ho) dX8_feed_32 (by decide) rfl rfl q_467 okV_X7_append rfl ⟨(Nat.le_of_ble_eq_true rfl), (Nat.le_of_ble_eq_true rfl)⟩ rfl (Nat.le_of_ble_eq_true rfl) rfl rfl ⟨(Nat.le_of_ble_eq_true rfl), (Nat.le_of_ble_eq_true rfl)⟩ (fun o6 => ?_)
    refine z_aload_n hX 0 rfl rfl dX8_feed_35 ?_
    refine z_gFR 8 0 hX (by decide) rfl (by decide) rfl q_417 dX8_feed_36 (fun r7 => ?_)
    refine z_iload_n hX 3 rfl rfl dX8_feed_39 ?_
    refine z_cVVm 7 [.int v3] hX (fun l hl o ho => c_X7_append l hl o6 r7 v3 o ho) dX8_feed_40 (by decide) rfl rfl q_467 okV_X7_append rfl ⟨(Nat.le_of_ble_eq_true rfl), (Nat.le_of_ble_eq_true rfl)⟩ rfl (Nat.le_of_ble_eq_true rfl) rfl rfl ⟨(Nat.le_of_ble_eq_true rfl), (Nat.le_of_ble_eq_true rfl)⟩ (fun o8 => ?_)
    refine z_aload_n hX 0 rfl rfl dX8_feed_43 ?_
    refine z_gFR 8 0 hX (by decide) rfl (by decide) rfl q_417 dX8_feed_44 (fun r9 => ?_)
    refine z_iload hX 4 rfl dX8_feed_47 ?_
    refine z_cVVm 7 [.int v4] hX (fun l hl o ho => c_X7_append l hl o8 r9 v4 o ho) dX8_feed_49 (by decide) rfl rfl q_467 okV_X7_append rfl ⟨(Nat.le_of_ble_eq_true rfl), (Nat.le_of_ble_eq_true rfl)⟩ rfl (Nat.le_of_ble_eq_true rfl) rfl rfl ⟨(Nat.le_of_ble_eq_true rfl), (Nat.le_of_ble_eq_true rfl)⟩ (fun o10 => ?_)
    refine z_aload_n hX 0 rfl rfl dX8_feed_52 ?_
    refine z_gFR 8 0 hX (by decide) rfl (by decide) rfl q_417 dX8_feed_53 (fun r11 => ?_)
    refine z_iload hX 5 rfl dX8_feed_56 ?_
    refine z_cVVm 7 [.int v5] hX (fun l hl o ho => c_X7_append l hl o10 r11 v5 o ho) dX8_feed_58 (by decide) rfl rfl q_467 okV_X7_append rfl ⟨(Nat.le_of_ble_eq_true rfl), (Nat.le_of_ble_eq_true rfl)⟩ rfl (Nat.le_of_ble_eq_true rfl) rfl rfl ⟨(Nat.le_of_ble_eq_true rfl), (Nat.le_of_ble_eq_true rfl)⟩ (fun o12 => ?_)
    refine z_aload_n hX 0 rfl rfl dX8_feed_61 ?_
    refine z_gFR 8 0 hX (by decide) rfl (by decide) rfl q_417 dX8_feed_62 (fun r13 => ?_)
    refine z_gFI 7 1 hX (by decide) rfl (by decide) rfl q_123 dX8_feed_65 (fun x14 => ?_)
    exact z_iretM hX dX8_feed_68 (Nat.le_of_ble_eq_true rfl) (Nat.le_of_ble_eq_true rfl)
  · refine z_bipush (v := (-3)) hX (by decide) dX8_feed_16 ?_
    exact z_iretM hX dX8_feed_18 (Nat.le_of_ble_eq_true rfl) (Nat.le_of_ble_eq_true rfl)
theorem c_X8_feed (l : Launch) (hl : l.stackTraces = false) (M : Mem) (v0 : Nat) (v1 : Int32) (v2 : Int32) (v3 : Int32) (v4 : Int32) (v5 : Int32) (o : Int32 × Mem) (ho : f_X8_feed M v0 v1 v2 v3 v4 v5 = some o) : Ct l yX8_feed cX8_feed 6 (some .int) rm_X8_feed [.ref v0, .int v1, .int v2, .int v3, .int v4, .int v5] M (some (.int o.1)) o.2 :=
  Ct.of hl (by decide +kernel) (Nat.le_of_ble_eq_true rfl) rfl (fun X hX hin => z_X8_feed hX M v0 v1 v2 v3 v4 v5 o ho)
theorem okV_X8_feed : okV yX8_feed cX8_feed 6 (some .int) 5 := ⟨q_464, q_465, q_86, q_466, by unfold okY; decide +kernel⟩
/-! ParticipatoryBudget.settle()V -/
abbrev rm_X8_settle : Room := { frames := 2, cells := 0, slots := 0, locals := 43 }
set_option maxRecDepth 20000 in
set_option maxHeartbeats 4000000 in
theorem z_X8_settle {X : Cxt} (hX : okX X cX8_settle RX8 rm_X8_settle (none) 1) (M : Mem) (v0 : Nat) : Zj X (fun o : Mem => Qr X rm_X8_settle.cells rm_X8_settle.slots (none) o) 0 0 0 [(0, .ref v0)] [] M (f_X8_settle M v0) := by
  unfold f_X8_settle
  refine z_aload_n hX 0 rfl rfl dX8_settle_0 ?_
  refine z_gFR 8 8 hX (by decide) rfl (by decide) rfl q_425 dX8_settle_1 (fun r1 => ?_)
  refine z_cVVm 0 [] hX (fun l hl o ho => c_X0_tally l hl M r1 o ho) dX8_settle_4 (by decide) rfl rfl q_619 okV_X0_tally rfl ⟨(Nat.le_of_ble_eq_true rfl), (Nat.le_of_ble_eq_true rfl)⟩ rfl (Nat.le_of_ble_eq_true rfl) rfl rfl ⟨(Nat.le_of_ble_eq_true rfl), (Nat.le_of_ble_eq_true rfl)⟩ (fun o2 => ?_)
  refine z_aload_n hX 0 rfl rfl dX8_settle_7 ?_
  refine z_iconst (v := 0) hX (by decide) dX8_settle_8 ?_
  refine z_pFI 8 12 hX (by decide) rfl (by decide) rfl q_429 rfl pd_12 rfl rfl dX8_settle_9 (fun M3 => ?_)
  refine z_aload_n hX 0 rfl rfl dX8_settle_12 ?_
  refine z_iconst (v := 0) hX (by decide) dX8_settle_13 ?_
  refine z_pFI 8 13 hX (by decide) rfl (by decide) rfl q_430 rfl pd_12 rfl rfl dX8_settle_14 (fun M4 => ?_)
  refine z_aload_n hX 0 rfl rfl dX8_settle_17 ?_
  refine z_iconst (v := 0) hX (by decide) dX8_settle_18 ?_
  refine z_pFI 8 14 hX (by decide) rfl (by decide) rfl q_431 rfl pd_12 rfl rfl dX8_settle_19 (fun M5 => ?_)
  exact z_vretM hX dX8_settle_22 (Nat.le_of_ble_eq_true rfl) (Nat.le_of_ble_eq_true rfl)
theorem c_X8_settle (l : Launch) (hl : l.stackTraces = false) (M : Mem) (v0 : Nat) (o : Mem) (ho : f_X8_settle M v0 = some o) : Ct l yX8_settle cX8_settle 1 (none) rm_X8_settle [.ref v0] M (none) o :=
  Ct.of hl (by decide +kernel) (Nat.le_of_ble_eq_true rfl) rfl (fun X hX hin => z_X8_settle hX M v0 o ho)
theorem okV_X8_settle : okV yX8_settle cX8_settle 1 (none) 0 := ⟨q_617, q_3, q_86, q_618, by unfold okY; decide +kernel⟩
/-! ParticipatoryBudget.load(I)I -/
abbrev rm_X8_load : Room := { frames := 13, cells := 0, slots := 0, locals := 318 }
set_option maxRecDepth 20000 in
set_option maxHeartbeats 4000000 in
theorem z_X8_load {X : Cxt} (hX : okX X cX8_load RX8 rm_X8_load (some .int) 4) (M : Mem) (v0 : Nat) (v1 : Int32) : Zj X (fun o : Int32 × Mem => Qr X rm_X8_load.cells rm_X8_load.slots (some (.int o.1)) o.2) 0 0 0 [(0, .ref v0), (1, .int v1)] [] M (f_X8_load M v0 v1) := by
  unfold f_X8_load
  refine z_iload_n hX 1 rfl rfl dX8_load_0 ?_
  refine z_if_lt hX 15 (by decide) dX8_load_1 (fun _ => ?_) (fun _ => ?_)
  · refine z_bipush (v := (-2)) hX (by decide) dX8_load_15 ?_
    exact z_iretM hX dX8_load_17 (Nat.le_of_ble_eq_true rfl) (Nat.le_of_ble_eq_true rfl)
  · refine z_iload_n hX 1 rfl rfl dX8_load_4 ?_
    refine z_aload_n hX 0 rfl rfl dX8_load_5 ?_
    refine z_gFR 8 0 hX (by decide) rfl (by decide) rfl q_417 dX8_load_6 (fun r1 => ?_)
    refine z_gFI 7 1 hX (by decide) rfl (by decide) rfl q_123 dX8_load_9 (fun x2 => ?_)
    refine z_icmp_le hX 18 (by decide) dX8_load_12 (fun _ => ?_) (fun _ => ?_)
    · refine z_aload_n hX 0 rfl rfl dX8_load_18 ?_
      refine z_gFR 8 0 hX (by decide) rfl (by decide) rfl q_417 dX8_load_19 (fun r3 => ?_)
      refine z_iload_n hX 1 rfl rfl dX8_load_22 ?_
      refine z_cVVm 7 [.int v1] hX (fun l hl o ho => c_X7_open l hl M r3 v1 o ho) dX8_load_23 (by decide) rfl rfl q_475 okV_X7_open rfl ⟨(Nat.le_of_ble_eq_true rfl), (Nat.le_of_ble_eq_true rfl)⟩ rfl (Nat.le_of_ble_eq_true rfl) rfl rfl ⟨(Nat.le_of_ble_eq_true rfl), (Nat.le_of_ble_eq_true rfl)⟩ (fun o4 => ?_)
      refine z_aload_n hX 0 rfl rfl dX8_load_26 ?_
      refine z_gFR 8 1 hX (by decide) rfl (by decide) rfl q_418 dX8_load_27 (fun r5 => ?_)
      refine z_aload_n hX 0 rfl rfl dX8_load_30 ?_
      refine z_gFR 8 0 hX (by decide) rfl (by decide) rfl q_417 dX8_load_31 (fun r6 => ?_)
      refine z_aload_n hX 0 rfl rfl dX8_load_34 ?_
      refine z_gFR 8 9 hX (by decide) rfl (by decide) rfl q_426 dX8_load_35 (fun r7 => ?_)
      refine z_cVIm 5 [.ref r6, .ref r7] hX (fun l hl o ho => c_X5_read l hl o4 r5 r6 r7 o ho) dX8_load_38 (by decide) rfl rfl q_482 okV_X5_read rfl ⟨(Nat.le_of_ble_eq_true rfl), (Nat.le_of_ble_eq_true rfl)⟩ rfl (Nat.le_of_ble_eq_true rfl) rfl rfl ⟨(Nat.le_of_ble_eq_true rfl), (Nat.le_of_ble_eq_true rfl)⟩ (fun o8 => ?_)
      refine z_istore_n hX [(2, .int o8.1), (0, .ref v0), (1, .int v1)] rfl (by decide) rfl dX8_load_41 ?_
      refine z_aload_n hX 1 rfl rfl dX8_load_42 ?_
      refine z_gFR 8 0 hX (by decide) rfl (by decide) rfl q_417 dX8_load_43 (fun r9 => ?_)
      refine z_iconst (v := 0) hX (by decide) dX8_load_46 ?_
      refine z_pFI 7 1 hX (by decide) rfl (by decide) rfl q_123 rfl pd_1 rfl rfl dX8_load_47 (fun M10 => ?_)
      refine z_iload_n hX 0 rfl rfl dX8_load_50 ?_
      refine z_if_ge hX 67 (by decide) dX8_load_51 (fun _ => ?_) (fun _ => ?_)
      · refine z_aload_n hX 1 rfl rfl dX8_load_67 ?_
        refine z_iconst (v := (-1)) hX (by decide) dX8_load_68 ?_
        refine z_pFI 8 10 hX (by decide) rfl (by decide) rfl q_427 rfl pd_1 rfl rfl dX8_load_69 (fun M11 => ?_)
        refine z_aload_n hX 1 rfl rfl dX8_load_72 ?_
        refine z_gFR 8 9 hX (by decide) rfl (by decide) rfl q_426 dX8_load_73 (fun r12 => ?_)
        refine z_astore_n hX [(3, .ref r12), (2, .int o8.1), (0, .ref v0), (1, .int v1)] rfl (by decide) rfl dX8_load_76 ?_
        refine z_aload_n hX 2 rfl rfl dX8_load_77 ?_
        refine z_aload_n hX 2 rfl rfl dX8_load_78 ?_
        refine z_gFR 8 8 hX (by decide) rfl (by decide) rfl q_425 dX8_load_79 (fun r13 => ?_)
        refine z_pFR 8 9 hX (by decide) rfl (by decide) rfl q_426 rfl pd_11 rfl rfl dX8_load_82 (fun M14 => ?_)
        refine z_aload_n hX 2 rfl rfl dX8_load_85 ?_
        refine z_aload_n hX 0 rfl rfl dX8_load_86 ?_
        refine z_pFR 8 8 hX (by decide) rfl (by decide) rfl q_425 rfl pd_11 rfl rfl dX8_load_87 (fun M15 => ?_)
        refine z_aload_n hX 2 rfl rfl dX8_load_90 ?_
        refine z_gFR 8 2 hX (by decide) rfl (by decide) rfl q_419 dX8_load_91 (fun r16 => ?_)
        refine z_iconst (v := 0) hX (by decide) dX8_load_94 ?_
        refine z_pFI 3 3 hX (by decide) rfl (by decide) rfl q_165 rfl pd_1 rfl rfl dX8_load_95 (fun M17 => ?_)
        refine z_aload_n hX 2 rfl rfl dX8_load_98 ?_
        refine z_cVVm 8 [] hX (fun l hl o ho => c_X8_settle l hl M17 v0 o ho) dX8_load_99 (by decide) rfl rfl q_615 okV_X8_settle rfl ⟨(Nat.le_of_ble_eq_true rfl), (Nat.le_of_ble_eq_true rfl)⟩ rfl (Nat.le_of_ble_eq_true rfl) rfl rfl ⟨(Nat.le_of_ble_eq_true rfl), (Nat.le_of_ble_eq_true rfl)⟩ (fun o18 => ?_)
        refine z_iload_n hX 1 rfl rfl dX8_load_102 ?_
        exact z_iretM hX dX8_load_103 (Nat.le_of_ble_eq_true rfl) (Nat.le_of_ble_eq_true rfl)
      · refine z_aload_n hX 1 rfl rfl dX8_load_54 ?_
        refine z_aload_n hX 1 rfl rfl dX8_load_55 ?_
        refine z_gFR 8 0 hX (by decide) rfl (by decide) rfl q_417 dX8_load_56 (fun r19 => ?_)
        refine z_gFI 7 3 hX (by decide) rfl (by decide) rfl q_128 dX8_load_59 (fun x20 => ?_)
        refine z_pFI 8 10 hX (by decide) rfl (by decide) rfl q_427 rfl pd_1 rfl rfl dX8_load_62 (fun M21 => ?_)
        refine z_iload_n hX 0 rfl rfl dX8_load_65 ?_
        exact z_iretM hX dX8_load_66 (Nat.le_of_ble_eq_true rfl) (Nat.le_of_ble_eq_true rfl)
    · refine z_bipush (v := (-2)) hX (by decide) dX8_load_15 ?_
      exact z_iretM hX dX8_load_17 (Nat.le_of_ble_eq_true rfl) (Nat.le_of_ble_eq_true rfl)
theorem c_X8_load (l : Launch) (hl : l.stackTraces = false) (M : Mem) (v0 : Nat) (v1 : Int32) (o : Int32 × Mem) (ho : f_X8_load M v0 v1 = some o) : Ct l yX8_load cX8_load 4 (some .int) rm_X8_load [.ref v0, .int v1] M (some (.int o.1)) o.2 :=
  Ct.of hl (by decide +kernel) (Nat.le_of_ble_eq_true rfl) rfl (fun X hX hin => z_X8_load hX M v0 v1 o ho)
theorem okV_X8_load : okV yX8_load cX8_load 4 (some .int) 1 := ⟨q_472, q_473, q_86, q_474, by unfold okY; decide +kernel⟩
/-! ParticipatoryBudget.errorPosition()I -/
abbrev rm_X8_errorPosition : Room := { frames := 0, cells := 0, slots := 0, locals := 0 }
set_option maxRecDepth 20000 in
set_option maxHeartbeats 4000000 in
theorem z_X8_errorPosition {X : Cxt} (hX : okX X cX8_errorPosition RX8 rm_X8_errorPosition (some .int) 1) (M : Mem) (v0 : Nat) : Zj X (fun o : Int32 => Qr X rm_X8_errorPosition.cells rm_X8_errorPosition.slots (some (.int o)) M) 0 0 0 [(0, .ref v0)] [] M (f_X8_errorPosition M v0) := by
  unfold f_X8_errorPosition
  refine z_aload_n hX 0 rfl rfl dX8_errorPosition_0 ?_
  refine z_gFI 8 10 hX (by decide) rfl (by decide) rfl q_427 dX8_errorPosition_1 (fun x1 => ?_)
  exact z_iretP hX dX8_errorPosition_4 (Nat.le_of_ble_eq_true rfl) (Nat.le_of_ble_eq_true rfl)
theorem c_X8_errorPosition (l : Launch) (hl : l.stackTraces = false) (M : Mem) (v0 : Nat) (o : Int32) (ho : f_X8_errorPosition M v0 = some o) : Ct l yX8_errorPosition cX8_errorPosition 1 (some .int) rm_X8_errorPosition [.ref v0] M (some (.int o)) M :=
  Ct.of hl (by decide +kernel) (Nat.le_of_ble_eq_true rfl) rfl (fun X hX hin => z_X8_errorPosition hX M v0 o ho)
theorem okV_X8_errorPosition : okV yX8_errorPosition cX8_errorPosition 1 (some .int) 0 := ⟨q_625, q_626, q_86, q_627, by unfold okY; decide +kernel⟩
/-! ParticipatoryBudget.districtCount()I -/
abbrev rm_X8_districtCount : Room := { frames := 0, cells := 0, slots := 0, locals := 0 }
set_option maxRecDepth 20000 in
set_option maxHeartbeats 4000000 in
theorem z_X8_districtCount {X : Cxt} (hX : okX X cX8_districtCount RX8 rm_X8_districtCount (some .int) 1) (M : Mem) (v0 : Nat) : Zj X (fun o : Int32 => Qr X rm_X8_districtCount.cells rm_X8_districtCount.slots (some (.int o)) M) 0 0 0 [(0, .ref v0)] [] M (f_X8_districtCount M v0) := by
  unfold f_X8_districtCount
  refine z_aload_n hX 0 rfl rfl dX8_districtCount_0 ?_
  refine z_gFR 8 8 hX (by decide) rfl (by decide) rfl q_425 dX8_districtCount_1 (fun r1 => ?_)
  refine z_gFI 0 0 hX (by decide) rfl (by decide) rfl q_323 dX8_districtCount_4 (fun x2 => ?_)
  exact z_iretP hX dX8_districtCount_7 (Nat.le_of_ble_eq_true rfl) (Nat.le_of_ble_eq_true rfl)
theorem c_X8_districtCount (l : Launch) (hl : l.stackTraces = false) (M : Mem) (v0 : Nat) (o : Int32) (ho : f_X8_districtCount M v0 = some o) : Ct l yX8_districtCount cX8_districtCount 1 (some .int) rm_X8_districtCount [.ref v0] M (some (.int o)) M :=
  Ct.of hl (by decide +kernel) (Nat.le_of_ble_eq_true rfl) rfl (fun X hX hin => z_X8_districtCount hX M v0 o ho)
theorem okV_X8_districtCount : okV yX8_districtCount cX8_districtCount 1 (some .int) 0 := ⟨q_629, q_630, q_86, q_631, by unfold okY; decide +kernel⟩
/-! ParticipatoryBudget.projectCount()I -/
abbrev rm_X8_projectCount : Room := { frames := 0, cells := 0, slots := 0, locals := 0 }
set_option maxRecDepth 20000 in
set_option maxHeartbeats 4000000 in
theorem z_X8_projectCount {X : Cxt} (hX : okX X cX8_projectCount RX8 rm_X8_projectCount (some .int) 1) (M : Mem) (v0 : Nat) : Zj X (fun o : Int32 => Qr X rm_X8_projectCount.cells rm_X8_projectCount.slots (some (.int o)) M) 0 0 0 [(0, .ref v0)] [] M (f_X8_projectCount M v0) := by
  unfold f_X8_projectCount
  refine z_aload_n hX 0 rfl rfl dX8_projectCount_0 ?_
  refine z_gFR 8 8 hX (by decide) rfl (by decide) rfl q_425 dX8_projectCount_1 (fun r1 => ?_)
  refine z_gFI 0 1 hX (by decide) rfl (by decide) rfl q_330 dX8_projectCount_4 (fun x2 => ?_)
  exact z_iretP hX dX8_projectCount_7 (Nat.le_of_ble_eq_true rfl) (Nat.le_of_ble_eq_true rfl)
theorem c_X8_projectCount (l : Launch) (hl : l.stackTraces = false) (M : Mem) (v0 : Nat) (o : Int32) (ho : f_X8_projectCount M v0 = some o) : Ct l yX8_projectCount cX8_projectCount 1 (some .int) rm_X8_projectCount [.ref v0] M (some (.int o)) M :=
  Ct.of hl (by decide +kernel) (Nat.le_of_ble_eq_true rfl) rfl (fun X hX hin => z_X8_projectCount hX M v0 o ho)
theorem okV_X8_projectCount : okV yX8_projectCount cX8_projectCount 1 (some .int) 0 := ⟨q_633, q_634, q_86, q_635, by unfold okY; decide +kernel⟩
/-! ParticipatoryBudget.voterCount()I -/
abbrev rm_X8_voterCount : Room := { frames := 0, cells := 0, slots := 0, locals := 0 }
set_option maxRecDepth 20000 in
set_option maxHeartbeats 4000000 in
theorem z_X8_voterCount {X : Cxt} (hX : okX X cX8_voterCount RX8 rm_X8_voterCount (some .int) 1) (M : Mem) (v0 : Nat) : Zj X (fun o : Int32 => Qr X rm_X8_voterCount.cells rm_X8_voterCount.slots (some (.int o)) M) 0 0 0 [(0, .ref v0)] [] M (f_X8_voterCount M v0) := by
  unfold f_X8_voterCount
  refine z_aload_n hX 0 rfl rfl dX8_voterCount_0 ?_
  refine z_gFR 8 8 hX (by decide) rfl (by decide) rfl q_425 dX8_voterCount_1 (fun r1 => ?_)
  refine z_gFI 0 2 hX (by decide) rfl (by decide) rfl q_334 dX8_voterCount_4 (fun x2 => ?_)
  exact z_iretP hX dX8_voterCount_7 (Nat.le_of_ble_eq_true rfl) (Nat.le_of_ble_eq_true rfl)
theorem c_X8_voterCount (l : Launch) (hl : l.stackTraces = false) (M : Mem) (v0 : Nat) (o : Int32) (ho : f_X8_voterCount M v0 = some o) : Ct l yX8_voterCount cX8_voterCount 1 (some .int) rm_X8_voterCount [.ref v0] M (some (.int o)) M :=
  Ct.of hl (by decide +kernel) (Nat.le_of_ble_eq_true rfl) rfl (fun X hX hin => z_X8_voterCount hX M v0 o ho)
theorem okV_X8_voterCount : okV yX8_voterCount cX8_voterCount 1 (some .int) 0 := ⟨q_637, q_638, q_86, q_639, by unfold okY; decide +kernel⟩
/-! ParticipatoryBudget.undoCount()I -/
abbrev rm_X8_undoCount : Room := { frames := 0, cells := 0, slots := 0, locals := 0 }
set_option maxRecDepth 20000 in
set_option maxHeartbeats 4000000 in
theorem z_X8_undoCount {X : Cxt} (hX : okX X cX8_undoCount RX8 rm_X8_undoCount (some .int) 1) (M : Mem) (v0 : Nat) : Zj X (fun o : Int32 => Qr X rm_X8_undoCount.cells rm_X8_undoCount.slots (some (.int o)) M) 0 0 0 [(0, .ref v0)] [] M (f_X8_undoCount M v0) := by
  unfold f_X8_undoCount
  refine z_aload_n hX 0 rfl rfl dX8_undoCount_0 ?_
  refine z_gFR 8 2 hX (by decide) rfl (by decide) rfl q_419 dX8_undoCount_1 (fun r1 => ?_)
  refine z_gFI 3 3 hX (by decide) rfl (by decide) rfl q_165 dX8_undoCount_4 (fun x2 => ?_)
  exact z_iretP hX dX8_undoCount_7 (Nat.le_of_ble_eq_true rfl) (Nat.le_of_ble_eq_true rfl)
theorem c_X8_undoCount (l : Launch) (hl : l.stackTraces = false) (M : Mem) (v0 : Nat) (o : Int32) (ho : f_X8_undoCount M v0 = some o) : Ct l yX8_undoCount cX8_undoCount 1 (some .int) rm_X8_undoCount [.ref v0] M (some (.int o)) M :=
  Ct.of hl (by decide +kernel) (Nat.le_of_ble_eq_true rfl) rfl (fun X hX hin => z_X8_undoCount hX M v0 o ho)
theorem okV_X8_undoCount : okV yX8_undoCount cX8_undoCount 1 (some .int) 0 := ⟨q_641, q_642, q_86, q_643, by unfold okY; decide +kernel⟩
/-! ParticipatoryBudget.districtNamed(I)I -/
abbrev rm_X8_districtNamed : Room := { frames := 1, cells := 0, slots := 0, locals := 23 }
set_option maxRecDepth 20000 in
set_option maxHeartbeats 4000000 in
theorem z_X8_districtNamed {X : Cxt} (hX : okX X cX8_districtNamed RX8 rm_X8_districtNamed (some .int) 2) (M : Mem) (v0 : Nat) (v1 : Int32) : Zj X (fun o : Int32 => Qr X rm_X8_districtNamed.cells rm_X8_districtNamed.slots (some (.int o)) M) 0 0 0 [(0, .ref v0), (1, .int v1)] [] M (f_X8_districtNamed M v0 v1) := by
  unfold f_X8_districtNamed
  refine z_aload_n hX 0 rfl rfl dX8_districtNamed_0 ?_
  refine z_gFR 8 8 hX (by decide) rfl (by decide) rfl q_425 dX8_districtNamed_1 (fun r1 => ?_)
  refine z_gFR 0 3 hX (by decide) rfl (by decide) rfl q_337 dX8_districtNamed_4 (fun r2 => ?_)
  refine z_aload_n hX 0 rfl rfl dX8_districtNamed_7 ?_
  refine z_gFR 8 8 hX (by decide) rfl (by decide) rfl q_425 dX8_districtNamed_8 (fun r3 => ?_)
  refine z_gFI 0 0 hX (by decide) rfl (by decide) rfl q_323 dX8_districtNamed_11 (fun x4 => ?_)
  refine z_iload_n hX 1 rfl rfl dX8_districtNamed_14 ?_
  refine z_cSIp [.ref r2, .int x4, .int v1] hX (fun l hl o ho => c_X8_place l hl M r2 x4 v1 o ho) dX8_districtNamed_15 q_648 okS_X8_place rfl ⟨(Nat.le_of_ble_eq_true rfl), (Nat.le_of_ble_eq_true rfl)⟩ rfl (Nat.le_of_ble_eq_true rfl) rfl rfl ⟨(Nat.le_of_ble_eq_true rfl), (Nat.le_of_ble_eq_true rfl)⟩ (fun o5 => ?_)
  exact z_iretP hX dX8_districtNamed_18 (Nat.le_of_ble_eq_true rfl) (Nat.le_of_ble_eq_true rfl)
theorem c_X8_districtNamed (l : Launch) (hl : l.stackTraces = false) (M : Mem) (v0 : Nat) (v1 : Int32) (o : Int32) (ho : f_X8_districtNamed M v0 v1 = some o) : Ct l yX8_districtNamed cX8_districtNamed 2 (some .int) rm_X8_districtNamed [.ref v0, .int v1] M (some (.int o)) M :=
  Ct.of hl (by decide +kernel) (Nat.le_of_ble_eq_true rfl) rfl (fun X hX hin => z_X8_districtNamed hX M v0 v1 o ho)
theorem okV_X8_districtNamed : okV yX8_districtNamed cX8_districtNamed 2 (some .int) 1 := ⟨q_645, q_646, q_86, q_647, by unfold okY; decide +kernel⟩
/-! ParticipatoryBudget.projectNamed(I)I -/
abbrev rm_X8_projectNamed : Room := { frames := 1, cells := 0, slots := 0, locals := 23 }
set_option maxRecDepth 20000 in
set_option maxHeartbeats 4000000 in
theorem z_X8_projectNamed {X : Cxt} (hX : okX X cX8_projectNamed RX8 rm_X8_projectNamed (some .int) 2) (M : Mem) (v0 : Nat) (v1 : Int32) : Zj X (fun o : Int32 => Qr X rm_X8_projectNamed.cells rm_X8_projectNamed.slots (some (.int o)) M) 0 0 0 [(0, .ref v0), (1, .int v1)] [] M (f_X8_projectNamed M v0 v1) := by
  unfold f_X8_projectNamed
  refine z_aload_n hX 0 rfl rfl dX8_projectNamed_0 ?_
  refine z_gFR 8 8 hX (by decide) rfl (by decide) rfl q_425 dX8_projectNamed_1 (fun r1 => ?_)
  refine z_gFR 0 5 hX (by decide) rfl (by decide) rfl q_347 dX8_projectNamed_4 (fun r2 => ?_)
  refine z_aload_n hX 0 rfl rfl dX8_projectNamed_7 ?_
  refine z_gFR 8 8 hX (by decide) rfl (by decide) rfl q_425 dX8_projectNamed_8 (fun r3 => ?_)
  refine z_gFI 0 1 hX (by decide) rfl (by decide) rfl q_330 dX8_projectNamed_11 (fun x4 => ?_)
  refine z_iload_n hX 1 rfl rfl dX8_projectNamed_14 ?_
  refine z_cSIp [.ref r2, .int x4, .int v1] hX (fun l hl o ho => c_X8_place l hl M r2 x4 v1 o ho) dX8_projectNamed_15 q_648 okS_X8_place rfl ⟨(Nat.le_of_ble_eq_true rfl), (Nat.le_of_ble_eq_true rfl)⟩ rfl (Nat.le_of_ble_eq_true rfl) rfl rfl ⟨(Nat.le_of_ble_eq_true rfl), (Nat.le_of_ble_eq_true rfl)⟩ (fun o5 => ?_)
  exact z_iretP hX dX8_projectNamed_18 (Nat.le_of_ble_eq_true rfl) (Nat.le_of_ble_eq_true rfl)
theorem c_X8_projectNamed (l : Launch) (hl : l.stackTraces = false) (M : Mem) (v0 : Nat) (v1 : Int32) (o : Int32) (ho : f_X8_projectNamed M v0 v1 = some o) : Ct l yX8_projectNamed cX8_projectNamed 2 (some .int) rm_X8_projectNamed [.ref v0, .int v1] M (some (.int o)) M :=
  Ct.of hl (by decide +kernel) (Nat.le_of_ble_eq_true rfl) rfl (fun X hX hin => z_X8_projectNamed hX M v0 v1 o ho)
theorem okV_X8_projectNamed : okV yX8_projectNamed cX8_projectNamed 2 (some .int) 1 := ⟨q_650, q_651, q_86, q_652, by unfold okY; decide +kernel⟩
