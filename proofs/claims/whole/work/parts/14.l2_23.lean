theorem dL_law_0 : decode cL_law 0 = .ok (.new 8, 3) := by decide +kernel
theorem dL_law_3 : decode cL_law 3 = .ok (.dup, 1) := by decide +kernel
theorem dL_law_4 : decode cL_law 4 = .ok (.invokespecial 111, 3) := by decide +kernel
theorem dL_law_7 : decode cL_law 7 = .ok (.astore_n 1, 1) := by decide +kernel
theorem dL_law_8 : decode cL_law 8 = .ok (.new 112, 3) := by decide +kernel
theorem dL_law_11 : decode cL_law 11 = .ok (.dup, 1) := by decide +kernel
theorem dL_law_12 : decode cL_law 12 = .ok (.invokespecial 114, 3) := by decide +kernel
theorem dL_law_15 : decode cL_law 15 = .ok (.astore_n 2, 1) := by decide +kernel
theorem dL_law_16 : decode cL_law 16 = .ok (.iconst 1, 1) := by decide +kernel
theorem dL_law_17 : decode cL_law 17 = .ok (.newarray .long, 2) := by decide +kernel
theorem dL_law_19 : decode cL_law 19 = .ok (.astore_n 3, 1) := by decide +kernel
theorem dL_law_20 : decode cL_law 20 = .ok (.iconst 0, 1) := by decide +kernel
theorem dL_law_21 : decode cL_law 21 = .ok (.istore 4, 2) := by decide +kernel
theorem dL_law_23 : decode cL_law 23 = .ok (.iload 4, 2) := by decide +kernel
theorem dL_law_25 : decode cL_law 25 = .ok (.aload_n 0, 1) := by decide +kernel
theorem dL_law_26 : decode cL_law 26 = .ok (.arraylength, 1) := by decide +kernel
theorem dL_law_27 : decode cL_law 27 = .ok (.bipush 6, 2) := by decide +kernel
theorem dL_law_29 : decode cL_law 29 = .ok (.isub, 1) := by decide +kernel
theorem dL_law_30 : decode cL_law 30 = .ok (.if_icmp .gt 3141, 3) := by decide +kernel
theorem dL_law_33 : decode cL_law 33 = .ok (.aload_n 0, 1) := by decide +kernel
theorem dL_law_34 : decode cL_law 34 = .ok (.iload 4, 2) := by decide +kernel
theorem dL_law_36 : decode cL_law 36 = .ok (.iaload, 1) := by decide +kernel
theorem dL_law_37 : decode cL_law 37 = .ok (.bipush 63, 2) := by decide +kernel
theorem dL_law_39 : decode cL_law 39 = .ok (.iand, 1) := by decide +kernel
theorem dL_law_40 : decode cL_law 40 = .ok (.tableswitch 3125 0 63 #[272, 345, 370, 383, 396, 409, 422, 435, 460, 485, 541, 597, 653, 709, 765, 821, 846, 902, 958, 1026, 1082, 1107, 1144, 1200, 1268, 1348, 1416, 1484, 1540, 1553, 1566, 1591, 1617, 1685, 1710, 1735, 1803, 1828, 1884, 1940, 1965, 2002, 2027, 2053, 2108, 2164, 2220, 2276, 2332, 2400, 2468, 2536, 2604, 2660, 2685, 2753, 2821, 2834, 2871, 2908, 2945, 3010, 3075, 3112], 272) := by decide +kernel
theorem dL_law_3165 : decode cL_law 3165 = .ok (.iinc 4 6, 3) := by decide +kernel
theorem dL_law_3168 : decode cL_law 3168 = .ok (.goto (-3145), 3) := by decide +kernel
theorem dL_law_3171 : decode cL_law 3171 = .ok (.iconst 1, 1) := by decide +kernel
set_option maxRecDepth 20000 in
set_option maxHeartbeats 4000000 in
theorem zl_body {X : Cxt} (hX : okX X cL_law RL room_1 (some .boolean) 8) {Qo : Int32 → State → Prop} (hq0 : ∀ st, Qo 0 st) (hret : ∀ C S lv M, C ≤ room_1.cells → S ≤ room_1.slots → Zj X Qo C S 3172 lv [.int 1] M (some 1)) {C S : Nat} (h1 : C + 3 ≤ room_1.cells) (h2 : S + 18 ≤ room_1.slots) (b x m ou : Nat) (rec : Int32 × Mem → Option Int32) (hr : ∀ y : Int32 × Mem, Zj X Qo (C + 3) (S + 18) 23 [(0, .ref b), (1, .ref x), (2, .ref m), (3, .ref ou), (4, .int y.1)] [] y.2 (rec y)) (y : Int32 × Mem) : Zj X Qo C S 23 [(0, .ref b), (1, .ref x), (2, .ref m), (3, .ref ou), (4, .int y.1)] [] y.2 (bd_law b x m ou rec y) := by
  have hc0 : C ≤ room_1.cells := Nat.le_trans (by omega) h1
  have hs0 : S ≤ room_1.slots := Nat.le_trans (by omega) h2
  have hinc : ∀ M, Zj X Qo (C + 3) (S + 18) 3165 [(0, .ref b), (1, .ref x), (2, .ref m), (3, .ref ou), (4, .int y.1)] [] M (rec (y.1 + 6, M)) := by
    intro M
    refine z_iinc hX 4 [(4, .int (y.1 + 6)), (0, .ref b), (1, .ref x), (2, .ref m), (3, .ref ou)] rfl rfl (by decide) rfl dL_law_3165 ?_
    refine z_goto hX 23 (by decide) dL_law_3168 ?_
    refine z_sub [1, 2, 3, 4, 0] rfl ?_
    exact hr (y.1 + 6, M)
  unfold bd_law
  refine z_iload hX 4 rfl dL_law_23 ?_
  refine z_aload_n hX 0 rfl rfl dL_law_25 ?_
  refine z_aN hX dL_law_26 (fun n => ?_)
  refine z_bipush (v := 6) hX (by decide) dL_law_27 ?_
  refine z_isub hX dL_law_29 ?_
  refine z_icmp_gt hX 3171 (by decide) dL_law_30 (fun _ => ?_) (fun _ => ?_)
  · refine z_iconst (v := 1) hX (by decide) dL_law_3171 ?_
    exact hret _ _ _ _ hc0 hs0
  · refine z_aload_n hX 0 rfl rfl dL_law_33 ?_
    refine z_iload hX 4 rfl dL_law_34 ?_
    refine z_aI hX dL_law_36 (fun w => ?_)
    refine z_bipush (v := 63) hX (by decide) dL_law_37 ?_
    refine z_iand hX dL_law_39 ?_
    refine z_tsw0 (fun hz0 => ?_)
    refine z_tswC hX 0 312 hz0 dL_law_40 (by decide) (by decide) rfl (by decide) ?_ (fun hz1 => ?_)
    · exact zl_0 hX hq0 h1 h2 b x m ou y.1 _ (fun M => hinc M) y.2
    refine z_tswC hX 1 385 hz1 dL_law_40 (by decide) (by decide) rfl (by decide) ?_ (fun hz2 => ?_)
    · exact zl_1 hX hq0 h1 h2 b x m ou y.1 _ (fun M => hinc M) y.2
    refine z_tswC hX 2 410 hz2 dL_law_40 (by decide) (by decide) rfl (by decide) ?_ (fun hz3 => ?_)
    · exact zl_2 hX hq0 h1 h2 b x m ou y.1 _ (fun M => hinc M) y.2
    refine z_tswC hX 3 423 hz3 dL_law_40 (by decide) (by decide) rfl (by decide) ?_ (fun hz4 => ?_)
    · exact zl_3 hX hq0 h1 h2 b x m ou y.1 _ (fun M => hinc M) y.2
    refine z_tswC hX 4 436 hz4 dL_law_40 (by decide) (by decide) rfl (by decide) ?_ (fun hz5 => ?_)
    · exact zl_4 hX hq0 h1 h2 b x m ou y.1 _ (fun M => hinc M) y.2
    refine z_tswC hX 5 449 hz5 dL_law_40 (by decide) (by decide) rfl (by decide) ?_ (fun hz6 => ?_)
    · exact zl_5 hX hq0 h1 h2 b x m ou y.1 _ (fun M => hinc M) y.2
    refine z_tswC hX 6 462 hz6 dL_law_40 (by decide) (by decide) rfl (by decide) ?_ (fun hz7 => ?_)
    · exact zl_6 hX hq0 h1 h2 b x m ou y.1 _ (fun M => hinc M) y.2
    refine z_tswC hX 7 475 hz7 dL_law_40 (by decide) (by decide) rfl (by decide) ?_ (fun hz8 => ?_)
    · exact zl_7 hX hq0 h1 h2 b x m ou y.1 _ (fun M => hinc M) y.2
    refine z_tswC hX 8 500 hz8 dL_law_40 (by decide) (by decide) rfl (by decide) ?_ (fun hz9 => ?_)
    · exact zl_8 hX hq0 h1 h2 b x m ou y.1 _ (fun M => hinc M) y.2
    refine z_tswC hX 9 525 hz9 dL_law_40 (by decide) (by decide) rfl (by decide) ?_ (fun hz10 => ?_)
    · exact zl_9 hX hq0 h1 h2 b x m ou y.1 _ (fun M => hinc M) y.2
    refine z_tswC hX 10 581 hz10 dL_law_40 (by decide) (by decide) rfl (by decide) ?_ (fun hz11 => ?_)
    · exact zl_10 hX hq0 h1 h2 b x m ou y.1 _ (fun M => hinc M) y.2
    refine z_tswC hX 11 637 hz11 dL_law_40 (by decide) (by decide) rfl (by decide) ?_ (fun hz12 => ?_)
    · exact zl_11 hX hq0 h1 h2 b x m ou y.1 _ (fun M => hinc M) y.2
    refine z_tswC hX 12 693 hz12 dL_law_40 (by decide) (by decide) rfl (by decide) ?_ (fun hz13 => ?_)
    · exact zl_12 hX hq0 h1 h2 b x m ou y.1 _ (fun M => hinc M) y.2
    refine z_tswC hX 13 749 hz13 dL_law_40 (by decide) (by decide) rfl (by decide) ?_ (fun hz14 => ?_)
    · exact zl_13 hX hq0 h1 h2 b x m ou y.1 _ (fun M => hinc M) y.2
    refine z_tswC hX 14 805 hz14 dL_law_40 (by decide) (by decide) rfl (by decide) ?_ (fun hz15 => ?_)
    · exact zl_14 hX hq0 h1 h2 b x m ou y.1 _ (fun M => hinc M) y.2
    refine z_tswC hX 15 861 hz15 dL_law_40 (by decide) (by decide) rfl (by decide) ?_ (fun hz16 => ?_)
    · exact zl_15 hX hq0 h1 h2 b x m ou y.1 _ (fun M => hinc M) y.2
    refine z_tswC hX 16 886 hz16 dL_law_40 (by decide) (by decide) rfl (by decide) ?_ (fun hz17 => ?_)
    · exact zl_16 hX hq0 h1 h2 b x m ou y.1 _ (fun M => hinc M) y.2
    refine z_tswC hX 17 942 hz17 dL_law_40 (by decide) (by decide) rfl (by decide) ?_ (fun hz18 => ?_)
    · exact zl_17 hX hq0 h1 h2 b x m ou y.1 _ (fun M => hinc M) y.2
    refine z_tswC hX 18 998 hz18 dL_law_40 (by decide) (by decide) rfl (by decide) ?_ (fun hz19 => ?_)
    · exact zl_18 hX hq0 h1 h2 b x m ou y.1 _ (fun M => hinc M) y.2
    refine z_tswC hX 19 1066 hz19 dL_law_40 (by decide) (by decide) rfl (by decide) ?_ (fun hz20 => ?_)
    · exact zl_19 hX hq0 h1 h2 b x m ou y.1 _ (fun M => hinc M) y.2
    refine z_tswC hX 20 1122 hz20 dL_law_40 (by decide) (by decide) rfl (by decide) ?_ (fun hz21 => ?_)
    · exact zl_20 hX hq0 h1 h2 b x m ou y.1 _ (fun M => hinc M) y.2
    refine z_tswC hX 21 1147 hz21 dL_law_40 (by decide) (by decide) rfl (by decide) ?_ (fun hz22 => ?_)
    · exact zl_21 hX hq0 h1 h2 b x m ou y.1 _ (fun M => hinc M) y.2
    refine z_tswC hX 22 1184 hz22 dL_law_40 (by decide) (by decide) rfl (by decide) ?_ (fun hz23 => ?_)
    · exact zl_22 hX hq0 h1 h2 b x m ou y.1 _ (fun M => hinc M) y.2
    refine z_tswC hX 23 1240 hz23 dL_law_40 (by decide) (by decide) rfl (by decide) ?_ (fun hz24 => ?_)
    · exact zl_23 hX hq0 h1 h2 b x m ou y.1 _ (fun M => hinc M) y.2
    refine z_tswC hX 24 1308 hz24 dL_law_40 (by decide) (by decide) rfl (by decide) ?_ (fun hz25 => ?_)
    · exact zl_24 hX hq0 h1 h2 b x m ou y.1 _ (fun M => hinc M) y.2
    refine z_tswC hX 25 1388 hz25 dL_law_40 (by decide) (by decide) rfl (by decide) ?_ (fun hz26 => ?_)
    · exact zl_25 hX hq0 h1 h2 b x m ou y.1 _ (fun M => hinc M) y.2
    refine z_tswC hX 26 1456 hz26 dL_law_40 (by decide) (by decide) rfl (by decide) ?_ (fun hz27 => ?_)
    · exact zl_26 hX hq0 h1 h2 b x m ou y.1 _ (fun M => hinc M) y.2
    refine z_tswC hX 27 1524 hz27 dL_law_40 (by decide) (by decide) rfl (by decide) ?_ (fun hz28 => ?_)
    · exact zl_27 hX hq0 h1 h2 b x m ou y.1 _ (fun M => hinc M) y.2
    refine z_tswC hX 28 1580 hz28 dL_law_40 (by decide) (by decide) rfl (by decide) ?_ (fun hz29 => ?_)
    · exact zl_28 hX hq0 h1 h2 b x m ou y.1 _ (fun M => hinc M) y.2
    refine z_tswC hX 29 1593 hz29 dL_law_40 (by decide) (by decide) rfl (by decide) ?_ (fun hz30 => ?_)
    · exact zl_29 hX hq0 h1 h2 b x m ou y.1 _ (fun M => hinc M) y.2
    refine z_tswC hX 30 1606 hz30 dL_law_40 (by decide) (by decide) rfl (by decide) ?_ (fun hz31 => ?_)
    · exact zl_30 hX hq0 h1 h2 b x m ou y.1 _ (fun M => hinc M) y.2
    refine z_tswC hX 31 1631 hz31 dL_law_40 (by decide) (by decide) rfl (by decide) ?_ (fun hz32 => ?_)
    · exact zl_31 hX hq0 h1 h2 b x m ou y.1 _ (fun M => hinc M) y.2
    refine z_tswC hX 32 1657 hz32 dL_law_40 (by decide) (by decide) rfl (by decide) ?_ (fun hz33 => ?_)
    · exact zl_32 hX hq0 h1 h2 b x m ou y.1 _ (fun M => hinc M) y.2
    refine z_tswC hX 33 1725 hz33 dL_law_40 (by decide) (by decide) rfl (by decide) ?_ (fun hz34 => ?_)
    · exact zl_33 hX hq0 h1 h2 b x m ou y.1 _ (fun M => hinc M) y.2
    refine z_tswC hX 34 1750 hz34 dL_law_40 (by decide) (by decide) rfl (by decide) ?_ (fun hz35 => ?_)
    · exact zl_34 hX hq0 h1 h2 b x m ou y.1 _ (fun M => hinc M) y.2
    refine z_tswC hX 35 1775 hz35 dL_law_40 (by decide) (by decide) rfl (by decide) ?_ (fun hz36 => ?_)
    · exact zl_35 hX hq0 h1 h2 b x m ou y.1 _ (fun M => hinc M) y.2
    refine z_tswC hX 36 1843 hz36 dL_law_40 (by decide) (by decide) rfl (by decide) ?_ (fun hz37 => ?_)
    · exact zl_36 hX hq0 h1 h2 b x m ou y.1 _ (fun M => hinc M) y.2
    refine z_tswC hX 37 1868 hz37 dL_law_40 (by decide) (by decide) rfl (by decide) ?_ (fun hz38 => ?_)
    · exact zl_37 hX hq0 h1 h2 b x m ou y.1 _ (fun M => hinc M) y.2
    refine z_tswC hX 38 1924 hz38 dL_law_40 (by decide) (by decide) rfl (by decide) ?_ (fun hz39 => ?_)
    · exact zl_38 hX hq0 h1 h2 b x m ou y.1 _ (fun M => hinc M) y.2
    refine z_tswC hX 39 1980 hz39 dL_law_40 (by decide) (by decide) rfl (by decide) ?_ (fun hz40 => ?_)
    · exact zl_39 hX hq0 h1 h2 b x m ou y.1 _ (fun M => hinc M) y.2
    refine z_tswC hX 40 2005 hz40 dL_law_40 (by decide) (by decide) rfl (by decide) ?_ (fun hz41 => ?_)
    · exact zl_40 hX hq0 h1 h2 b x m ou y.1 _ (fun M => hinc M) y.2
    refine z_tswC hX 41 2042 hz41 dL_law_40 (by decide) (by decide) rfl (by decide) ?_ (fun hz42 => ?_)
    · exact zl_41 hX hq0 h1 h2 b x m ou y.1 _ (fun M => hinc M) y.2
    refine z_tswC hX 42 2067 hz42 dL_law_40 (by decide) (by decide) rfl (by decide) ?_ (fun hz43 => ?_)
    · exact zl_42 hX hq0 h1 h2 b x m ou y.1 _ (fun M => hinc M) y.2
    refine z_tswC hX 43 2093 hz43 dL_law_40 (by decide) (by decide) rfl (by decide) ?_ (fun hz44 => ?_)
    · exact zl_43 hX hq0 h1 h2 b x m ou y.1 _ (fun M => hinc M) y.2
    refine z_tswC hX 44 2148 hz44 dL_law_40 (by decide) (by decide) rfl (by decide) ?_ (fun hz45 => ?_)
    · exact zl_44 hX hq0 h1 h2 b x m ou y.1 _ (fun M => hinc M) y.2
    refine z_tswC hX 45 2204 hz45 dL_law_40 (by decide) (by decide) rfl (by decide) ?_ (fun hz46 => ?_)
    · exact zl_45 hX hq0 h1 h2 b x m ou y.1 _ (fun M => hinc M) y.2
    refine z_tswC hX 46 2260 hz46 dL_law_40 (by decide) (by decide) rfl (by decide) ?_ (fun hz47 => ?_)
    · exact zl_46 hX hq0 h1 h2 b x m ou y.1 _ (fun M => hinc M) y.2
    refine z_tswC hX 47 2316 hz47 dL_law_40 (by decide) (by decide) rfl (by decide) ?_ (fun hz48 => ?_)
    · exact zl_47 hX hq0 h1 h2 b x m ou y.1 _ (fun M => hinc M) y.2
    refine z_tswC hX 48 2372 hz48 dL_law_40 (by decide) (by decide) rfl (by decide) ?_ (fun hz49 => ?_)
    · exact zl_48 hX hq0 h1 h2 b x m ou y.1 _ (fun M => hinc M) y.2
    refine z_tswC hX 49 2440 hz49 dL_law_40 (by decide) (by decide) rfl (by decide) ?_ (fun hz50 => ?_)
    · exact zl_49 hX hq0 h1 h2 b x m ou y.1 _ (fun M => hinc M) y.2
    refine z_tswC hX 50 2508 hz50 dL_law_40 (by decide) (by decide) rfl (by decide) ?_ (fun hz51 => ?_)
    · exact zl_50 hX hq0 h1 h2 b x m ou y.1 _ (fun M => hinc M) y.2
    refine z_tswC hX 51 2576 hz51 dL_law_40 (by decide) (by decide) rfl (by decide) ?_ (fun hz52 => ?_)
    · exact zl_51 hX hq0 h1 h2 b x m ou y.1 _ (fun M => hinc M) y.2
    refine z_tswC hX 52 2644 hz52 dL_law_40 (by decide) (by decide) rfl (by decide) ?_ (fun hz53 => ?_)
    · exact zl_52 hX hq0 h1 h2 b x m ou y.1 _ (fun M => hinc M) y.2
    refine z_tswC hX 53 2700 hz53 dL_law_40 (by decide) (by decide) rfl (by decide) ?_ (fun hz54 => ?_)
    · exact zl_53 hX hq0 h1 h2 b x m ou y.1 _ (fun M => hinc M) y.2
    refine z_tswC hX 54 2725 hz54 dL_law_40 (by decide) (by decide) rfl (by decide) ?_ (fun hz55 => ?_)
    · exact zl_54 hX hq0 h1 h2 b x m ou y.1 _ (fun M => hinc M) y.2
    refine z_tswC hX 55 2793 hz55 dL_law_40 (by decide) (by decide) rfl (by decide) ?_ (fun hz56 => ?_)
    · exact zl_55 hX hq0 h1 h2 b x m ou y.1 _ (fun M => hinc M) y.2
    refine z_tswC hX 56 2861 hz56 dL_law_40 (by decide) (by decide) rfl (by decide) ?_ (fun hz57 => ?_)
    · exact zl_56 hX hq0 h1 h2 b x m ou y.1 _ (fun M => hinc M) y.2
    refine z_tswC hX 57 2874 hz57 dL_law_40 (by decide) (by decide) rfl (by decide) ?_ (fun hz58 => ?_)
    · exact zl_57 hX hq0 h1 h2 b x m ou y.1 _ (fun M => hinc M) y.2
    refine z_tswC hX 58 2911 hz58 dL_law_40 (by decide) (by decide) rfl (by decide) ?_ (fun hz59 => ?_)
    · exact zl_58 hX hq0 h1 h2 b x m ou y.1 _ (fun M => hinc M) y.2
    refine z_tswC hX 59 2948 hz59 dL_law_40 (by decide) (by decide) rfl (by decide) ?_ (fun hz60 => ?_)
    · exact zl_59 hX hq0 h1 h2 b x m ou y.1 _ (fun M => hinc M) y.2
    refine z_tswC hX 60 2985 hz60 dL_law_40 (by decide) (by decide) rfl (by decide) ?_ (fun hz61 => ?_)
    · exact zl_60 hX hq0 h1 h2 b x m ou y.1 _ (fun M => hinc M) y.2
    refine z_tswC hX 61 3050 hz61 dL_law_40 (by decide) (by decide) rfl (by decide) ?_ (fun hz62 => ?_)
    · exact zl_61 hX hq0 h1 h2 b x m ou y.1 _ (fun M => hinc M) y.2
    refine z_tswC hX 62 3115 hz62 dL_law_40 (by decide) (by decide) rfl (by decide) ?_ (fun hz63 => ?_)
    · exact zl_62 hX hq0 h1 h2 b x m ou y.1 _ (fun M => hinc M) y.2
    refine z_tswC hX 63 3152 hz63 dL_law_40 (by decide) (by decide) rfl (by decide) ?_ (fun hz64 => ?_)
    · exact zl_63 hX hq0 h1 h2 b x m ou y.1 _ (fun M => hinc M) y.2
    refine z_tswD hX 64 3165 hz64 dL_law_40 (by decide) (by decide) (by decide) ?_
    exact z_widen (by omega) (by omega) (hinc y.2)
set_option maxRecDepth 20000 in
set_option maxHeartbeats 4000000 in
theorem zl_law {X : Cxt} (hX : okX X cL_law RL room_1 (some .boolean) 8) {Qo : Int32 → State → Prop} (hq0 : ∀ st, Qo 0 st) (hret : ∀ C S lv M, C ≤ room_1.cells → S ≤ room_1.slots → Zj X Qo C S 3172 lv [.int 1] M (some 1)) (b : Nat) (M : Mem) : Zj X Qo 0 0 0 [(0, .ref b)] [] M (f_law M b) := by
  unfold f_law
  refine z_new 8 hX (by decide) rfl q_108 q_109 q_86 dL_law_0 rfl rfl (Nat.le_of_ble_eq_true rfl) (Nat.le_of_ble_eq_true rfl) (fun o1 => ?_)
  refine z_dup hX rfl dL_law_3 ?_
  refine z_cIm [] hX (fun l hl o ho => c_X8_init l hl o1.2 o1.1 o ho) dL_law_4 q_110 okI_X8_init rfl ⟨(Nat.le_of_ble_eq_true rfl), (Nat.le_of_ble_eq_true rfl)⟩ rfl (Nat.le_of_ble_eq_true rfl) rfl rfl ⟨(Nat.le_of_ble_eq_true rfl), (Nat.le_of_ble_eq_true rfl)⟩ (fun o2 => ?_)
  refine z_astore_n hX [(1, .ref o1.1), (0, .ref b)] rfl (by decide) rfl dL_law_7 ?_
  refine z_new 9 hX (by decide) rfl q_1302 q_1303 q_96 dL_law_8 rfl rfl (Nat.le_of_ble_eq_true rfl) (Nat.le_of_ble_eq_true rfl) (fun o3 => ?_)
  refine z_dup hX rfl dL_law_11 ?_
  refine z_cIm [] hX (fun l hl o ho => c_X9_init l hl o3.2 o3.1 o ho) dL_law_12 q_1304 okI_X9_init rfl ⟨(Nat.le_of_ble_eq_true rfl), (Nat.le_of_ble_eq_true rfl)⟩ rfl (Nat.le_of_ble_eq_true rfl) rfl rfl ⟨(Nat.le_of_ble_eq_true rfl), (Nat.le_of_ble_eq_true rfl)⟩ (fun o4 => ?_)
  refine z_astore_n hX [(2, .ref o3.1), (1, .ref o1.1), (0, .ref b)] rfl (by decide) rfl dL_law_15 ?_
  refine z_iconst (v := 1) hX (by decide) dL_law_16 ?_
  refine z_newA (aty := .long) 22 1 hX (Or.inr (Or.inr ⟨rfl, rfl⟩)) q_1438 (by decide) (by decide) (by decide) dL_law_17 rfl rfl (Nat.le_of_ble_eq_true rfl) (Nat.le_of_ble_eq_true rfl) (fun o5 => ?_)
  refine z_astore_n hX [(3, .ref o5.1), (2, .ref o3.1), (1, .ref o1.1), (0, .ref b)] rfl (by decide) rfl dL_law_19 ?_
  refine z_iconst (v := 0) hX (by decide) dL_law_20 ?_
  refine z_istore hX [(4, .int 0), (3, .ref o5.1), (2, .ref o3.1), (1, .ref o1.1), (0, .ref b)] (by decide) rfl dL_law_21 ?_
  refine z_sub [4, 3, 2, 1, 0] rfl ?_
  refine z_lpC (x0 := (0, o5.2)) (Cm := room_1.cells) (Sm := room_1.slots) (bd_law b o1.1 o3.1 o5.1) 600 3 18 23 (fun (y : Int32 × Mem) => [(0, .ref b), (1, .ref o1.1), (2, .ref o3.1), (3, .ref o5.1), (4, .int y.1)]) (fun (y : Int32 × Mem) => y.2) (Nat.le_of_ble_eq_true rfl) (Nat.le_of_ble_eq_true rfl) (fun rec C1 S1 h1 h2 hr y => ?_)
  exact zl_body hX hq0 hret h1 h2 b o1.1 o3.1 o5.1 rec hr y
