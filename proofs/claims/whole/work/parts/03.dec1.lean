theorem dX0_init_0 : decode cX0_init 0 = .ok (.aload_n 0, 1) := by decide +kernel
theorem dX0_init_1 : decode cX0_init 1 = .ok (.invokespecial 3, 3) := by decide +kernel
theorem dX0_init_4 : decode cX0_init 4 = .ok (.aload_n 0, 1) := by decide +kernel
theorem dX0_init_5 : decode cX0_init 5 = .ok (.iconst 4, 1) := by decide +kernel
theorem dX0_init_6 : decode cX0_init 6 = .ok (.newarray .int, 2) := by decide +kernel
theorem dX0_init_8 : decode cX0_init 8 = .ok (.putfield 9, 3) := by decide +kernel
theorem dX0_init_11 : decode cX0_init 11 = .ok (.aload_n 0, 1) := by decide +kernel
theorem dX0_init_12 : decode cX0_init 12 = .ok (.iconst 4, 1) := by decide +kernel
theorem dX0_init_13 : decode cX0_init 13 = .ok (.newarray .int, 2) := by decide +kernel
theorem dX0_init_15 : decode cX0_init 15 = .ok (.putfield 15, 3) := by decide +kernel
theorem dX0_init_18 : decode cX0_init 18 = .ok (.aload_n 0, 1) := by decide +kernel
theorem dX0_init_19 : decode cX0_init 19 = .ok (.bipush 12, 2) := by decide +kernel
theorem dX0_init_21 : decode cX0_init 21 = .ok (.newarray .int, 2) := by decide +kernel
theorem dX0_init_23 : decode cX0_init 23 = .ok (.putfield 18, 3) := by decide +kernel
theorem dX0_init_26 : decode cX0_init 26 = .ok (.aload_n 0, 1) := by decide +kernel
theorem dX0_init_27 : decode cX0_init 27 = .ok (.bipush 12, 2) := by decide +kernel
theorem dX0_init_29 : decode cX0_init 29 = .ok (.newarray .int, 2) := by decide +kernel
theorem dX0_init_31 : decode cX0_init 31 = .ok (.putfield 21, 3) := by decide +kernel
theorem dX0_init_34 : decode cX0_init 34 = .ok (.aload_n 0, 1) := by decide +kernel
theorem dX0_init_35 : decode cX0_init 35 = .ok (.bipush 12, 2) := by decide +kernel
theorem dX0_init_37 : decode cX0_init 37 = .ok (.newarray .int, 2) := by decide +kernel
theorem dX0_init_39 : decode cX0_init 39 = .ok (.putfield 24, 3) := by decide +kernel
theorem dX0_init_42 : decode cX0_init 42 = .ok (.aload_n 0, 1) := by decide +kernel
theorem dX0_init_43 : decode cX0_init 43 = .ok (.bipush 24, 2) := by decide +kernel
theorem dX0_init_45 : decode cX0_init 45 = .ok (.newarray .int, 2) := by decide +kernel
theorem dX0_init_47 : decode cX0_init 47 = .ok (.putfield 27, 3) := by decide +kernel
theorem dX0_init_50 : decode cX0_init 50 = .ok (.aload_n 0, 1) := by decide +kernel
theorem dX0_init_51 : decode cX0_init 51 = .ok (.bipush 24, 2) := by decide +kernel
theorem dX0_init_53 : decode cX0_init 53 = .ok (.newarray .int, 2) := by decide +kernel
theorem dX0_init_55 : decode cX0_init 55 = .ok (.putfield 30, 3) := by decide +kernel
theorem dX0_init_58 : decode cX0_init 58 = .ok (.aload_n 0, 1) := by decide +kernel
theorem dX0_init_59 : decode cX0_init 59 = .ok (.bipush 24, 2) := by decide +kernel
theorem dX0_init_61 : decode cX0_init 61 = .ok (.newarray .int, 2) := by decide +kernel
theorem dX0_init_63 : decode cX0_init 63 = .ok (.putfield 33, 3) := by decide +kernel
theorem dX0_init_66 : decode cX0_init 66 = .ok (.aload_n 0, 1) := by decide +kernel
theorem dX0_init_67 : decode cX0_init 67 = .ok (.iconst 4, 1) := by decide +kernel
theorem dX0_init_68 : decode cX0_init 68 = .ok (.newarray .int, 2) := by decide +kernel
theorem dX0_init_70 : decode cX0_init 70 = .ok (.putfield 36, 3) := by decide +kernel
theorem dX0_init_73 : decode cX0_init 73 = .ok (.aload_n 0, 1) := by decide +kernel
theorem dX0_init_74 : decode cX0_init 74 = .ok (.bipush 12, 2) := by decide +kernel
theorem dX0_init_76 : decode cX0_init 76 = .ok (.newarray .int, 2) := by decide +kernel
theorem dX0_init_78 : decode cX0_init 78 = .ok (.putfield 39, 3) := by decide +kernel
theorem dX0_init_81 : decode cX0_init 81 = .ok (.aload_n 0, 1) := by decide +kernel
theorem dX0_init_82 : decode cX0_init 82 = .ok (.bipush 12, 2) := by decide +kernel
theorem dX0_init_84 : decode cX0_init 84 = .ok (.newarray .int, 2) := by decide +kernel
theorem dX0_init_86 : decode cX0_init 86 = .ok (.putfield 42, 3) := by decide +kernel
theorem dX0_init_89 : decode cX0_init 89 = .ok (.getstatic 45, 3) := by decide +kernel
theorem dX0_init_92 : decode cX0_init 92 = .ok (.iconst 0, 1) := by decide +kernel
theorem dX0_init_93 : decode cX0_init 93 = .ok (.aload_n 0, 1) := by decide +kernel
theorem dX0_init_94 : decode cX0_init 94 = .ok (.getfield 36, 3) := by decide +kernel
theorem dX0_init_97 : decode cX0_init 97 = .ok (.iconst 0, 1) := by decide +kernel
theorem dX0_init_98 : decode cX0_init 98 = .ok (.iconst 4, 1) := by decide +kernel
theorem dX0_init_99 : decode cX0_init 99 = .ok (.invokestatic 48, 3) := by decide +kernel
theorem dX0_init_102 : decode cX0_init 102 = .ok (.return_, 1) := by decide +kernel
theorem dX0_clear_0 : decode cX0_clear 0 = .ok (.aload_n 0, 1) := by decide +kernel
theorem dX0_clear_1 : decode cX0_clear 1 = .ok (.iconst 0, 1) := by decide +kernel
theorem dX0_clear_2 : decode cX0_clear 2 = .ok (.putfield 54, 3) := by decide +kernel
theorem dX0_clear_5 : decode cX0_clear 5 = .ok (.aload_n 0, 1) := by decide +kernel
theorem dX0_clear_6 : decode cX0_clear 6 = .ok (.iconst 0, 1) := by decide +kernel
theorem dX0_clear_7 : decode cX0_clear 7 = .ok (.putfield 58, 3) := by decide +kernel
theorem dX0_clear_10 : decode cX0_clear 10 = .ok (.aload_n 0, 1) := by decide +kernel
theorem dX0_clear_11 : decode cX0_clear 11 = .ok (.iconst 0, 1) := by decide +kernel
theorem dX0_clear_12 : decode cX0_clear 12 = .ok (.putfield 61, 3) := by decide +kernel
theorem dX0_clear_15 : decode cX0_clear 15 = .ok (.getstatic 45, 3) := by decide +kernel
theorem dX0_clear_18 : decode cX0_clear 18 = .ok (.iconst 0, 1) := by decide +kernel
theorem dX0_clear_19 : decode cX0_clear 19 = .ok (.aload_n 0, 1) := by decide +kernel
theorem dX0_clear_20 : decode cX0_clear 20 = .ok (.getfield 36, 3) := by decide +kernel
theorem dX0_clear_23 : decode cX0_clear 23 = .ok (.iconst 0, 1) := by decide +kernel
theorem dX0_clear_24 : decode cX0_clear 24 = .ok (.iconst 4, 1) := by decide +kernel
theorem dX0_clear_25 : decode cX0_clear 25 = .ok (.invokestatic 48, 3) := by decide +kernel
theorem dX0_clear_28 : decode cX0_clear 28 = .ok (.return_, 1) := by decide +kernel
theorem dX0_copy_0 : decode cX0_copy 0 = .ok (.aload_n 0, 1) := by decide +kernel
theorem dX0_copy_1 : decode cX0_copy 1 = .ok (.aload_n 1, 1) := by decide +kernel
theorem dX0_copy_2 : decode cX0_copy 2 = .ok (.getfield 54, 3) := by decide +kernel
theorem dX0_copy_5 : decode cX0_copy 5 = .ok (.putfield 54, 3) := by decide +kernel
theorem dX0_copy_8 : decode cX0_copy 8 = .ok (.aload_n 0, 1) := by decide +kernel
theorem dX0_copy_9 : decode cX0_copy 9 = .ok (.aload_n 1, 1) := by decide +kernel
theorem dX0_copy_10 : decode cX0_copy 10 = .ok (.getfield 58, 3) := by decide +kernel
theorem dX0_copy_13 : decode cX0_copy 13 = .ok (.putfield 58, 3) := by decide +kernel
theorem dX0_copy_16 : decode cX0_copy 16 = .ok (.aload_n 0, 1) := by decide +kernel
theorem dX0_copy_17 : decode cX0_copy 17 = .ok (.aload_n 1, 1) := by decide +kernel
theorem dX0_copy_18 : decode cX0_copy 18 = .ok (.getfield 61, 3) := by decide +kernel
theorem dX0_copy_21 : decode cX0_copy 21 = .ok (.putfield 61, 3) := by decide +kernel
theorem dX0_copy_24 : decode cX0_copy 24 = .ok (.aload_n 1, 1) := by decide +kernel
theorem dX0_copy_25 : decode cX0_copy 25 = .ok (.getfield 9, 3) := by decide +kernel
theorem dX0_copy_28 : decode cX0_copy 28 = .ok (.iconst 0, 1) := by decide +kernel
theorem dX0_copy_29 : decode cX0_copy 29 = .ok (.aload_n 0, 1) := by decide +kernel
theorem dX0_copy_30 : decode cX0_copy 30 = .ok (.getfield 9, 3) := by decide +kernel
theorem dX0_copy_33 : decode cX0_copy 33 = .ok (.iconst 0, 1) := by decide +kernel
theorem dX0_copy_34 : decode cX0_copy 34 = .ok (.iconst 4, 1) := by decide +kernel
theorem dX0_copy_35 : decode cX0_copy 35 = .ok (.invokestatic 48, 3) := by decide +kernel
theorem dX0_copy_38 : decode cX0_copy 38 = .ok (.aload_n 1, 1) := by decide +kernel
theorem dX0_copy_39 : decode cX0_copy 39 = .ok (.getfield 15, 3) := by decide +kernel
theorem dX0_copy_42 : decode cX0_copy 42 = .ok (.iconst 0, 1) := by decide +kernel
theorem dX0_copy_43 : decode cX0_copy 43 = .ok (.aload_n 0, 1) := by decide +kernel
theorem dX0_copy_44 : decode cX0_copy 44 = .ok (.getfield 15, 3) := by decide +kernel
theorem dX0_copy_47 : decode cX0_copy 47 = .ok (.iconst 0, 1) := by decide +kernel
theorem dX0_copy_48 : decode cX0_copy 48 = .ok (.iconst 4, 1) := by decide +kernel
theorem dX0_copy_49 : decode cX0_copy 49 = .ok (.invokestatic 48, 3) := by decide +kernel
theorem dX0_copy_52 : decode cX0_copy 52 = .ok (.aload_n 1, 1) := by decide +kernel
theorem dX0_copy_53 : decode cX0_copy 53 = .ok (.getfield 18, 3) := by decide +kernel
theorem dX0_copy_56 : decode cX0_copy 56 = .ok (.iconst 0, 1) := by decide +kernel
theorem dX0_copy_57 : decode cX0_copy 57 = .ok (.aload_n 0, 1) := by decide +kernel
theorem dX0_copy_58 : decode cX0_copy 58 = .ok (.getfield 18, 3) := by decide +kernel
theorem dX0_copy_61 : decode cX0_copy 61 = .ok (.iconst 0, 1) := by decide +kernel
theorem dX0_copy_62 : decode cX0_copy 62 = .ok (.bipush 12, 2) := by decide +kernel
theorem dX0_copy_64 : decode cX0_copy 64 = .ok (.invokestatic 48, 3) := by decide +kernel
theorem dX0_copy_67 : decode cX0_copy 67 = .ok (.aload_n 1, 1) := by decide +kernel
theorem dX0_copy_68 : decode cX0_copy 68 = .ok (.getfield 21, 3) := by decide +kernel
theorem dX0_copy_71 : decode cX0_copy 71 = .ok (.iconst 0, 1) := by decide +kernel
theorem dX0_copy_72 : decode cX0_copy 72 = .ok (.aload_n 0, 1) := by decide +kernel
theorem dX0_copy_73 : decode cX0_copy 73 = .ok (.getfield 21, 3) := by decide +kernel
theorem dX0_copy_76 : decode cX0_copy 76 = .ok (.iconst 0, 1) := by decide +kernel
theorem dX0_copy_77 : decode cX0_copy 77 = .ok (.bipush 12, 2) := by decide +kernel
theorem dX0_copy_79 : decode cX0_copy 79 = .ok (.invokestatic 48, 3) := by decide +kernel
theorem dX0_copy_82 : decode cX0_copy 82 = .ok (.aload_n 1, 1) := by decide +kernel
theorem dX0_copy_83 : decode cX0_copy 83 = .ok (.getfield 24, 3) := by decide +kernel
theorem dX0_copy_86 : decode cX0_copy 86 = .ok (.iconst 0, 1) := by decide +kernel
theorem dX0_copy_87 : decode cX0_copy 87 = .ok (.aload_n 0, 1) := by decide +kernel
theorem dX0_copy_88 : decode cX0_copy 88 = .ok (.getfield 24, 3) := by decide +kernel
theorem dX0_copy_91 : decode cX0_copy 91 = .ok (.iconst 0, 1) := by decide +kernel
theorem dX0_copy_92 : decode cX0_copy 92 = .ok (.bipush 12, 2) := by decide +kernel
theorem dX0_copy_94 : decode cX0_copy 94 = .ok (.invokestatic 48, 3) := by decide +kernel
theorem dX0_copy_97 : decode cX0_copy 97 = .ok (.aload_n 1, 1) := by decide +kernel
theorem dX0_copy_98 : decode cX0_copy 98 = .ok (.getfield 27, 3) := by decide +kernel
theorem dX0_copy_101 : decode cX0_copy 101 = .ok (.iconst 0, 1) := by decide +kernel
theorem dX0_copy_102 : decode cX0_copy 102 = .ok (.aload_n 0, 1) := by decide +kernel
theorem dX0_copy_103 : decode cX0_copy 103 = .ok (.getfield 27, 3) := by decide +kernel
theorem dX0_copy_106 : decode cX0_copy 106 = .ok (.iconst 0, 1) := by decide +kernel
theorem dX0_copy_107 : decode cX0_copy 107 = .ok (.bipush 24, 2) := by decide +kernel
theorem dX0_copy_109 : decode cX0_copy 109 = .ok (.invokestatic 48, 3) := by decide +kernel
theorem dX0_copy_112 : decode cX0_copy 112 = .ok (.aload_n 1, 1) := by decide +kernel
theorem dX0_copy_113 : decode cX0_copy 113 = .ok (.getfield 30, 3) := by decide +kernel
theorem dX0_copy_116 : decode cX0_copy 116 = .ok (.iconst 0, 1) := by decide +kernel
theorem dX0_copy_117 : decode cX0_copy 117 = .ok (.aload_n 0, 1) := by decide +kernel
theorem dX0_copy_118 : decode cX0_copy 118 = .ok (.getfield 30, 3) := by decide +kernel
theorem dX0_copy_121 : decode cX0_copy 121 = .ok (.iconst 0, 1) := by decide +kernel
theorem dX0_copy_122 : decode cX0_copy 122 = .ok (.bipush 24, 2) := by decide +kernel
theorem dX0_copy_124 : decode cX0_copy 124 = .ok (.invokestatic 48, 3) := by decide +kernel
theorem dX0_copy_127 : decode cX0_copy 127 = .ok (.aload_n 1, 1) := by decide +kernel
theorem dX0_copy_128 : decode cX0_copy 128 = .ok (.getfield 33, 3) := by decide +kernel
theorem dX0_copy_131 : decode cX0_copy 131 = .ok (.iconst 0, 1) := by decide +kernel
theorem dX0_copy_132 : decode cX0_copy 132 = .ok (.aload_n 0, 1) := by decide +kernel
theorem dX0_copy_133 : decode cX0_copy 133 = .ok (.getfield 33, 3) := by decide +kernel
theorem dX0_copy_136 : decode cX0_copy 136 = .ok (.iconst 0, 1) := by decide +kernel
theorem dX0_copy_137 : decode cX0_copy 137 = .ok (.bipush 24, 2) := by decide +kernel
theorem dX0_copy_139 : decode cX0_copy 139 = .ok (.invokestatic 48, 3) := by decide +kernel
theorem dX0_copy_142 : decode cX0_copy 142 = .ok (.aload_n 1, 1) := by decide +kernel
theorem dX0_copy_143 : decode cX0_copy 143 = .ok (.getfield 36, 3) := by decide +kernel
theorem dX0_copy_146 : decode cX0_copy 146 = .ok (.iconst 0, 1) := by decide +kernel
theorem dX0_copy_147 : decode cX0_copy 147 = .ok (.aload_n 0, 1) := by decide +kernel
theorem dX0_copy_148 : decode cX0_copy 148 = .ok (.getfield 36, 3) := by decide +kernel
theorem dX0_copy_151 : decode cX0_copy 151 = .ok (.iconst 0, 1) := by decide +kernel
theorem dX0_copy_152 : decode cX0_copy 152 = .ok (.iconst 4, 1) := by decide +kernel
theorem dX0_copy_153 : decode cX0_copy 153 = .ok (.invokestatic 48, 3) := by decide +kernel
theorem dX0_copy_156 : decode cX0_copy 156 = .ok (.return_, 1) := by decide +kernel
theorem dX0_tally_0 : decode cX0_tally 0 = .ok (.iconst 0, 1) := by decide +kernel
theorem dX0_tally_1 : decode cX0_tally 1 = .ok (.istore_n 1, 1) := by decide +kernel
theorem dX0_tally_2 : decode cX0_tally 2 = .ok (.iload_n 1, 1) := by decide +kernel
theorem dX0_tally_3 : decode cX0_tally 3 = .ok (.aload_n 0, 1) := by decide +kernel
theorem dX0_tally_4 : decode cX0_tally 4 = .ok (.getfield 58, 3) := by decide +kernel
theorem dX0_tally_7 : decode cX0_tally 7 = .ok (.if_icmp .ge 95, 3) := by decide +kernel
theorem dX0_tally_10 : decode cX0_tally 10 = .ok (.aload_n 0, 1) := by decide +kernel
theorem dX0_tally_11 : decode cX0_tally 11 = .ok (.getfield 39, 3) := by decide +kernel
theorem dX0_tally_14 : decode cX0_tally 14 = .ok (.iload_n 1, 1) := by decide +kernel
theorem dX0_tally_15 : decode cX0_tally 15 = .ok (.iconst 0, 1) := by decide +kernel
theorem dX0_tally_16 : decode cX0_tally 16 = .ok (.iastore, 1) := by decide +kernel
theorem dX0_tally_17 : decode cX0_tally 17 = .ok (.aload_n 0, 1) := by decide +kernel
theorem dX0_tally_18 : decode cX0_tally 18 = .ok (.getfield 42, 3) := by decide +kernel
theorem dX0_tally_21 : decode cX0_tally 21 = .ok (.iload_n 1, 1) := by decide +kernel
theorem dX0_tally_22 : decode cX0_tally 22 = .ok (.iconst 0, 1) := by decide +kernel
theorem dX0_tally_23 : decode cX0_tally 23 = .ok (.iastore, 1) := by decide +kernel
theorem dX0_tally_24 : decode cX0_tally 24 = .ok (.iconst 0, 1) := by decide +kernel
theorem dX0_tally_25 : decode cX0_tally 25 = .ok (.istore_n 2, 1) := by decide +kernel
theorem dX0_tally_26 : decode cX0_tally 26 = .ok (.iload_n 2, 1) := by decide +kernel
theorem dX0_tally_27 : decode cX0_tally 27 = .ok (.aload_n 0, 1) := by decide +kernel
theorem dX0_tally_28 : decode cX0_tally 28 = .ok (.getfield 61, 3) := by decide +kernel
theorem dX0_tally_31 : decode cX0_tally 31 = .ok (.if_icmp .ge 65, 3) := by decide +kernel
theorem dX0_tally_34 : decode cX0_tally 34 = .ok (.aload_n 0, 1) := by decide +kernel
theorem dX0_tally_35 : decode cX0_tally 35 = .ok (.getfield 33, 3) := by decide +kernel
theorem dX0_tally_38 : decode cX0_tally 38 = .ok (.iload_n 2, 1) := by decide +kernel
theorem dX0_tally_39 : decode cX0_tally 39 = .ok (.iaload, 1) := by decide +kernel
theorem dX0_tally_40 : decode cX0_tally 40 = .ok (.iload_n 1, 1) := by decide +kernel
theorem dX0_tally_41 : decode cX0_tally 41 = .ok (.invokestatic 64, 3) := by decide +kernel
theorem dX0_tally_44 : decode cX0_tally 44 = .ok (.ifCond .eq 46, 3) := by decide +kernel
theorem dX0_tally_47 : decode cX0_tally 47 = .ok (.aload_n 0, 1) := by decide +kernel
theorem dX0_tally_48 : decode cX0_tally 48 = .ok (.getfield 30, 3) := by decide +kernel
theorem dX0_tally_51 : decode cX0_tally 51 = .ok (.iload_n 2, 1) := by decide +kernel
theorem dX0_tally_52 : decode cX0_tally 52 = .ok (.iaload, 1) := by decide +kernel
theorem dX0_tally_53 : decode cX0_tally 53 = .ok (.aload_n 0, 1) := by decide +kernel
theorem dX0_tally_54 : decode cX0_tally 54 = .ok (.getfield 24, 3) := by decide +kernel
theorem dX0_tally_57 : decode cX0_tally 57 = .ok (.iload_n 1, 1) := by decide +kernel
theorem dX0_tally_58 : decode cX0_tally 58 = .ok (.iaload, 1) := by decide +kernel
theorem dX0_tally_59 : decode cX0_tally 59 = .ok (.iand, 1) := by decide +kernel
theorem dX0_tally_60 : decode cX0_tally 60 = .ok (.ifCond .eq 30, 3) := by decide +kernel
theorem dX0_tally_63 : decode cX0_tally 63 = .ok (.aload_n 0, 1) := by decide +kernel
theorem dX0_tally_64 : decode cX0_tally 64 = .ok (.getfield 39, 3) := by decide +kernel
theorem dX0_tally_67 : decode cX0_tally 67 = .ok (.iload_n 1, 1) := by decide +kernel
theorem dX0_tally_68 : decode cX0_tally 68 = .ok (.dup2, 1) := by decide +kernel
theorem dX0_tally_69 : decode cX0_tally 69 = .ok (.iaload, 1) := by decide +kernel
theorem dX0_tally_70 : decode cX0_tally 70 = .ok (.iconst 1, 1) := by decide +kernel
theorem dX0_tally_71 : decode cX0_tally 71 = .ok (.iload_n 2, 1) := by decide +kernel
theorem dX0_tally_72 : decode cX0_tally 72 = .ok (.ishl, 1) := by decide +kernel
theorem dX0_tally_73 : decode cX0_tally 73 = .ok (.ior, 1) := by decide +kernel
theorem dX0_tally_74 : decode cX0_tally 74 = .ok (.iastore, 1) := by decide +kernel
theorem dX0_tally_75 : decode cX0_tally 75 = .ok (.aload_n 0, 1) := by decide +kernel
theorem dX0_tally_76 : decode cX0_tally 76 = .ok (.getfield 42, 3) := by decide +kernel
theorem dX0_tally_79 : decode cX0_tally 79 = .ok (.iload_n 1, 1) := by decide +kernel
theorem dX0_tally_80 : decode cX0_tally 80 = .ok (.dup2, 1) := by decide +kernel
theorem dX0_tally_81 : decode cX0_tally 81 = .ok (.iaload, 1) := by decide +kernel
theorem dX0_tally_82 : decode cX0_tally 82 = .ok (.aload_n 0, 1) := by decide +kernel
theorem dX0_tally_83 : decode cX0_tally 83 = .ok (.getfield 27, 3) := by decide +kernel
theorem dX0_tally_86 : decode cX0_tally 86 = .ok (.iload_n 2, 1) := by decide +kernel
theorem dX0_tally_87 : decode cX0_tally 87 = .ok (.iaload, 1) := by decide +kernel
theorem dX0_tally_88 : decode cX0_tally 88 = .ok (.iadd, 1) := by decide +kernel
theorem dX0_tally_89 : decode cX0_tally 89 = .ok (.iastore, 1) := by decide +kernel
theorem dX0_tally_90 : decode cX0_tally 90 = .ok (.iinc 2 1, 3) := by decide +kernel
theorem dX0_tally_93 : decode cX0_tally 93 = .ok (.goto (-67), 3) := by decide +kernel
theorem dX0_tally_96 : decode cX0_tally 96 = .ok (.iinc 1 1, 3) := by decide +kernel
theorem dX0_tally_99 : decode cX0_tally 99 = .ok (.goto (-97), 3) := by decide +kernel
theorem dX0_tally_102 : decode cX0_tally 102 = .ok (.return_, 1) := by decide +kernel
theorem dX0_voted_0 : decode cX0_voted 0 = .ok (.iconst 0, 1) := by decide +kernel
theorem dX0_voted_1 : decode cX0_voted 1 = .ok (.istore_n 1, 1) := by decide +kernel
theorem dX0_voted_2 : decode cX0_voted 2 = .ok (.iconst 0, 1) := by decide +kernel
theorem dX0_voted_3 : decode cX0_voted 3 = .ok (.istore_n 2, 1) := by decide +kernel
theorem dX0_voted_4 : decode cX0_voted 4 = .ok (.iload_n 2, 1) := by decide +kernel
theorem dX0_voted_5 : decode cX0_voted 5 = .ok (.aload_n 0, 1) := by decide +kernel
theorem dX0_voted_6 : decode cX0_voted 6 = .ok (.getfield 58, 3) := by decide +kernel
theorem dX0_voted_9 : decode cX0_voted 9 = .ok (.if_icmp .ge 24, 3) := by decide +kernel
theorem dX0_voted_12 : decode cX0_voted 12 = .ok (.aload_n 0, 1) := by decide +kernel
theorem dX0_voted_13 : decode cX0_voted 13 = .ok (.getfield 42, 3) := by decide +kernel
theorem dX0_voted_16 : decode cX0_voted 16 = .ok (.iload_n 2, 1) := by decide +kernel
theorem dX0_voted_17 : decode cX0_voted 17 = .ok (.iaload, 1) := by decide +kernel
theorem dX0_voted_18 : decode cX0_voted 18 = .ok (.ifCond .le 9, 3) := by decide +kernel
theorem dX0_voted_21 : decode cX0_voted 21 = .ok (.iload_n 1, 1) := by decide +kernel
theorem dX0_voted_22 : decode cX0_voted 22 = .ok (.iconst 1, 1) := by decide +kernel
theorem dX0_voted_23 : decode cX0_voted 23 = .ok (.iload_n 2, 1) := by decide +kernel
theorem dX0_voted_24 : decode cX0_voted 24 = .ok (.ishl, 1) := by decide +kernel
theorem dX0_voted_25 : decode cX0_voted 25 = .ok (.ior, 1) := by decide +kernel
theorem dX0_voted_26 : decode cX0_voted 26 = .ok (.istore_n 1, 1) := by decide +kernel
theorem dX0_voted_27 : decode cX0_voted 27 = .ok (.iinc 2 1, 3) := by decide +kernel
theorem dX0_voted_30 : decode cX0_voted 30 = .ok (.goto (-26), 3) := by decide +kernel
theorem dX0_voted_33 : decode cX0_voted 33 = .ok (.iload_n 1, 1) := by decide +kernel
theorem dX0_voted_34 : decode cX0_voted 34 = .ok (.ireturn, 1) := by decide +kernel
theorem dX0_worth_0 : decode cX0_worth 0 = .ok (.aload_n 0, 1) := by decide +kernel
theorem dX0_worth_1 : decode cX0_worth 1 = .ok (.getfield 36, 3) := by decide +kernel
theorem dX0_worth_4 : decode cX0_worth 4 = .ok (.iconst 0, 1) := by decide +kernel
theorem dX0_worth_5 : decode cX0_worth 5 = .ok (.iaload, 1) := by decide +kernel
theorem dX0_worth_6 : decode cX0_worth 6 = .ok (.ifCond .ne 7, 3) := by decide +kernel
theorem dX0_worth_9 : decode cX0_worth 9 = .ok (.iconst 1, 1) := by decide +kernel
theorem dX0_worth_10 : decode cX0_worth 10 = .ok (.goto 9, 3) := by decide +kernel
theorem dX0_worth_13 : decode cX0_worth 13 = .ok (.aload_n 0, 1) := by decide +kernel
theorem dX0_worth_14 : decode cX0_worth 14 = .ok (.getfield 21, 3) := by decide +kernel
theorem dX0_worth_17 : decode cX0_worth 17 = .ok (.iload_n 1, 1) := by decide +kernel
theorem dX0_worth_18 : decode cX0_worth 18 = .ok (.iaload, 1) := by decide +kernel
theorem dX0_worth_19 : decode cX0_worth 19 = .ok (.ireturn, 1) := by decide +kernel
theorem dX0_memberWeight_0 : decode cX0_memberWeight 0 = .ok (.iconst 0, 1) := by decide +kernel
theorem dX0_memberWeight_1 : decode cX0_memberWeight 1 = .ok (.istore_n 2, 1) := by decide +kernel
theorem dX0_memberWeight_2 : decode cX0_memberWeight 2 = .ok (.iconst 0, 1) := by decide +kernel
theorem dX0_memberWeight_3 : decode cX0_memberWeight 3 = .ok (.istore_n 3, 1) := by decide +kernel
theorem dX0_memberWeight_4 : decode cX0_memberWeight 4 = .ok (.iload_n 3, 1) := by decide +kernel
theorem dX0_memberWeight_5 : decode cX0_memberWeight 5 = .ok (.aload_n 0, 1) := by decide +kernel
theorem dX0_memberWeight_6 : decode cX0_memberWeight 6 = .ok (.getfield 61, 3) := by decide +kernel
theorem dX0_memberWeight_9 : decode cX0_memberWeight 9 = .ok (.if_icmp .ge 31, 3) := by decide +kernel
theorem dX0_memberWeight_12 : decode cX0_memberWeight 12 = .ok (.aload_n 0, 1) := by decide +kernel
theorem dX0_memberWeight_13 : decode cX0_memberWeight 13 = .ok (.getfield 30, 3) := by decide +kernel
theorem dX0_memberWeight_16 : decode cX0_memberWeight 16 = .ok (.iload_n 3, 1) := by decide +kernel
theorem dX0_memberWeight_17 : decode cX0_memberWeight 17 = .ok (.iaload, 1) := by decide +kernel
theorem dX0_memberWeight_18 : decode cX0_memberWeight 18 = .ok (.iload_n 1, 1) := by decide +kernel
theorem dX0_memberWeight_19 : decode cX0_memberWeight 19 = .ok (.invokestatic 64, 3) := by decide +kernel
theorem dX0_memberWeight_22 : decode cX0_memberWeight 22 = .ok (.ifCond .eq 12, 3) := by decide +kernel
theorem dX0_memberWeight_25 : decode cX0_memberWeight 25 = .ok (.iload_n 2, 1) := by decide +kernel
theorem dX0_memberWeight_26 : decode cX0_memberWeight 26 = .ok (.aload_n 0, 1) := by decide +kernel
theorem dX0_memberWeight_27 : decode cX0_memberWeight 27 = .ok (.getfield 27, 3) := by decide +kernel
theorem dX0_memberWeight_30 : decode cX0_memberWeight 30 = .ok (.iload_n 3, 1) := by decide +kernel
theorem dX0_memberWeight_31 : decode cX0_memberWeight 31 = .ok (.iaload, 1) := by decide +kernel
theorem dX0_memberWeight_32 : decode cX0_memberWeight 32 = .ok (.iadd, 1) := by decide +kernel
theorem dX0_memberWeight_33 : decode cX0_memberWeight 33 = .ok (.istore_n 2, 1) := by decide +kernel
theorem dX0_memberWeight_34 : decode cX0_memberWeight 34 = .ok (.iinc 3 1, 3) := by decide +kernel
theorem dX0_memberWeight_37 : decode cX0_memberWeight 37 = .ok (.goto (-33), 3) := by decide +kernel
theorem dX0_memberWeight_40 : decode cX0_memberWeight 40 = .ok (.iload_n 2, 1) := by decide +kernel
theorem dX0_memberWeight_41 : decode cX0_memberWeight 41 = .ok (.ireturn, 1) := by decide +kernel
theorem dX0_firstPurse_0 : decode cX0_firstPurse 0 = .ok (.aload_n 0, 1) := by decide +kernel
theorem dX0_firstPurse_1 : decode cX0_firstPurse 1 = .ok (.iload_n 1, 1) := by decide +kernel
theorem dX0_firstPurse_2 : decode cX0_firstPurse 2 = .ok (.iload_n 2, 1) := by decide +kernel
theorem dX0_firstPurse_3 : decode cX0_firstPurse 3 = .ok (.aload_n 0, 1) := by decide +kernel
theorem dX0_firstPurse_4 : decode cX0_firstPurse 4 = .ok (.iload_n 2, 1) := by decide +kernel
theorem dX0_firstPurse_5 : decode cX0_firstPurse 5 = .ok (.invokevirtual 68, 3) := by decide +kernel
theorem dX0_firstPurse_8 : decode cX0_firstPurse 8 = .ok (.invokevirtual 72, 3) := by decide +kernel
theorem dX0_firstPurse_11 : decode cX0_firstPurse 11 = .ok (.ireturn, 1) := by decide +kernel
theorem dX0_share_0 : decode cX0_share 0 = .ok (.aload_n 0, 1) := by decide +kernel
theorem dX0_share_1 : decode cX0_share 1 = .ok (.getfield 30, 3) := by decide +kernel
theorem dX0_share_4 : decode cX0_share 4 = .ok (.iload_n 1, 1) := by decide +kernel
theorem dX0_share_5 : decode cX0_share 5 = .ok (.iaload, 1) := by decide +kernel
theorem dX0_share_6 : decode cX0_share 6 = .ok (.iload_n 2, 1) := by decide +kernel
theorem dX0_share_7 : decode cX0_share 7 = .ok (.invokestatic 64, 3) := by decide +kernel
theorem dX0_share_10 : decode cX0_share 10 = .ok (.ifCond .eq 25, 3) := by decide +kernel
theorem dX0_share_13 : decode cX0_share 13 = .ok (.iload_n 3, 1) := by decide +kernel
theorem dX0_share_14 : decode cX0_share 14 = .ok (.ifCond .le 21, 3) := by decide +kernel
theorem dX0_share_17 : decode cX0_share 17 = .ok (.aload_n 0, 1) := by decide +kernel
theorem dX0_share_18 : decode cX0_share 18 = .ok (.getfield 15, 3) := by decide +kernel
theorem dX0_share_21 : decode cX0_share 21 = .ok (.iload_n 2, 1) := by decide +kernel
theorem dX0_share_22 : decode cX0_share 22 = .ok (.iaload, 1) := by decide +kernel
theorem dX0_share_23 : decode cX0_share 23 = .ok (.aload_n 0, 1) := by decide +kernel
theorem dX0_share_24 : decode cX0_share 24 = .ok (.getfield 27, 3) := by decide +kernel
theorem dX0_share_27 : decode cX0_share 27 = .ok (.iload_n 1, 1) := by decide +kernel
theorem dX0_share_28 : decode cX0_share 28 = .ok (.iaload, 1) := by decide +kernel
theorem dX0_share_29 : decode cX0_share 29 = .ok (.imul, 1) := by decide +kernel
theorem dX0_share_30 : decode cX0_share 30 = .ok (.iload_n 3, 1) := by decide +kernel
theorem dX0_share_31 : decode cX0_share 31 = .ok (.idiv, 1) := by decide +kernel
theorem dX0_share_32 : decode cX0_share 32 = .ok (.goto 4, 3) := by decide +kernel
theorem dX0_share_35 : decode cX0_share 35 = .ok (.iconst 0, 1) := by decide +kernel
theorem dX0_share_36 : decode cX0_share 36 = .ok (.ireturn, 1) := by decide +kernel
theorem dX0_firstMeans_0 : decode cX0_firstMeans 0 = .ok (.iconst 0, 1) := by decide +kernel
theorem dX0_firstMeans_1 : decode cX0_firstMeans 1 = .ok (.istore_n 3, 1) := by decide +kernel
theorem dX0_firstMeans_2 : decode cX0_firstMeans 2 = .ok (.iconst 0, 1) := by decide +kernel
theorem dX0_firstMeans_3 : decode cX0_firstMeans 3 = .ok (.istore 4, 2) := by decide +kernel
theorem dX0_firstMeans_5 : decode cX0_firstMeans 5 = .ok (.iload 4, 2) := by decide +kernel
theorem dX0_firstMeans_7 : decode cX0_firstMeans 7 = .ok (.aload_n 0, 1) := by decide +kernel
theorem dX0_firstMeans_8 : decode cX0_firstMeans 8 = .ok (.getfield 54, 3) := by decide +kernel
theorem dX0_firstMeans_11 : decode cX0_firstMeans 11 = .ok (.if_icmp .ge 28, 3) := by decide +kernel
theorem dX0_firstMeans_14 : decode cX0_firstMeans 14 = .ok (.iload_n 2, 1) := by decide +kernel
theorem dX0_firstMeans_15 : decode cX0_firstMeans 15 = .ok (.iload 4, 2) := by decide +kernel
theorem dX0_firstMeans_17 : decode cX0_firstMeans 17 = .ok (.invokestatic 64, 3) := by decide +kernel
theorem dX0_firstMeans_20 : decode cX0_firstMeans 20 = .ok (.ifCond .eq 13, 3) := by decide +kernel
theorem dX0_firstMeans_23 : decode cX0_firstMeans 23 = .ok (.iload_n 3, 1) := by decide +kernel
theorem dX0_firstMeans_24 : decode cX0_firstMeans 24 = .ok (.aload_n 0, 1) := by decide +kernel
theorem dX0_firstMeans_25 : decode cX0_firstMeans 25 = .ok (.iload_n 1, 1) := by decide +kernel
theorem dX0_firstMeans_26 : decode cX0_firstMeans 26 = .ok (.iload 4, 2) := by decide +kernel
theorem dX0_firstMeans_28 : decode cX0_firstMeans 28 = .ok (.invokevirtual 76, 3) := by decide +kernel
theorem dX0_firstMeans_31 : decode cX0_firstMeans 31 = .ok (.iadd, 1) := by decide +kernel
theorem dX0_firstMeans_32 : decode cX0_firstMeans 32 = .ok (.istore_n 3, 1) := by decide +kernel
theorem dX0_firstMeans_33 : decode cX0_firstMeans 33 = .ok (.iinc 4 1, 3) := by decide +kernel
theorem dX0_firstMeans_36 : decode cX0_firstMeans 36 = .ok (.goto (-31), 3) := by decide +kernel
theorem dX0_firstMeans_39 : decode cX0_firstMeans 39 = .ok (.iload_n 3, 1) := by decide +kernel
theorem dX0_firstMeans_40 : decode cX0_firstMeans 40 = .ok (.ireturn, 1) := by decide +kernel
theorem dX0_goesBefore_0 : decode cX0_goesBefore 0 = .ok (.aload_n 0, 1) := by decide +kernel
theorem dX0_goesBefore_1 : decode cX0_goesBefore 1 = .ok (.getfield 36, 3) := by decide +kernel
theorem dX0_goesBefore_4 : decode cX0_goesBefore 4 = .ok (.iconst 3, 1) := by decide +kernel
theorem dX0_goesBefore_5 : decode cX0_goesBefore 5 = .ok (.iaload, 1) := by decide +kernel
theorem dX0_goesBefore_6 : decode cX0_goesBefore 6 = .ok (.ifCond .ne 19, 3) := by decide +kernel
theorem dX0_goesBefore_9 : decode cX0_goesBefore 9 = .ok (.aload_n 0, 1) := by decide +kernel
theorem dX0_goesBefore_10 : decode cX0_goesBefore 10 = .ok (.getfield 42, 3) := by decide +kernel
theorem dX0_goesBefore_13 : decode cX0_goesBefore 13 = .ok (.iload_n 1, 1) := by decide +kernel
theorem dX0_goesBefore_14 : decode cX0_goesBefore 14 = .ok (.iaload, 1) := by decide +kernel
theorem dX0_goesBefore_15 : decode cX0_goesBefore 15 = .ok (.aload_n 0, 1) := by decide +kernel
theorem dX0_goesBefore_16 : decode cX0_goesBefore 16 = .ok (.getfield 42, 3) := by decide +kernel
theorem dX0_goesBefore_19 : decode cX0_goesBefore 19 = .ok (.iload_n 2, 1) := by decide +kernel
theorem dX0_goesBefore_20 : decode cX0_goesBefore 20 = .ok (.iaload, 1) := by decide +kernel
theorem dX0_goesBefore_21 : decode cX0_goesBefore 21 = .ok (.isub, 1) := by decide +kernel
theorem dX0_goesBefore_22 : decode cX0_goesBefore 22 = .ok (.goto 30, 3) := by decide +kernel
theorem dX0_goesBefore_25 : decode cX0_goesBefore 25 = .ok (.aload_n 0, 1) := by decide +kernel
theorem dX0_goesBefore_26 : decode cX0_goesBefore 26 = .ok (.getfield 42, 3) := by decide +kernel
theorem dX0_goesBefore_29 : decode cX0_goesBefore 29 = .ok (.iload_n 1, 1) := by decide +kernel
theorem dX0_goesBefore_30 : decode cX0_goesBefore 30 = .ok (.iaload, 1) := by decide +kernel
theorem dX0_goesBefore_31 : decode cX0_goesBefore 31 = .ok (.aload_n 0, 1) := by decide +kernel
theorem dX0_goesBefore_32 : decode cX0_goesBefore 32 = .ok (.getfield 21, 3) := by decide +kernel
theorem dX0_goesBefore_35 : decode cX0_goesBefore 35 = .ok (.iload_n 2, 1) := by decide +kernel
theorem dX0_goesBefore_36 : decode cX0_goesBefore 36 = .ok (.iaload, 1) := by decide +kernel
theorem dX0_goesBefore_37 : decode cX0_goesBefore 37 = .ok (.imul, 1) := by decide +kernel
theorem dX0_goesBefore_38 : decode cX0_goesBefore 38 = .ok (.aload_n 0, 1) := by decide +kernel
theorem dX0_goesBefore_39 : decode cX0_goesBefore 39 = .ok (.getfield 42, 3) := by decide +kernel
theorem dX0_goesBefore_42 : decode cX0_goesBefore 42 = .ok (.iload_n 2, 1) := by decide +kernel
theorem dX0_goesBefore_43 : decode cX0_goesBefore 43 = .ok (.iaload, 1) := by decide +kernel
theorem dX0_goesBefore_44 : decode cX0_goesBefore 44 = .ok (.aload_n 0, 1) := by decide +kernel
theorem dX0_goesBefore_45 : decode cX0_goesBefore 45 = .ok (.getfield 21, 3) := by decide +kernel
theorem dX0_goesBefore_48 : decode cX0_goesBefore 48 = .ok (.iload_n 1, 1) := by decide +kernel
theorem dX0_goesBefore_49 : decode cX0_goesBefore 49 = .ok (.iaload, 1) := by decide +kernel
theorem dX0_goesBefore_50 : decode cX0_goesBefore 50 = .ok (.imul, 1) := by decide +kernel
theorem dX0_goesBefore_51 : decode cX0_goesBefore 51 = .ok (.isub, 1) := by decide +kernel
theorem dX0_goesBefore_52 : decode cX0_goesBefore 52 = .ok (.istore_n 3, 1) := by decide +kernel
theorem dX0_goesBefore_53 : decode cX0_goesBefore 53 = .ok (.iload_n 3, 1) := by decide +kernel
theorem dX0_goesBefore_54 : decode cX0_goesBefore 54 = .ok (.ifCond .eq 13, 3) := by decide +kernel
theorem dX0_goesBefore_57 : decode cX0_goesBefore 57 = .ok (.iload_n 3, 1) := by decide +kernel
theorem dX0_goesBefore_58 : decode cX0_goesBefore 58 = .ok (.ifCond .le 7, 3) := by decide +kernel
theorem dX0_goesBefore_61 : decode cX0_goesBefore 61 = .ok (.iconst 1, 1) := by decide +kernel
theorem dX0_goesBefore_62 : decode cX0_goesBefore 62 = .ok (.goto 4, 3) := by decide +kernel
theorem dX0_goesBefore_65 : decode cX0_goesBefore 65 = .ok (.iconst 0, 1) := by decide +kernel
theorem dX0_goesBefore_66 : decode cX0_goesBefore 66 = .ok (.ireturn, 1) := by decide +kernel
theorem dX0_goesBefore_67 : decode cX0_goesBefore 67 = .ok (.aload_n 0, 1) := by decide +kernel
theorem dX0_goesBefore_68 : decode cX0_goesBefore 68 = .ok (.getfield 21, 3) := by decide +kernel
theorem dX0_goesBefore_71 : decode cX0_goesBefore 71 = .ok (.iload_n 1, 1) := by decide +kernel
theorem dX0_goesBefore_72 : decode cX0_goesBefore 72 = .ok (.iaload, 1) := by decide +kernel
theorem dX0_goesBefore_73 : decode cX0_goesBefore 73 = .ok (.aload_n 0, 1) := by decide +kernel
theorem dX0_goesBefore_74 : decode cX0_goesBefore 74 = .ok (.getfield 21, 3) := by decide +kernel
theorem dX0_goesBefore_77 : decode cX0_goesBefore 77 = .ok (.iload_n 2, 1) := by decide +kernel
theorem dX0_goesBefore_78 : decode cX0_goesBefore 78 = .ok (.iaload, 1) := by decide +kernel
theorem dX0_goesBefore_79 : decode cX0_goesBefore 79 = .ok (.if_icmp .lt 23, 3) := by decide +kernel
theorem dX0_goesBefore_82 : decode cX0_goesBefore 82 = .ok (.aload_n 0, 1) := by decide +kernel
theorem dX0_goesBefore_83 : decode cX0_goesBefore 83 = .ok (.getfield 21, 3) := by decide +kernel
theorem dX0_goesBefore_86 : decode cX0_goesBefore 86 = .ok (.iload_n 1, 1) := by decide +kernel
theorem dX0_goesBefore_87 : decode cX0_goesBefore 87 = .ok (.iaload, 1) := by decide +kernel
theorem dX0_goesBefore_88 : decode cX0_goesBefore 88 = .ok (.aload_n 0, 1) := by decide +kernel
theorem dX0_goesBefore_89 : decode cX0_goesBefore 89 = .ok (.getfield 21, 3) := by decide +kernel
theorem dX0_goesBefore_92 : decode cX0_goesBefore 92 = .ok (.iload_n 2, 1) := by decide +kernel
theorem dX0_goesBefore_93 : decode cX0_goesBefore 93 = .ok (.iaload, 1) := by decide +kernel
theorem dX0_goesBefore_94 : decode cX0_goesBefore 94 = .ok (.if_icmp .ne 12, 3) := by decide +kernel
theorem dX0_goesBefore_97 : decode cX0_goesBefore 97 = .ok (.iload_n 1, 1) := by decide +kernel
theorem dX0_goesBefore_98 : decode cX0_goesBefore 98 = .ok (.iload_n 2, 1) := by decide +kernel
theorem dX0_goesBefore_99 : decode cX0_goesBefore 99 = .ok (.if_icmp .ge 7, 3) := by decide +kernel
theorem dX0_goesBefore_102 : decode cX0_goesBefore 102 = .ok (.iconst 1, 1) := by decide +kernel
theorem dX0_goesBefore_103 : decode cX0_goesBefore 103 = .ok (.goto 4, 3) := by decide +kernel
theorem dX0_goesBefore_106 : decode cX0_goesBefore 106 = .ok (.iconst 0, 1) := by decide +kernel
theorem dX0_goesBefore_107 : decode cX0_goesBefore 107 = .ok (.ireturn, 1) := by decide +kernel
theorem dX0_costTogether_0 : decode cX0_costTogether 0 = .ok (.iconst 0, 1) := by decide +kernel
theorem dX0_costTogether_1 : decode cX0_costTogether 1 = .ok (.istore_n 2, 1) := by decide +kernel
theorem dX0_costTogether_2 : decode cX0_costTogether 2 = .ok (.iconst 0, 1) := by decide +kernel
theorem dX0_costTogether_3 : decode cX0_costTogether 3 = .ok (.istore_n 3, 1) := by decide +kernel
theorem dX0_costTogether_4 : decode cX0_costTogether 4 = .ok (.iload_n 3, 1) := by decide +kernel
theorem dX0_costTogether_5 : decode cX0_costTogether 5 = .ok (.aload_n 0, 1) := by decide +kernel
theorem dX0_costTogether_6 : decode cX0_costTogether 6 = .ok (.getfield 58, 3) := by decide +kernel
theorem dX0_costTogether_9 : decode cX0_costTogether 9 = .ok (.if_icmp .ge 26, 3) := by decide +kernel
theorem dX0_costTogether_12 : decode cX0_costTogether 12 = .ok (.iload_n 1, 1) := by decide +kernel
theorem dX0_costTogether_13 : decode cX0_costTogether 13 = .ok (.iload_n 3, 1) := by decide +kernel
theorem dX0_costTogether_14 : decode cX0_costTogether 14 = .ok (.invokestatic 64, 3) := by decide +kernel
theorem dX0_costTogether_17 : decode cX0_costTogether 17 = .ok (.ifCond .eq 12, 3) := by decide +kernel
theorem dX0_costTogether_20 : decode cX0_costTogether 20 = .ok (.iload_n 2, 1) := by decide +kernel
theorem dX0_costTogether_21 : decode cX0_costTogether 21 = .ok (.aload_n 0, 1) := by decide +kernel
theorem dX0_costTogether_22 : decode cX0_costTogether 22 = .ok (.getfield 21, 3) := by decide +kernel
theorem dX0_costTogether_25 : decode cX0_costTogether 25 = .ok (.iload_n 3, 1) := by decide +kernel
theorem dX0_costTogether_26 : decode cX0_costTogether 26 = .ok (.iaload, 1) := by decide +kernel
theorem dX0_costTogether_27 : decode cX0_costTogether 27 = .ok (.iadd, 1) := by decide +kernel
theorem dX0_costTogether_28 : decode cX0_costTogether 28 = .ok (.istore_n 2, 1) := by decide +kernel
theorem dX0_costTogether_29 : decode cX0_costTogether 29 = .ok (.iinc 3 1, 3) := by decide +kernel
theorem dX0_costTogether_32 : decode cX0_costTogether 32 = .ok (.goto (-28), 3) := by decide +kernel
theorem dX0_costTogether_35 : decode cX0_costTogether 35 = .ok (.iload_n 2, 1) := by decide +kernel
theorem dX0_costTogether_36 : decode cX0_costTogether 36 = .ok (.ireturn, 1) := by decide +kernel
theorem dX0_valueTogether_0 : decode cX0_valueTogether 0 = .ok (.iconst 0, 1) := by decide +kernel
theorem dX0_valueTogether_1 : decode cX0_valueTogether 1 = .ok (.istore_n 2, 1) := by decide +kernel
theorem dX0_valueTogether_2 : decode cX0_valueTogether 2 = .ok (.iconst 0, 1) := by decide +kernel
theorem dX0_valueTogether_3 : decode cX0_valueTogether 3 = .ok (.istore_n 3, 1) := by decide +kernel
theorem dX0_valueTogether_4 : decode cX0_valueTogether 4 = .ok (.iload_n 3, 1) := by decide +kernel
theorem dX0_valueTogether_5 : decode cX0_valueTogether 5 = .ok (.aload_n 0, 1) := by decide +kernel
theorem dX0_valueTogether_6 : decode cX0_valueTogether 6 = .ok (.getfield 58, 3) := by decide +kernel
theorem dX0_valueTogether_9 : decode cX0_valueTogether 9 = .ok (.if_icmp .ge 32, 3) := by decide +kernel
theorem dX0_valueTogether_12 : decode cX0_valueTogether 12 = .ok (.iload_n 1, 1) := by decide +kernel
theorem dX0_valueTogether_13 : decode cX0_valueTogether 13 = .ok (.iload_n 3, 1) := by decide +kernel
theorem dX0_valueTogether_14 : decode cX0_valueTogether 14 = .ok (.invokestatic 64, 3) := by decide +kernel
theorem dX0_valueTogether_17 : decode cX0_valueTogether 17 = .ok (.ifCond .eq 18, 3) := by decide +kernel
theorem dX0_valueTogether_20 : decode cX0_valueTogether 20 = .ok (.iload_n 2, 1) := by decide +kernel
theorem dX0_valueTogether_21 : decode cX0_valueTogether 21 = .ok (.aload_n 0, 1) := by decide +kernel
theorem dX0_valueTogether_22 : decode cX0_valueTogether 22 = .ok (.getfield 42, 3) := by decide +kernel
theorem dX0_valueTogether_25 : decode cX0_valueTogether 25 = .ok (.iload_n 3, 1) := by decide +kernel
theorem dX0_valueTogether_26 : decode cX0_valueTogether 26 = .ok (.iaload, 1) := by decide +kernel
theorem dX0_valueTogether_27 : decode cX0_valueTogether 27 = .ok (.aload_n 0, 1) := by decide +kernel
theorem dX0_valueTogether_28 : decode cX0_valueTogether 28 = .ok (.iload_n 3, 1) := by decide +kernel
theorem dX0_valueTogether_29 : decode cX0_valueTogether 29 = .ok (.invokevirtual 80, 3) := by decide +kernel
theorem dX0_valueTogether_32 : decode cX0_valueTogether 32 = .ok (.imul, 1) := by decide +kernel
theorem dX0_valueTogether_33 : decode cX0_valueTogether 33 = .ok (.iadd, 1) := by decide +kernel
theorem dX0_valueTogether_34 : decode cX0_valueTogether 34 = .ok (.istore_n 2, 1) := by decide +kernel
theorem dX0_valueTogether_35 : decode cX0_valueTogether 35 = .ok (.iinc 3 1, 3) := by decide +kernel
theorem dX0_valueTogether_38 : decode cX0_valueTogether 38 = .ok (.goto (-34), 3) := by decide +kernel
theorem dX0_valueTogether_41 : decode cX0_valueTogether 41 = .ok (.iload_n 2, 1) := by decide +kernel
theorem dX0_valueTogether_42 : decode cX0_valueTogether 42 = .ok (.ireturn, 1) := by decide +kernel
theorem dX0_joy_0 : decode cX0_joy 0 = .ok (.iconst 0, 1) := by decide +kernel
theorem dX0_joy_1 : decode cX0_joy 1 = .ok (.istore_n 3, 1) := by decide +kernel
theorem dX0_joy_2 : decode cX0_joy 2 = .ok (.iconst 0, 1) := by decide +kernel
theorem dX0_joy_3 : decode cX0_joy 3 = .ok (.istore 4, 2) := by decide +kernel
theorem dX0_joy_5 : decode cX0_joy 5 = .ok (.iload 4, 2) := by decide +kernel
theorem dX0_joy_7 : decode cX0_joy 7 = .ok (.aload_n 0, 1) := by decide +kernel
theorem dX0_joy_8 : decode cX0_joy 8 = .ok (.getfield 58, 3) := by decide +kernel
theorem dX0_joy_11 : decode cX0_joy 11 = .ok (.if_icmp .ge 41, 3) := by decide +kernel
theorem dX0_joy_14 : decode cX0_joy 14 = .ok (.iload_n 1, 1) := by decide +kernel
theorem dX0_joy_15 : decode cX0_joy 15 = .ok (.iload 4, 2) := by decide +kernel
theorem dX0_joy_17 : decode cX0_joy 17 = .ok (.invokestatic 64, 3) := by decide +kernel
theorem dX0_joy_20 : decode cX0_joy 20 = .ok (.ifCond .eq 26, 3) := by decide +kernel
theorem dX0_joy_23 : decode cX0_joy 23 = .ok (.aload_n 0, 1) := by decide +kernel
theorem dX0_joy_24 : decode cX0_joy 24 = .ok (.getfield 39, 3) := by decide +kernel
theorem dX0_joy_27 : decode cX0_joy 27 = .ok (.iload 4, 2) := by decide +kernel
theorem dX0_joy_29 : decode cX0_joy 29 = .ok (.iaload, 1) := by decide +kernel
theorem dX0_joy_30 : decode cX0_joy 30 = .ok (.iload_n 2, 1) := by decide +kernel
theorem dX0_joy_31 : decode cX0_joy 31 = .ok (.invokestatic 64, 3) := by decide +kernel
theorem dX0_joy_34 : decode cX0_joy 34 = .ok (.ifCond .eq 12, 3) := by decide +kernel
theorem dX0_joy_37 : decode cX0_joy 37 = .ok (.iload_n 3, 1) := by decide +kernel
theorem dX0_joy_38 : decode cX0_joy 38 = .ok (.aload_n 0, 1) := by decide +kernel
theorem dX0_joy_39 : decode cX0_joy 39 = .ok (.iload 4, 2) := by decide +kernel
theorem dX0_joy_41 : decode cX0_joy 41 = .ok (.invokevirtual 80, 3) := by decide +kernel
theorem dX0_joy_44 : decode cX0_joy 44 = .ok (.iadd, 1) := by decide +kernel
theorem dX0_joy_45 : decode cX0_joy 45 = .ok (.istore_n 3, 1) := by decide +kernel
theorem dX0_joy_46 : decode cX0_joy 46 = .ok (.iinc 4 1, 3) := by decide +kernel
theorem dX0_joy_49 : decode cX0_joy 49 = .ok (.goto (-44), 3) := by decide +kernel
theorem dX0_joy_52 : decode cX0_joy 52 = .ok (.iload_n 3, 1) := by decide +kernel
theorem dX0_joy_53 : decode cX0_joy 53 = .ok (.ireturn, 1) := by decide +kernel
theorem dX0_unserved_0 : decode cX0_unserved 0 = .ok (.iconst 1, 1) := by decide +kernel
theorem dX0_unserved_1 : decode cX0_unserved 1 = .ok (.aload_n 0, 1) := by decide +kernel
theorem dX0_unserved_2 : decode cX0_unserved 2 = .ok (.getfield 61, 3) := by decide +kernel
theorem dX0_unserved_5 : decode cX0_unserved 5 = .ok (.ishl, 1) := by decide +kernel
theorem dX0_unserved_6 : decode cX0_unserved 6 = .ok (.iconst 1, 1) := by decide +kernel
theorem dX0_unserved_7 : decode cX0_unserved 7 = .ok (.isub, 1) := by decide +kernel
theorem dX0_unserved_8 : decode cX0_unserved 8 = .ok (.istore_n 2, 1) := by decide +kernel
theorem dX0_unserved_9 : decode cX0_unserved 9 = .ok (.iconst 0, 1) := by decide +kernel
theorem dX0_unserved_10 : decode cX0_unserved 10 = .ok (.istore_n 3, 1) := by decide +kernel
theorem dX0_unserved_11 : decode cX0_unserved 11 = .ok (.iload_n 3, 1) := by decide +kernel
theorem dX0_unserved_12 : decode cX0_unserved 12 = .ok (.aload_n 0, 1) := by decide +kernel
theorem dX0_unserved_13 : decode cX0_unserved 13 = .ok (.getfield 58, 3) := by decide +kernel
theorem dX0_unserved_16 : decode cX0_unserved 16 = .ok (.if_icmp .ge 28, 3) := by decide +kernel
theorem dX0_unserved_19 : decode cX0_unserved 19 = .ok (.iload_n 1, 1) := by decide +kernel
theorem dX0_unserved_20 : decode cX0_unserved 20 = .ok (.iload_n 3, 1) := by decide +kernel
theorem dX0_unserved_21 : decode cX0_unserved 21 = .ok (.invokestatic 64, 3) := by decide +kernel
theorem dX0_unserved_24 : decode cX0_unserved 24 = .ok (.ifCond .eq 14, 3) := by decide +kernel
theorem dX0_unserved_27 : decode cX0_unserved 27 = .ok (.iload_n 2, 1) := by decide +kernel
theorem dX0_unserved_28 : decode cX0_unserved 28 = .ok (.aload_n 0, 1) := by decide +kernel
theorem dX0_unserved_29 : decode cX0_unserved 29 = .ok (.getfield 39, 3) := by decide +kernel
theorem dX0_unserved_32 : decode cX0_unserved 32 = .ok (.iload_n 3, 1) := by decide +kernel
theorem dX0_unserved_33 : decode cX0_unserved 33 = .ok (.iaload, 1) := by decide +kernel
theorem dX0_unserved_34 : decode cX0_unserved 34 = .ok (.iconst (-1), 1) := by decide +kernel
theorem dX0_unserved_35 : decode cX0_unserved 35 = .ok (.ixor, 1) := by decide +kernel
theorem dX0_unserved_36 : decode cX0_unserved 36 = .ok (.iand, 1) := by decide +kernel
theorem dX0_unserved_37 : decode cX0_unserved 37 = .ok (.istore_n 2, 1) := by decide +kernel
theorem dX0_unserved_38 : decode cX0_unserved 38 = .ok (.iinc 3 1, 3) := by decide +kernel
theorem dX0_unserved_41 : decode cX0_unserved 41 = .ok (.goto (-30), 3) := by decide +kernel
theorem dX0_unserved_44 : decode cX0_unserved 44 = .ok (.iload_n 2, 1) := by decide +kernel
theorem dX0_unserved_45 : decode cX0_unserved 45 = .ok (.ireturn, 1) := by decide +kernel
theorem dX0_claim_0 : decode cX0_claim 0 = .ok (.iload_n 1, 1) := by decide +kernel
theorem dX0_claim_1 : decode cX0_claim 1 = .ok (.iload_n 2, 1) := by decide +kernel
theorem dX0_claim_2 : decode cX0_claim 2 = .ok (.invokestatic 64, 3) := by decide +kernel
theorem dX0_claim_5 : decode cX0_claim 5 = .ok (.ifCond .eq 5, 3) := by decide +kernel
theorem dX0_claim_8 : decode cX0_claim 8 = .ok (.iconst 0, 1) := by decide +kernel
theorem dX0_claim_9 : decode cX0_claim 9 = .ok (.ireturn, 1) := by decide +kernel
theorem dX0_claim_10 : decode cX0_claim 10 = .ok (.aload_n 0, 1) := by decide +kernel
theorem dX0_claim_11 : decode cX0_claim 11 = .ok (.getfield 39, 3) := by decide +kernel
theorem dX0_claim_14 : decode cX0_claim 14 = .ok (.iload_n 2, 1) := by decide +kernel
theorem dX0_claim_15 : decode cX0_claim 15 = .ok (.iaload, 1) := by decide +kernel
theorem dX0_claim_16 : decode cX0_claim 16 = .ok (.aload_n 0, 1) := by decide +kernel
theorem dX0_claim_17 : decode cX0_claim 17 = .ok (.iload_n 1, 1) := by decide +kernel
theorem dX0_claim_18 : decode cX0_claim 18 = .ok (.invokevirtual 83, 3) := by decide +kernel
theorem dX0_claim_21 : decode cX0_claim 21 = .ok (.iand, 1) := by decide +kernel
theorem dX0_claim_22 : decode cX0_claim 22 = .ok (.istore_n 3, 1) := by decide +kernel
theorem dX0_claim_23 : decode cX0_claim 23 = .ok (.iconst 0, 1) := by decide +kernel
theorem dX0_claim_24 : decode cX0_claim 24 = .ok (.istore 4, 2) := by decide +kernel
theorem dX0_claim_26 : decode cX0_claim 26 = .ok (.iconst 0, 1) := by decide +kernel
theorem dX0_claim_27 : decode cX0_claim 27 = .ok (.istore 5, 2) := by decide +kernel
theorem dX0_claim_29 : decode cX0_claim 29 = .ok (.iload 5, 2) := by decide +kernel
theorem dX0_claim_31 : decode cX0_claim 31 = .ok (.aload_n 0, 1) := by decide +kernel
theorem dX0_claim_32 : decode cX0_claim 32 = .ok (.getfield 61, 3) := by decide +kernel
theorem dX0_claim_35 : decode cX0_claim 35 = .ok (.if_icmp .ge 35, 3) := by decide +kernel
theorem dX0_claim_38 : decode cX0_claim 38 = .ok (.iload_n 3, 1) := by decide +kernel
theorem dX0_claim_39 : decode cX0_claim 39 = .ok (.iload 5, 2) := by decide +kernel
theorem dX0_claim_41 : decode cX0_claim 41 = .ok (.invokestatic 64, 3) := by decide +kernel
theorem dX0_claim_44 : decode cX0_claim 44 = .ok (.ifCond .eq 20, 3) := by decide +kernel
theorem dX0_claim_47 : decode cX0_claim 47 = .ok (.iload 4, 2) := by decide +kernel
theorem dX0_claim_49 : decode cX0_claim 49 = .ok (.aload_n 0, 1) := by decide +kernel
theorem dX0_claim_50 : decode cX0_claim 50 = .ok (.iload 5, 2) := by decide +kernel
theorem dX0_claim_52 : decode cX0_claim 52 = .ok (.aload_n 0, 1) := by decide +kernel
theorem dX0_claim_53 : decode cX0_claim 53 = .ok (.getfield 24, 3) := by decide +kernel
theorem dX0_claim_56 : decode cX0_claim 56 = .ok (.iload_n 2, 1) := by decide +kernel
theorem dX0_claim_57 : decode cX0_claim 57 = .ok (.iaload, 1) := by decide +kernel
theorem dX0_claim_58 : decode cX0_claim 58 = .ok (.invokevirtual 86, 3) := by decide +kernel
theorem dX0_claim_61 : decode cX0_claim 61 = .ok (.iadd, 1) := by decide +kernel
theorem dX0_claim_62 : decode cX0_claim 62 = .ok (.istore 4, 2) := by decide +kernel
theorem dX0_claim_64 : decode cX0_claim 64 = .ok (.iinc 5 1, 3) := by decide +kernel
theorem dX0_claim_67 : decode cX0_claim 67 = .ok (.goto (-38), 3) := by decide +kernel
theorem dX0_claim_70 : decode cX0_claim 70 = .ok (.iload 4, 2) := by decide +kernel
theorem dX0_claim_72 : decode cX0_claim 72 = .ok (.ireturn, 1) := by decide +kernel
theorem dX1_init_0 : decode cX1_init 0 = .ok (.aload_n 0, 1) := by decide +kernel
theorem dX1_init_1 : decode cX1_init 1 = .ok (.invokespecial 3, 3) := by decide +kernel
theorem dX1_init_4 : decode cX1_init 4 = .ok (.aload_n 0, 1) := by decide +kernel
theorem dX1_init_5 : decode cX1_init 5 = .ok (.new 9, 3) := by decide +kernel
theorem dX1_init_8 : decode cX1_init 8 = .ok (.dup, 1) := by decide +kernel
theorem dX1_init_9 : decode cX1_init 9 = .ok (.invokespecial 11, 3) := by decide +kernel
theorem dX1_init_12 : decode cX1_init 12 = .ok (.putfield 12, 3) := by decide +kernel
theorem dX1_init_15 : decode cX1_init 15 = .ok (.aload_n 0, 1) := by decide +kernel
theorem dX1_init_16 : decode cX1_init 16 = .ok (.new 9, 3) := by decide +kernel
theorem dX1_init_19 : decode cX1_init 19 = .ok (.dup, 1) := by decide +kernel
theorem dX1_init_20 : decode cX1_init 20 = .ok (.invokespecial 11, 3) := by decide +kernel
theorem dX1_init_23 : decode cX1_init 23 = .ok (.putfield 18, 3) := by decide +kernel
theorem dX1_init_26 : decode cX1_init 26 = .ok (.aload_n 0, 1) := by decide +kernel
theorem dX1_init_27 : decode cX1_init 27 = .ok (.new 21, 3) := by decide +kernel
theorem dX1_init_30 : decode cX1_init 30 = .ok (.dup, 1) := by decide +kernel
theorem dX1_init_31 : decode cX1_init 31 = .ok (.invokespecial 23, 3) := by decide +kernel
theorem dX1_init_34 : decode cX1_init 34 = .ok (.putfield 24, 3) := by decide +kernel
theorem dX1_init_37 : decode cX1_init 37 = .ok (.aload_n 0, 1) := by decide +kernel
theorem dX1_init_38 : decode cX1_init 38 = .ok (.bipush 12, 2) := by decide +kernel
theorem dX1_init_40 : decode cX1_init 40 = .ok (.newarray .int, 2) := by decide +kernel
theorem dX1_init_42 : decode cX1_init 42 = .ok (.putfield 28, 3) := by decide +kernel
theorem dX1_init_45 : decode cX1_init 45 = .ok (.return_, 1) := by decide +kernel
theorem dX1_decide_0 : decode cX1_decide 0 = .ok (.aload_n 0, 1) := by decide +kernel
theorem dX1_decide_1 : decode cX1_decide 1 = .ok (.getfield 12, 3) := by decide +kernel
theorem dX1_decide_4 : decode cX1_decide 4 = .ok (.aload_n 1, 1) := by decide +kernel
theorem dX1_decide_5 : decode cX1_decide 5 = .ok (.iconst 0, 1) := by decide +kernel
theorem dX1_decide_6 : decode cX1_decide 6 = .ok (.invokevirtual 32, 3) := by decide +kernel
theorem dX1_decide_9 : decode cX1_decide 9 = .ok (.aload_n 0, 1) := by decide +kernel
theorem dX1_decide_10 : decode cX1_decide 10 = .ok (.iconst 0, 1) := by decide +kernel
theorem dX1_decide_11 : decode cX1_decide 11 = .ok (.putfield 36, 3) := by decide +kernel
theorem dX1_decide_14 : decode cX1_decide 14 = .ok (.aload_n 0, 1) := by decide +kernel
theorem dX1_decide_15 : decode cX1_decide 15 = .ok (.aload_n 0, 1) := by decide +kernel
theorem dX1_decide_16 : decode cX1_decide 16 = .ok (.getfield 12, 3) := by decide +kernel
theorem dX1_decide_19 : decode cX1_decide 19 = .ok (.getfield 40, 3) := by decide +kernel
theorem dX1_decide_22 : decode cX1_decide 22 = .ok (.putfield 43, 3) := by decide +kernel
theorem dX1_decide_25 : decode cX1_decide 25 = .ok (.iconst 0, 1) := by decide +kernel
theorem dX1_decide_26 : decode cX1_decide 26 = .ok (.istore_n 2, 1) := by decide +kernel
theorem dX1_decide_27 : decode cX1_decide 27 = .ok (.iload_n 2, 1) := by decide +kernel
theorem dX1_decide_28 : decode cX1_decide 28 = .ok (.aload_n 1, 1) := by decide +kernel
theorem dX1_decide_29 : decode cX1_decide 29 = .ok (.getfield 46, 3) := by decide +kernel
theorem dX1_decide_32 : decode cX1_decide 32 = .ok (.if_icmp .ge 26, 3) := by decide +kernel
theorem dX1_decide_35 : decode cX1_decide 35 = .ok (.aload_n 0, 1) := by decide +kernel
theorem dX1_decide_36 : decode cX1_decide 36 = .ok (.getfield 28, 3) := by decide +kernel
theorem dX1_decide_39 : decode cX1_decide 39 = .ok (.iload_n 2, 1) := by decide +kernel
theorem dX1_decide_40 : decode cX1_decide 40 = .ok (.aload_n 0, 1) := by decide +kernel
theorem dX1_decide_41 : decode cX1_decide 41 = .ok (.getfield 12, 3) := by decide +kernel
theorem dX1_decide_44 : decode cX1_decide 44 = .ok (.getfield 51, 3) := by decide +kernel
theorem dX1_decide_47 : decode cX1_decide 47 = .ok (.iload_n 2, 1) := by decide +kernel
theorem dX1_decide_48 : decode cX1_decide 48 = .ok (.aaload, 1) := by decide +kernel
theorem dX1_decide_49 : decode cX1_decide 49 = .ok (.iconst 0, 1) := by decide +kernel
theorem dX1_decide_50 : decode cX1_decide 50 = .ok (.iaload, 1) := by decide +kernel
theorem dX1_decide_51 : decode cX1_decide 51 = .ok (.iastore, 1) := by decide +kernel
theorem dX1_decide_52 : decode cX1_decide 52 = .ok (.iinc 2 1, 3) := by decide +kernel
theorem dX1_decide_55 : decode cX1_decide 55 = .ok (.goto (-28), 3) := by decide +kernel
theorem dX1_decide_58 : decode cX1_decide 58 = .ok (.aload_n 1, 1) := by decide +kernel
theorem dX1_decide_59 : decode cX1_decide 59 = .ok (.getfield 55, 3) := by decide +kernel
theorem dX1_decide_62 : decode cX1_decide 62 = .ok (.iconst 1, 1) := by decide +kernel
theorem dX1_decide_63 : decode cX1_decide 63 = .ok (.iaload, 1) := by decide +kernel
theorem dX1_decide_64 : decode cX1_decide 64 = .ok (.iconst 2, 1) := by decide +kernel
theorem dX1_decide_65 : decode cX1_decide 65 = .ok (.if_icmp .ne 10, 3) := by decide +kernel
theorem dX1_decide_68 : decode cX1_decide 68 = .ok (.aload_n 1, 1) := by decide +kernel
theorem dX1_decide_69 : decode cX1_decide 69 = .ok (.invokevirtual 58, 3) := by decide +kernel
theorem dX1_decide_72 : decode cX1_decide 72 = .ok (.goto 4, 3) := by decide +kernel
theorem dX1_decide_75 : decode cX1_decide 75 = .ok (.iconst 0, 1) := by decide +kernel
theorem dX1_decide_76 : decode cX1_decide 76 = .ok (.istore_n 2, 1) := by decide +kernel
theorem dX1_decide_77 : decode cX1_decide 77 = .ok (.iconst 1, 1) := by decide +kernel
theorem dX1_decide_78 : decode cX1_decide 78 = .ok (.istore_n 3, 1) := by decide +kernel
theorem dX1_decide_79 : decode cX1_decide 79 = .ok (.iload_n 3, 1) := by decide +kernel
theorem dX1_decide_80 : decode cX1_decide 80 = .ok (.bipush 60, 2) := by decide +kernel
theorem dX1_decide_82 : decode cX1_decide 82 = .ok (.if_icmp .gt 62, 3) := by decide +kernel
theorem dX1_decide_85 : decode cX1_decide 85 = .ok (.iload_n 2, 1) := by decide +kernel
theorem dX1_decide_86 : decode cX1_decide 86 = .ok (.aload_n 0, 1) := by decide +kernel
theorem dX1_decide_87 : decode cX1_decide 87 = .ok (.getfield 12, 3) := by decide +kernel
theorem dX1_decide_90 : decode cX1_decide 90 = .ok (.getfield 40, 3) := by decide +kernel
theorem dX1_decide_93 : decode cX1_decide 93 = .ok (.iconst (-1), 1) := by decide +kernel
theorem dX1_decide_94 : decode cX1_decide 94 = .ok (.ixor, 1) := by decide +kernel
theorem dX1_decide_95 : decode cX1_decide 95 = .ok (.iand, 1) := by decide +kernel
theorem dX1_decide_96 : decode cX1_decide 96 = .ok (.ifCond .eq 48, 3) := by decide +kernel
theorem dX1_decide_99 : decode cX1_decide 99 = .ok (.aload_n 0, 1) := by decide +kernel
theorem dX1_decide_100 : decode cX1_decide 100 = .ok (.getfield 18, 3) := by decide +kernel
theorem dX1_decide_103 : decode cX1_decide 103 = .ok (.aload_n 1, 1) := by decide +kernel
theorem dX1_decide_104 : decode cX1_decide 104 = .ok (.iload_n 3, 1) := by decide +kernel
theorem dX1_decide_105 : decode cX1_decide 105 = .ok (.aload_n 1, 1) := by decide +kernel
theorem dX1_decide_106 : decode cX1_decide 106 = .ok (.getfield 55, 3) := by decide +kernel
theorem dX1_decide_109 : decode cX1_decide 109 = .ok (.iconst 2, 1) := by decide +kernel
theorem dX1_decide_110 : decode cX1_decide 110 = .ok (.iaload, 1) := by decide +kernel
theorem dX1_decide_111 : decode cX1_decide 111 = .ok (.imul, 1) := by decide +kernel
theorem dX1_decide_112 : decode cX1_decide 112 = .ok (.invokevirtual 32, 3) := by decide +kernel
theorem dX1_decide_115 : decode cX1_decide 115 = .ok (.aload_n 0, 1) := by decide +kernel
theorem dX1_decide_116 : decode cX1_decide 116 = .ok (.getfield 18, 3) := by decide +kernel
theorem dX1_decide_119 : decode cX1_decide 119 = .ok (.aload_n 1, 1) := by decide +kernel
theorem dX1_decide_120 : decode cX1_decide 120 = .ok (.invokevirtual 62, 3) := by decide +kernel
theorem dX1_decide_123 : decode cX1_decide 123 = .ok (.ifCond .eq 6, 3) := by decide +kernel
theorem dX1_decide_126 : decode cX1_decide 126 = .ok (.goto 18, 3) := by decide +kernel
theorem dX1_decide_129 : decode cX1_decide 129 = .ok (.aload_n 0, 1) := by decide +kernel
theorem dX1_decide_130 : decode cX1_decide 130 = .ok (.invokevirtual 66, 3) := by decide +kernel
theorem dX1_decide_133 : decode cX1_decide 133 = .ok (.aload_n 0, 1) := by decide +kernel
theorem dX1_decide_134 : decode cX1_decide 134 = .ok (.iload_n 3, 1) := by decide +kernel
theorem dX1_decide_135 : decode cX1_decide 135 = .ok (.putfield 36, 3) := by decide +kernel
theorem dX1_decide_138 : decode cX1_decide 138 = .ok (.iinc 3 1, 3) := by decide +kernel
theorem dX1_decide_141 : decode cX1_decide 141 = .ok (.goto (-62), 3) := by decide +kernel
theorem dX1_decide_144 : decode cX1_decide 144 = .ok (.aload_n 0, 1) := by decide +kernel
theorem dX1_decide_145 : decode cX1_decide 145 = .ok (.aload_n 1, 1) := by decide +kernel
theorem dX1_decide_146 : decode cX1_decide 146 = .ok (.invokevirtual 69, 3) := by decide +kernel
theorem dX1_decide_149 : decode cX1_decide 149 = .ok (.return_, 1) := by decide +kernel
theorem dX1_keepTrial_0 : decode cX1_keepTrial 0 = .ok (.aload_n 0, 1) := by decide +kernel
theorem dX1_keepTrial_1 : decode cX1_keepTrial 1 = .ok (.getfield 12, 3) := by decide +kernel
theorem dX1_keepTrial_4 : decode cX1_keepTrial 4 = .ok (.astore_n 1, 1) := by decide +kernel
theorem dX1_keepTrial_5 : decode cX1_keepTrial 5 = .ok (.aload_n 0, 1) := by decide +kernel
theorem dX1_keepTrial_6 : decode cX1_keepTrial 6 = .ok (.aload_n 0, 1) := by decide +kernel
theorem dX1_keepTrial_7 : decode cX1_keepTrial 7 = .ok (.getfield 18, 3) := by decide +kernel
theorem dX1_keepTrial_10 : decode cX1_keepTrial 10 = .ok (.putfield 12, 3) := by decide +kernel
theorem dX1_keepTrial_13 : decode cX1_keepTrial 13 = .ok (.aload_n 0, 1) := by decide +kernel
theorem dX1_keepTrial_14 : decode cX1_keepTrial 14 = .ok (.aload_n 1, 1) := by decide +kernel
theorem dX1_keepTrial_15 : decode cX1_keepTrial 15 = .ok (.putfield 18, 3) := by decide +kernel
theorem dX1_keepTrial_18 : decode cX1_keepTrial 18 = .ok (.return_, 1) := by decide +kernel
theorem dX1_complete_0 : decode cX1_complete 0 = .ok (.aload_n 0, 1) := by decide +kernel
theorem dX1_complete_1 : decode cX1_complete 1 = .ok (.getfield 24, 3) := by decide +kernel
theorem dX1_complete_4 : decode cX1_complete 4 = .ok (.aload_n 1, 1) := by decide +kernel
theorem dX1_complete_5 : decode cX1_complete 5 = .ok (.invokevirtual 73, 3) := by decide +kernel
theorem dX1_complete_8 : decode cX1_complete 8 = .ok (.iconst 0, 1) := by decide +kernel
theorem dX1_complete_9 : decode cX1_complete 9 = .ok (.istore_n 2, 1) := by decide +kernel
theorem dX1_complete_10 : decode cX1_complete 10 = .ok (.iload_n 2, 1) := by decide +kernel
theorem dX1_complete_11 : decode cX1_complete 11 = .ok (.aload_n 1, 1) := by decide +kernel
theorem dX1_complete_12 : decode cX1_complete 12 = .ok (.getfield 76, 3) := by decide +kernel
theorem dX1_complete_15 : decode cX1_complete 15 = .ok (.if_icmp .ge 29, 3) := by decide +kernel
theorem dX1_complete_18 : decode cX1_complete 18 = .ok (.aload_n 0, 1) := by decide +kernel
theorem dX1_complete_19 : decode cX1_complete 19 = .ok (.getfield 24, 3) := by decide +kernel
theorem dX1_complete_22 : decode cX1_complete 22 = .ok (.getfield 79, 3) := by decide +kernel
theorem dX1_complete_25 : decode cX1_complete 25 = .ok (.iload_n 2, 1) := by decide +kernel
theorem dX1_complete_26 : decode cX1_complete 26 = .ok (.dup2, 1) := by decide +kernel
theorem dX1_complete_27 : decode cX1_complete 27 = .ok (.iaload, 1) := by decide +kernel
theorem dX1_complete_28 : decode cX1_complete 28 = .ok (.aload_n 0, 1) := by decide +kernel
theorem dX1_complete_29 : decode cX1_complete 29 = .ok (.getfield 12, 3) := by decide +kernel
theorem dX1_complete_32 : decode cX1_complete 32 = .ok (.iload_n 2, 1) := by decide +kernel
theorem dX1_complete_33 : decode cX1_complete 33 = .ok (.invokevirtual 82, 3) := by decide +kernel
theorem dX1_complete_36 : decode cX1_complete 36 = .ok (.isub, 1) := by decide +kernel
theorem dX1_complete_37 : decode cX1_complete 37 = .ok (.iastore, 1) := by decide +kernel
theorem dX1_complete_38 : decode cX1_complete 38 = .ok (.iinc 2 1, 3) := by decide +kernel
theorem dX1_complete_41 : decode cX1_complete 41 = .ok (.goto (-31), 3) := by decide +kernel
theorem dX1_complete_44 : decode cX1_complete 44 = .ok (.aload_n 1, 1) := by decide +kernel
theorem dX1_complete_45 : decode cX1_complete 45 = .ok (.getfield 55, 3) := by decide +kernel
theorem dX1_complete_48 : decode cX1_complete 48 = .ok (.iconst 1, 1) := by decide +kernel
theorem dX1_complete_49 : decode cX1_complete 49 = .ok (.iaload, 1) := by decide +kernel
theorem dX1_complete_50 : decode cX1_complete 50 = .ok (.iconst 1, 1) := by decide +kernel
theorem dX1_complete_51 : decode cX1_complete 51 = .ok (.if_icmp .ne 25, 3) := by decide +kernel
theorem dX1_complete_54 : decode cX1_complete 54 = .ok (.aload_n 0, 1) := by decide +kernel
theorem dX1_complete_55 : decode cX1_complete 55 = .ok (.getfield 24, 3) := by decide +kernel
theorem dX1_complete_58 : decode cX1_complete 58 = .ok (.aload_n 1, 1) := by decide +kernel
theorem dX1_complete_59 : decode cX1_complete 59 = .ok (.aload_n 1, 1) := by decide +kernel
theorem dX1_complete_60 : decode cX1_complete 60 = .ok (.invokevirtual 58, 3) := by decide +kernel
theorem dX1_complete_63 : decode cX1_complete 63 = .ok (.aload_n 0, 1) := by decide +kernel
theorem dX1_complete_64 : decode cX1_complete 64 = .ok (.getfield 12, 3) := by decide +kernel
theorem dX1_complete_67 : decode cX1_complete 67 = .ok (.getfield 40, 3) := by decide +kernel
theorem dX1_complete_70 : decode cX1_complete 70 = .ok (.iconst (-1), 1) := by decide +kernel
theorem dX1_complete_71 : decode cX1_complete 71 = .ok (.ixor, 1) := by decide +kernel
theorem dX1_complete_72 : decode cX1_complete 72 = .ok (.iand, 1) := by decide +kernel
theorem dX1_complete_73 : decode cX1_complete 73 = .ok (.invokevirtual 86, 3) := by decide +kernel
theorem dX1_complete_76 : decode cX1_complete 76 = .ok (.return_, 1) := by decide +kernel
theorem dX1_chosen_0 : decode cX1_chosen 0 = .ok (.aload_n 0, 1) := by decide +kernel
theorem dX1_chosen_1 : decode cX1_chosen 1 = .ok (.getfield 12, 3) := by decide +kernel
theorem dX1_chosen_4 : decode cX1_chosen 4 = .ok (.getfield 40, 3) := by decide +kernel
theorem dX1_chosen_7 : decode cX1_chosen 7 = .ok (.aload_n 0, 1) := by decide +kernel
theorem dX1_chosen_8 : decode cX1_chosen 8 = .ok (.getfield 24, 3) := by decide +kernel
theorem dX1_chosen_11 : decode cX1_chosen 11 = .ok (.getfield 89, 3) := by decide +kernel
theorem dX1_chosen_14 : decode cX1_chosen 14 = .ok (.ior, 1) := by decide +kernel
theorem dX1_chosen_15 : decode cX1_chosen 15 = .ok (.ireturn, 1) := by decide +kernel
theorem dX1_chosenAt_0 : decode cX1_chosenAt 0 = .ok (.iload_n 1, 1) := by decide +kernel
theorem dX1_chosenAt_1 : decode cX1_chosenAt 1 = .ok (.aload_n 0, 1) := by decide +kernel
theorem dX1_chosenAt_2 : decode cX1_chosenAt 2 = .ok (.getfield 12, 3) := by decide +kernel
theorem dX1_chosenAt_5 : decode cX1_chosenAt 5 = .ok (.getfield 90, 3) := by decide +kernel
theorem dX1_chosenAt_8 : decode cX1_chosenAt 8 = .ok (.invokestatic 93, 3) := by decide +kernel
theorem dX1_chosenAt_11 : decode cX1_chosenAt 11 = .ok (.ifCond .eq 15, 3) := by decide +kernel
theorem dX1_chosenAt_14 : decode cX1_chosenAt 14 = .ok (.aload_n 0, 1) := by decide +kernel
theorem dX1_chosenAt_15 : decode cX1_chosenAt 15 = .ok (.getfield 12, 3) := by decide +kernel
theorem dX1_chosenAt_18 : decode cX1_chosenAt 18 = .ok (.getfield 97, 3) := by decide +kernel
theorem dX1_chosenAt_21 : decode cX1_chosenAt 21 = .ok (.iload_n 1, 1) := by decide +kernel
theorem dX1_chosenAt_22 : decode cX1_chosenAt 22 = .ok (.iaload, 1) := by decide +kernel
theorem dX1_chosenAt_23 : decode cX1_chosenAt 23 = .ok (.goto 19, 3) := by decide +kernel
theorem dX1_chosenAt_26 : decode cX1_chosenAt 26 = .ok (.aload_n 0, 1) := by decide +kernel
theorem dX1_chosenAt_27 : decode cX1_chosenAt 27 = .ok (.getfield 24, 3) := by decide +kernel
theorem dX1_chosenAt_30 : decode cX1_chosenAt 30 = .ok (.iload_n 1, 1) := by decide +kernel
theorem dX1_chosenAt_31 : decode cX1_chosenAt 31 = .ok (.aload_n 0, 1) := by decide +kernel
theorem dX1_chosenAt_32 : decode cX1_chosenAt 32 = .ok (.getfield 12, 3) := by decide +kernel
theorem dX1_chosenAt_35 : decode cX1_chosenAt 35 = .ok (.getfield 90, 3) := by decide +kernel
theorem dX1_chosenAt_38 : decode cX1_chosenAt 38 = .ok (.isub, 1) := by decide +kernel
theorem dX1_chosenAt_39 : decode cX1_chosenAt 39 = .ok (.invokevirtual 100, 3) := by decide +kernel
theorem dX1_chosenAt_42 : decode cX1_chosenAt 42 = .ok (.ireturn, 1) := by decide +kernel
theorem dX2_init_0 : decode cX2_init 0 = .ok (.aload_n 0, 1) := by decide +kernel
theorem dX2_init_1 : decode cX2_init 1 = .ok (.invokespecial 3, 3) := by decide +kernel
theorem dX2_init_4 : decode cX2_init 4 = .ok (.aload_n 0, 1) := by decide +kernel
theorem dX2_init_5 : decode cX2_init 5 = .ok (.iconst 4, 1) := by decide +kernel
theorem dX2_init_6 : decode cX2_init 6 = .ok (.newarray .int, 2) := by decide +kernel
theorem dX2_init_8 : decode cX2_init 8 = .ok (.putfield 9, 3) := by decide +kernel
theorem dX2_init_11 : decode cX2_init 11 = .ok (.aload_n 0, 1) := by decide +kernel
theorem dX2_init_12 : decode cX2_init 12 = .ok (.bipush 12, 2) := by decide +kernel
theorem dX2_init_14 : decode cX2_init 14 = .ok (.iconst 4, 1) := by decide +kernel
theorem dX2_init_15 : decode cX2_init 15 = .ok (.multianewarray 15 2, 4) := by decide +kernel
theorem dX2_init_19 : decode cX2_init 19 = .ok (.putfield 17, 3) := by decide +kernel
theorem dX2_init_22 : decode cX2_init 22 = .ok (.aload_n 0, 1) := by decide +kernel
theorem dX2_init_23 : decode cX2_init 23 = .ok (.bipush 12, 2) := by decide +kernel
theorem dX2_init_25 : decode cX2_init 25 = .ok (.newarray .int, 2) := by decide +kernel
theorem dX2_init_27 : decode cX2_init 27 = .ok (.putfield 20, 3) := by decide +kernel
theorem dX2_init_30 : decode cX2_init 30 = .ok (.return_, 1) := by decide +kernel
theorem dX2_decide_0 : decode cX2_decide 0 = .ok (.aload_n 0, 1) := by decide +kernel
theorem dX2_decide_1 : decode cX2_decide 1 = .ok (.aload_n 1, 1) := by decide +kernel
theorem dX2_decide_2 : decode cX2_decide 2 = .ok (.invokevirtual 23, 3) := by decide +kernel
theorem dX2_decide_5 : decode cX2_decide 5 = .ok (.aload_n 0, 1) := by decide +kernel
theorem dX2_decide_6 : decode cX2_decide 6 = .ok (.aload_n 1, 1) := by decide +kernel
theorem dX2_decide_7 : decode cX2_decide 7 = .ok (.aload_n 1, 1) := by decide +kernel
theorem dX2_decide_8 : decode cX2_decide 8 = .ok (.invokevirtual 27, 3) := by decide +kernel
theorem dX2_decide_11 : decode cX2_decide 11 = .ok (.invokevirtual 33, 3) := by decide +kernel
theorem dX2_decide_14 : decode cX2_decide 14 = .ok (.return_, 1) := by decide +kernel
theorem dX2_begin_0 : decode cX2_begin 0 = .ok (.aload_n 0, 1) := by decide +kernel
theorem dX2_begin_1 : decode cX2_begin 1 = .ok (.iconst 0, 1) := by decide +kernel
theorem dX2_begin_2 : decode cX2_begin 2 = .ok (.putfield 37, 3) := by decide +kernel
theorem dX2_begin_5 : decode cX2_begin 5 = .ok (.aload_n 0, 1) := by decide +kernel
theorem dX2_begin_6 : decode cX2_begin 6 = .ok (.iconst 0, 1) := by decide +kernel
theorem dX2_begin_7 : decode cX2_begin 7 = .ok (.putfield 41, 3) := by decide +kernel
theorem dX2_begin_10 : decode cX2_begin 10 = .ok (.aload_n 1, 1) := by decide +kernel
theorem dX2_begin_11 : decode cX2_begin 11 = .ok (.getfield 44, 3) := by decide +kernel
theorem dX2_begin_14 : decode cX2_begin 14 = .ok (.iconst 0, 1) := by decide +kernel
theorem dX2_begin_15 : decode cX2_begin 15 = .ok (.aload_n 0, 1) := by decide +kernel
theorem dX2_begin_16 : decode cX2_begin 16 = .ok (.getfield 9, 3) := by decide +kernel
theorem dX2_begin_19 : decode cX2_begin 19 = .ok (.iconst 0, 1) := by decide +kernel
theorem dX2_begin_20 : decode cX2_begin 20 = .ok (.iconst 4, 1) := by decide +kernel
theorem dX2_begin_21 : decode cX2_begin 21 = .ok (.invokestatic 47, 3) := by decide +kernel
theorem dX2_begin_24 : decode cX2_begin 24 = .ok (.iconst 0, 1) := by decide +kernel
theorem dX2_begin_25 : decode cX2_begin 25 = .ok (.istore_n 2, 1) := by decide +kernel
theorem dX2_begin_26 : decode cX2_begin 26 = .ok (.iload_n 2, 1) := by decide +kernel
theorem dX2_begin_27 : decode cX2_begin 27 = .ok (.bipush 12, 2) := by decide +kernel
theorem dX2_begin_29 : decode cX2_begin 29 = .ok (.if_icmp .ge 19, 3) := by decide +kernel
theorem dX2_begin_32 : decode cX2_begin 32 = .ok (.aload_n 0, 1) := by decide +kernel
theorem dX2_begin_33 : decode cX2_begin 33 = .ok (.getfield 17, 3) := by decide +kernel
theorem dX2_begin_36 : decode cX2_begin 36 = .ok (.iload_n 2, 1) := by decide +kernel
theorem dX2_begin_37 : decode cX2_begin 37 = .ok (.aaload, 1) := by decide +kernel
theorem dX2_begin_38 : decode cX2_begin 38 = .ok (.iconst 0, 1) := by decide +kernel
theorem dX2_begin_39 : decode cX2_begin 39 = .ok (.invokestatic 53, 3) := by decide +kernel
theorem dX2_begin_42 : decode cX2_begin 42 = .ok (.iinc 2 1, 3) := by decide +kernel
theorem dX2_begin_45 : decode cX2_begin 45 = .ok (.goto (-19), 3) := by decide +kernel
theorem dX2_begin_48 : decode cX2_begin 48 = .ok (.return_, 1) := by decide +kernel
theorem dX2_take_0 : decode cX2_take 0 = .ok (.iload_n 2, 1) := by decide +kernel
theorem dX2_take_1 : decode cX2_take 1 = .ok (.istore_n 3, 1) := by decide +kernel
theorem dX2_take_2 : decode cX2_take 2 = .ok (.iconst 0, 1) := by decide +kernel
theorem dX2_take_3 : decode cX2_take 3 = .ok (.istore 4, 2) := by decide +kernel
theorem dX2_take_5 : decode cX2_take 5 = .ok (.iload 4, 2) := by decide +kernel
theorem dX2_take_7 : decode cX2_take 7 = .ok (.aload_n 1, 1) := by decide +kernel
theorem dX2_take_8 : decode cX2_take 8 = .ok (.getfield 59, 3) := by decide +kernel
theorem dX2_take_11 : decode cX2_take 11 = .ok (.if_icmp .ge 76, 3) := by decide +kernel
theorem dX2_take_14 : decode cX2_take 14 = .ok (.iload_n 3, 1) := by decide +kernel
theorem dX2_take_15 : decode cX2_take 15 = .ok (.ifCond .eq 72, 3) := by decide +kernel
theorem dX2_take_18 : decode cX2_take 18 = .ok (.aload_n 1, 1) := by decide +kernel
theorem dX2_take_19 : decode cX2_take 19 = .ok (.iload_n 3, 1) := by decide +kernel
theorem dX2_take_20 : decode cX2_take 20 = .ok (.invokestatic 62, 3) := by decide +kernel
theorem dX2_take_23 : decode cX2_take 23 = .ok (.istore 5, 2) := by decide +kernel
theorem dX2_take_25 : decode cX2_take 25 = .ok (.iload 5, 2) := by decide +kernel
theorem dX2_take_27 : decode cX2_take 27 = .ok (.ifCond .ge 4, 3) := by decide +kernel
theorem dX2_take_30 : decode cX2_take 30 = .ok (.return_, 1) := by decide +kernel
theorem dX2_take_31 : decode cX2_take 31 = .ok (.iload_n 3, 1) := by decide +kernel
theorem dX2_take_32 : decode cX2_take 32 = .ok (.iconst 1, 1) := by decide +kernel
theorem dX2_take_33 : decode cX2_take 33 = .ok (.iload 5, 2) := by decide +kernel
theorem dX2_take_35 : decode cX2_take 35 = .ok (.ishl, 1) := by decide +kernel
theorem dX2_take_36 : decode cX2_take 36 = .ok (.iconst (-1), 1) := by decide +kernel
theorem dX2_take_37 : decode cX2_take 37 = .ok (.ixor, 1) := by decide +kernel
theorem dX2_take_38 : decode cX2_take 38 = .ok (.iand, 1) := by decide +kernel
theorem dX2_take_39 : decode cX2_take 39 = .ok (.istore_n 3, 1) := by decide +kernel
theorem dX2_take_40 : decode cX2_take 40 = .ok (.aload_n 0, 1) := by decide +kernel
theorem dX2_take_41 : decode cX2_take 41 = .ok (.aload_n 1, 1) := by decide +kernel
theorem dX2_take_42 : decode cX2_take 42 = .ok (.getfield 66, 3) := by decide +kernel
theorem dX2_take_45 : decode cX2_take 45 = .ok (.iload 5, 2) := by decide +kernel
theorem dX2_take_47 : decode cX2_take 47 = .ok (.iaload, 1) := by decide +kernel
theorem dX2_take_48 : decode cX2_take 48 = .ok (.invokevirtual 69, 3) := by decide +kernel
theorem dX2_take_51 : decode cX2_take 51 = .ok (.aload_n 1, 1) := by decide +kernel
theorem dX2_take_52 : decode cX2_take 52 = .ok (.getfield 73, 3) := by decide +kernel
theorem dX2_take_55 : decode cX2_take 55 = .ok (.iload 5, 2) := by decide +kernel
theorem dX2_take_57 : decode cX2_take 57 = .ok (.iaload, 1) := by decide +kernel
theorem dX2_take_58 : decode cX2_take 58 = .ok (.if_icmp .lt 23, 3) := by decide +kernel
theorem dX2_take_61 : decode cX2_take 61 = .ok (.aload_n 0, 1) := by decide +kernel
theorem dX2_take_62 : decode cX2_take 62 = .ok (.iload 5, 2) := by decide +kernel
theorem dX2_take_64 : decode cX2_take 64 = .ok (.aload_n 1, 1) := by decide +kernel
theorem dX2_take_65 : decode cX2_take 65 = .ok (.getfield 66, 3) := by decide +kernel
theorem dX2_take_68 : decode cX2_take 68 = .ok (.iload 5, 2) := by decide +kernel
theorem dX2_take_70 : decode cX2_take 70 = .ok (.iaload, 1) := by decide +kernel
theorem dX2_take_71 : decode cX2_take 71 = .ok (.aload_n 1, 1) := by decide +kernel
theorem dX2_take_72 : decode cX2_take 72 = .ok (.getfield 73, 3) := by decide +kernel
theorem dX2_take_75 : decode cX2_take 75 = .ok (.iload 5, 2) := by decide +kernel
theorem dX2_take_77 : decode cX2_take 77 = .ok (.iaload, 1) := by decide +kernel
theorem dX2_take_78 : decode cX2_take 78 = .ok (.invokevirtual 76, 3) := by decide +kernel
theorem dX2_take_81 : decode cX2_take 81 = .ok (.iinc 4 1, 3) := by decide +kernel
theorem dX2_take_84 : decode cX2_take 84 = .ok (.goto (-79), 3) := by decide +kernel
theorem dX2_take_87 : decode cX2_take 87 = .ok (.return_, 1) := by decide +kernel
theorem dX2_first_0 : decode cX2_first 0 = .ok (.iconst (-1), 1) := by decide +kernel
theorem dX2_first_1 : decode cX2_first 1 = .ok (.istore_n 2, 1) := by decide +kernel
theorem dX2_first_2 : decode cX2_first 2 = .ok (.iconst 0, 1) := by decide +kernel
theorem dX2_first_3 : decode cX2_first 3 = .ok (.istore_n 3, 1) := by decide +kernel
theorem dX2_first_4 : decode cX2_first 4 = .ok (.iload_n 3, 1) := by decide +kernel
theorem dX2_first_5 : decode cX2_first 5 = .ok (.aload_n 0, 1) := by decide +kernel
theorem dX2_first_6 : decode cX2_first 6 = .ok (.getfield 59, 3) := by decide +kernel
theorem dX2_first_9 : decode cX2_first 9 = .ok (.if_icmp .ge 32, 3) := by decide +kernel
theorem dX2_first_12 : decode cX2_first 12 = .ok (.iload_n 1, 1) := by decide +kernel
theorem dX2_first_13 : decode cX2_first 13 = .ok (.iload_n 3, 1) := by decide +kernel
theorem dX2_first_14 : decode cX2_first 14 = .ok (.invokestatic 80, 3) := by decide +kernel
theorem dX2_first_17 : decode cX2_first 17 = .ok (.ifCond .eq 18, 3) := by decide +kernel
theorem dX2_first_20 : decode cX2_first 20 = .ok (.iload_n 2, 1) := by decide +kernel
theorem dX2_first_21 : decode cX2_first 21 = .ok (.ifCond .lt 12, 3) := by decide +kernel
theorem dX2_first_24 : decode cX2_first 24 = .ok (.aload_n 0, 1) := by decide +kernel
theorem dX2_first_25 : decode cX2_first 25 = .ok (.iload_n 3, 1) := by decide +kernel
theorem dX2_first_26 : decode cX2_first 26 = .ok (.iload_n 2, 1) := by decide +kernel
theorem dX2_first_27 : decode cX2_first 27 = .ok (.invokevirtual 84, 3) := by decide +kernel
theorem dX2_first_30 : decode cX2_first 30 = .ok (.ifCond .eq 5, 3) := by decide +kernel
theorem dX2_first_33 : decode cX2_first 33 = .ok (.iload_n 3, 1) := by decide +kernel
theorem dX2_first_34 : decode cX2_first 34 = .ok (.istore_n 2, 1) := by decide +kernel
theorem dX2_first_35 : decode cX2_first 35 = .ok (.iinc 3 1, 3) := by decide +kernel
theorem dX2_first_38 : decode cX2_first 38 = .ok (.goto (-34), 3) := by decide +kernel
theorem dX2_first_41 : decode cX2_first 41 = .ok (.iload_n 2, 1) := by decide +kernel
theorem dX2_first_42 : decode cX2_first 42 = .ok (.ireturn, 1) := by decide +kernel
theorem dX2_leftIn_0 : decode cX2_leftIn 0 = .ok (.iconst 0, 1) := by decide +kernel
theorem dX2_leftIn_1 : decode cX2_leftIn 1 = .ok (.istore_n 2, 1) := by decide +kernel
theorem dX2_leftIn_2 : decode cX2_leftIn 2 = .ok (.iconst 0, 1) := by decide +kernel
theorem dX2_leftIn_3 : decode cX2_leftIn 3 = .ok (.istore_n 3, 1) := by decide +kernel
theorem dX2_leftIn_4 : decode cX2_leftIn 4 = .ok (.iload_n 3, 1) := by decide +kernel
theorem dX2_leftIn_5 : decode cX2_leftIn 5 = .ok (.iconst 4, 1) := by decide +kernel
theorem dX2_leftIn_6 : decode cX2_leftIn 6 = .ok (.if_icmp .ge 26, 3) := by decide +kernel
theorem dX2_leftIn_9 : decode cX2_leftIn 9 = .ok (.iload_n 1, 1) := by decide +kernel
theorem dX2_leftIn_10 : decode cX2_leftIn 10 = .ok (.iload_n 3, 1) := by decide +kernel
theorem dX2_leftIn_11 : decode cX2_leftIn 11 = .ok (.invokestatic 80, 3) := by decide +kernel
theorem dX2_leftIn_14 : decode cX2_leftIn 14 = .ok (.ifCond .eq 12, 3) := by decide +kernel
theorem dX2_leftIn_17 : decode cX2_leftIn 17 = .ok (.iload_n 2, 1) := by decide +kernel
theorem dX2_leftIn_18 : decode cX2_leftIn 18 = .ok (.aload_n 0, 1) := by decide +kernel
theorem dX2_leftIn_19 : decode cX2_leftIn 19 = .ok (.getfield 9, 3) := by decide +kernel
theorem dX2_leftIn_22 : decode cX2_leftIn 22 = .ok (.iload_n 3, 1) := by decide +kernel
theorem dX2_leftIn_23 : decode cX2_leftIn 23 = .ok (.iaload, 1) := by decide +kernel
theorem dX2_leftIn_24 : decode cX2_leftIn 24 = .ok (.iadd, 1) := by decide +kernel
theorem dX2_leftIn_25 : decode cX2_leftIn 25 = .ok (.istore_n 2, 1) := by decide +kernel
theorem dX2_leftIn_26 : decode cX2_leftIn 26 = .ok (.iinc 3 1, 3) := by decide +kernel
theorem dX2_leftIn_29 : decode cX2_leftIn 29 = .ok (.goto (-25), 3) := by decide +kernel
theorem dX2_leftIn_32 : decode cX2_leftIn 32 = .ok (.iload_n 2, 1) := by decide +kernel
theorem dX2_leftIn_33 : decode cX2_leftIn 33 = .ok (.ireturn, 1) := by decide +kernel
theorem dX2_fund_0 : decode cX2_fund 0 = .ok (.iload_n 3, 1) := by decide +kernel
theorem dX2_fund_1 : decode cX2_fund 1 = .ok (.istore 4, 2) := by decide +kernel
theorem dX2_fund_3 : decode cX2_fund 3 = .ok (.iconst 0, 1) := by decide +kernel
theorem dX2_fund_4 : decode cX2_fund 4 = .ok (.istore 5, 2) := by decide +kernel
theorem dX2_fund_6 : decode cX2_fund 6 = .ok (.iload 5, 2) := by decide +kernel
theorem dX2_fund_8 : decode cX2_fund 8 = .ok (.iconst 4, 1) := by decide +kernel
theorem dX2_fund_9 : decode cX2_fund 9 = .ok (.if_icmp .ge 65, 3) := by decide +kernel
theorem dX2_fund_12 : decode cX2_fund 12 = .ok (.iload_n 2, 1) := by decide +kernel
theorem dX2_fund_13 : decode cX2_fund 13 = .ok (.iload 5, 2) := by decide +kernel
theorem dX2_fund_15 : decode cX2_fund 15 = .ok (.invokestatic 80, 3) := by decide +kernel
theorem dX2_fund_18 : decode cX2_fund 18 = .ok (.ifCond .eq 50, 3) := by decide +kernel
theorem dX2_fund_21 : decode cX2_fund 21 = .ok (.iload 4, 2) := by decide +kernel
theorem dX2_fund_23 : decode cX2_fund 23 = .ok (.aload_n 0, 1) := by decide +kernel
theorem dX2_fund_24 : decode cX2_fund 24 = .ok (.getfield 9, 3) := by decide +kernel
theorem dX2_fund_27 : decode cX2_fund 27 = .ok (.iload 5, 2) := by decide +kernel
theorem dX2_fund_29 : decode cX2_fund 29 = .ok (.iaload, 1) := by decide +kernel
theorem dX2_fund_30 : decode cX2_fund 30 = .ok (.invokestatic 87, 3) := by decide +kernel
theorem dX2_fund_33 : decode cX2_fund 33 = .ok (.istore 6, 2) := by decide +kernel
theorem dX2_fund_35 : decode cX2_fund 35 = .ok (.aload_n 0, 1) := by decide +kernel
theorem dX2_fund_36 : decode cX2_fund 36 = .ok (.getfield 9, 3) := by decide +kernel
theorem dX2_fund_39 : decode cX2_fund 39 = .ok (.iload 5, 2) := by decide +kernel
theorem dX2_fund_41 : decode cX2_fund 41 = .ok (.dup2, 1) := by decide +kernel
theorem dX2_fund_42 : decode cX2_fund 42 = .ok (.iaload, 1) := by decide +kernel
theorem dX2_fund_43 : decode cX2_fund 43 = .ok (.iload 6, 2) := by decide +kernel
theorem dX2_fund_45 : decode cX2_fund 45 = .ok (.isub, 1) := by decide +kernel
theorem dX2_fund_46 : decode cX2_fund 46 = .ok (.iastore, 1) := by decide +kernel
theorem dX2_fund_47 : decode cX2_fund 47 = .ok (.aload_n 0, 1) := by decide +kernel
theorem dX2_fund_48 : decode cX2_fund 48 = .ok (.getfield 17, 3) := by decide +kernel
theorem dX2_fund_51 : decode cX2_fund 51 = .ok (.iload_n 1, 1) := by decide +kernel
theorem dX2_fund_52 : decode cX2_fund 52 = .ok (.aaload, 1) := by decide +kernel
theorem dX2_fund_53 : decode cX2_fund 53 = .ok (.iload 5, 2) := by decide +kernel
theorem dX2_fund_55 : decode cX2_fund 55 = .ok (.dup2, 1) := by decide +kernel
theorem dX2_fund_56 : decode cX2_fund 56 = .ok (.iaload, 1) := by decide +kernel
theorem dX2_fund_57 : decode cX2_fund 57 = .ok (.iload 6, 2) := by decide +kernel
theorem dX2_fund_59 : decode cX2_fund 59 = .ok (.iadd, 1) := by decide +kernel
theorem dX2_fund_60 : decode cX2_fund 60 = .ok (.iastore, 1) := by decide +kernel
theorem dX2_fund_61 : decode cX2_fund 61 = .ok (.iload 4, 2) := by decide +kernel
theorem dX2_fund_63 : decode cX2_fund 63 = .ok (.iload 6, 2) := by decide +kernel
theorem dX2_fund_65 : decode cX2_fund 65 = .ok (.isub, 1) := by decide +kernel
theorem dX2_fund_66 : decode cX2_fund 66 = .ok (.istore 4, 2) := by decide +kernel
theorem dX2_fund_68 : decode cX2_fund 68 = .ok (.iinc 5 1, 3) := by decide +kernel
theorem dX2_fund_71 : decode cX2_fund 71 = .ok (.goto (-65), 3) := by decide +kernel
theorem dX2_fund_74 : decode cX2_fund 74 = .ok (.aload_n 0, 1) := by decide +kernel
theorem dX2_fund_75 : decode cX2_fund 75 = .ok (.getfield 20, 3) := by decide +kernel
theorem dX2_fund_78 : decode cX2_fund 78 = .ok (.aload_n 0, 1) := by decide +kernel
theorem dX2_fund_79 : decode cX2_fund 79 = .ok (.getfield 37, 3) := by decide +kernel
theorem dX2_fund_82 : decode cX2_fund 82 = .ok (.iload_n 1, 1) := by decide +kernel
theorem dX2_fund_83 : decode cX2_fund 83 = .ok (.iastore, 1) := by decide +kernel
theorem dX2_fund_84 : decode cX2_fund 84 = .ok (.aload_n 0, 1) := by decide +kernel
theorem dX2_fund_85 : decode cX2_fund 85 = .ok (.dup, 1) := by decide +kernel
theorem dX2_fund_86 : decode cX2_fund 86 = .ok (.getfield 37, 3) := by decide +kernel
theorem dX2_fund_89 : decode cX2_fund 89 = .ok (.iconst 1, 1) := by decide +kernel
theorem dX2_fund_90 : decode cX2_fund 90 = .ok (.iadd, 1) := by decide +kernel
theorem dX2_fund_91 : decode cX2_fund 91 = .ok (.putfield 37, 3) := by decide +kernel
theorem dX2_fund_94 : decode cX2_fund 94 = .ok (.aload_n 0, 1) := by decide +kernel
theorem dX2_fund_95 : decode cX2_fund 95 = .ok (.dup, 1) := by decide +kernel
theorem dX2_fund_96 : decode cX2_fund 96 = .ok (.getfield 41, 3) := by decide +kernel
theorem dX2_fund_99 : decode cX2_fund 99 = .ok (.iconst 1, 1) := by decide +kernel
theorem dX2_fund_100 : decode cX2_fund 100 = .ok (.iload_n 1, 1) := by decide +kernel
theorem dX2_fund_101 : decode cX2_fund 101 = .ok (.ishl, 1) := by decide +kernel
theorem dX2_fund_102 : decode cX2_fund 102 = .ok (.ior, 1) := by decide +kernel
theorem dX2_fund_103 : decode cX2_fund 103 = .ok (.putfield 41, 3) := by decide +kernel
theorem dX2_fund_106 : decode cX2_fund 106 = .ok (.return_, 1) := by decide +kernel
theorem dX2_chosenAt_0 : decode cX2_chosenAt 0 = .ok (.iload_n 1, 1) := by decide +kernel
theorem dX2_chosenAt_1 : decode cX2_chosenAt 1 = .ok (.aload_n 0, 1) := by decide +kernel
theorem dX2_chosenAt_2 : decode cX2_chosenAt 2 = .ok (.getfield 37, 3) := by decide +kernel
theorem dX2_chosenAt_5 : decode cX2_chosenAt 5 = .ok (.invokestatic 93, 3) := by decide +kernel
theorem dX2_chosenAt_8 : decode cX2_chosenAt 8 = .ok (.ifCond .eq 12, 3) := by decide +kernel
theorem dX2_chosenAt_11 : decode cX2_chosenAt 11 = .ok (.aload_n 0, 1) := by decide +kernel
theorem dX2_chosenAt_12 : decode cX2_chosenAt 12 = .ok (.getfield 20, 3) := by decide +kernel
theorem dX2_chosenAt_15 : decode cX2_chosenAt 15 = .ok (.iload_n 1, 1) := by decide +kernel
theorem dX2_chosenAt_16 : decode cX2_chosenAt 16 = .ok (.iaload, 1) := by decide +kernel
theorem dX2_chosenAt_17 : decode cX2_chosenAt 17 = .ok (.goto 4, 3) := by decide +kernel
theorem dX2_chosenAt_20 : decode cX2_chosenAt 20 = .ok (.iconst (-1), 1) := by decide +kernel
theorem dX2_chosenAt_21 : decode cX2_chosenAt 21 = .ok (.ireturn, 1) := by decide +kernel
theorem dX3_init_0 : decode cX3_init 0 = .ok (.aload_n 0, 1) := by decide +kernel
theorem dX3_init_1 : decode cX3_init 1 = .ok (.invokespecial 3, 3) := by decide +kernel
theorem dX3_init_4 : decode cX3_init 4 = .ok (.aload_n 0, 1) := by decide +kernel
theorem dX3_init_5 : decode cX3_init 5 = .ok (.bipush 10, 2) := by decide +kernel
theorem dX3_init_7 : decode cX3_init 7 = .ok (.newarray .int, 2) := by decide +kernel
theorem dX3_init_9 : decode cX3_init 9 = .ok (.putfield 9, 3) := by decide +kernel
theorem dX3_init_12 : decode cX3_init 12 = .ok (.aload_n 0, 1) := by decide +kernel
theorem dX3_init_13 : decode cX3_init 13 = .ok (.bipush 10, 2) := by decide +kernel
theorem dX3_init_15 : decode cX3_init 15 = .ok (.newarray .int, 2) := by decide +kernel
theorem dX3_init_17 : decode cX3_init 17 = .ok (.putfield 15, 3) := by decide +kernel
theorem dX3_init_20 : decode cX3_init 20 = .ok (.aload_n 0, 1) := by decide +kernel
theorem dX3_init_21 : decode cX3_init 21 = .ok (.bipush 10, 2) := by decide +kernel
theorem dX3_init_23 : decode cX3_init 23 = .ok (.newarray .int, 2) := by decide +kernel
theorem dX3_init_25 : decode cX3_init 25 = .ok (.putfield 18, 3) := by decide +kernel
theorem dX3_init_28 : decode cX3_init 28 = .ok (.return_, 1) := by decide +kernel
theorem dX3_change_0 : decode cX3_change 0 = .ok (.aload_n 0, 1) := by decide +kernel
theorem dX3_change_1 : decode cX3_change 1 = .ok (.getfield 21, 3) := by decide +kernel
theorem dX3_change_4 : decode cX3_change 4 = .ok (.bipush 10, 2) := by decide +kernel
theorem dX3_change_6 : decode cX3_change 6 = .ok (.if_icmp .ne 7, 3) := by decide +kernel
theorem dX3_change_9 : decode cX3_change 9 = .ok (.aload_n 0, 1) := by decide +kernel
theorem dX3_change_10 : decode cX3_change 10 = .ok (.invokevirtual 25, 3) := by decide +kernel
theorem dX3_change_13 : decode cX3_change 13 = .ok (.aload_n 1, 1) := by decide +kernel
theorem dX3_change_14 : decode cX3_change 14 = .ok (.iload_n 2, 1) := by decide +kernel
theorem dX3_change_15 : decode cX3_change 15 = .ok (.invokestatic 28, 3) := by decide +kernel
theorem dX3_change_18 : decode cX3_change 18 = .ok (.astore 5, 2) := by decide +kernel
theorem dX3_change_20 : decode cX3_change 20 = .ok (.aload 5, 2) := by decide +kernel
theorem dX3_change_22 : decode cX3_change 22 = .ok (.iload_n 3, 1) := by decide +kernel
theorem dX3_change_23 : decode cX3_change 23 = .ok (.iaload, 1) := by decide +kernel
theorem dX3_change_24 : decode cX3_change 24 = .ok (.istore 6, 2) := by decide +kernel
theorem dX3_change_26 : decode cX3_change 26 = .ok (.aload_n 0, 1) := by decide +kernel
theorem dX3_change_27 : decode cX3_change 27 = .ok (.getfield 9, 3) := by decide +kernel
theorem dX3_change_30 : decode cX3_change 30 = .ok (.aload_n 0, 1) := by decide +kernel
theorem dX3_change_31 : decode cX3_change 31 = .ok (.getfield 21, 3) := by decide +kernel
theorem dX3_change_34 : decode cX3_change 34 = .ok (.iload_n 2, 1) := by decide +kernel
theorem dX3_change_35 : decode cX3_change 35 = .ok (.iastore, 1) := by decide +kernel
theorem dX3_change_36 : decode cX3_change 36 = .ok (.aload_n 0, 1) := by decide +kernel
theorem dX3_change_37 : decode cX3_change 37 = .ok (.getfield 15, 3) := by decide +kernel
theorem dX3_change_40 : decode cX3_change 40 = .ok (.aload_n 0, 1) := by decide +kernel
theorem dX3_change_41 : decode cX3_change 41 = .ok (.getfield 21, 3) := by decide +kernel
theorem dX3_change_44 : decode cX3_change 44 = .ok (.iload_n 3, 1) := by decide +kernel
theorem dX3_change_45 : decode cX3_change 45 = .ok (.iastore, 1) := by decide +kernel
theorem dX3_change_46 : decode cX3_change 46 = .ok (.aload_n 0, 1) := by decide +kernel
theorem dX3_change_47 : decode cX3_change 47 = .ok (.getfield 18, 3) := by decide +kernel
theorem dX3_change_50 : decode cX3_change 50 = .ok (.aload_n 0, 1) := by decide +kernel
theorem dX3_change_51 : decode cX3_change 51 = .ok (.getfield 21, 3) := by decide +kernel
theorem dX3_change_54 : decode cX3_change 54 = .ok (.iload 6, 2) := by decide +kernel
theorem dX3_change_56 : decode cX3_change 56 = .ok (.iastore, 1) := by decide +kernel
theorem dX3_change_57 : decode cX3_change 57 = .ok (.aload_n 0, 1) := by decide +kernel
theorem dX3_change_58 : decode cX3_change 58 = .ok (.dup, 1) := by decide +kernel
theorem dX3_change_59 : decode cX3_change 59 = .ok (.getfield 21, 3) := by decide +kernel
theorem dX3_change_62 : decode cX3_change 62 = .ok (.iconst 1, 1) := by decide +kernel
theorem dX3_change_63 : decode cX3_change 63 = .ok (.iadd, 1) := by decide +kernel
theorem dX3_change_64 : decode cX3_change 64 = .ok (.putfield 21, 3) := by decide +kernel
theorem dX3_change_67 : decode cX3_change 67 = .ok (.aload 5, 2) := by decide +kernel
theorem dX3_change_69 : decode cX3_change 69 = .ok (.iload_n 3, 1) := by decide +kernel
theorem dX3_change_70 : decode cX3_change 70 = .ok (.iload 4, 2) := by decide +kernel
theorem dX3_change_72 : decode cX3_change 72 = .ok (.iastore, 1) := by decide +kernel
theorem dX3_change_73 : decode cX3_change 73 = .ok (.iload 6, 2) := by decide +kernel
theorem dX3_change_75 : decode cX3_change 75 = .ok (.ireturn, 1) := by decide +kernel
theorem dX3_undoLatest_0 : decode cX3_undoLatest 0 = .ok (.aload_n 0, 1) := by decide +kernel
theorem dX3_undoLatest_1 : decode cX3_undoLatest 1 = .ok (.getfield 21, 3) := by decide +kernel
theorem dX3_undoLatest_4 : decode cX3_undoLatest 4 = .ok (.ifCond .le 45, 3) := by decide +kernel
theorem dX3_undoLatest_7 : decode cX3_undoLatest 7 = .ok (.aload_n 0, 1) := by decide +kernel
theorem dX3_undoLatest_8 : decode cX3_undoLatest 8 = .ok (.dup, 1) := by decide +kernel
theorem dX3_undoLatest_9 : decode cX3_undoLatest 9 = .ok (.getfield 21, 3) := by decide +kernel
theorem dX3_undoLatest_12 : decode cX3_undoLatest 12 = .ok (.iconst 1, 1) := by decide +kernel
theorem dX3_undoLatest_13 : decode cX3_undoLatest 13 = .ok (.isub, 1) := by decide +kernel
theorem dX3_undoLatest_14 : decode cX3_undoLatest 14 = .ok (.putfield 21, 3) := by decide +kernel
theorem dX3_undoLatest_17 : decode cX3_undoLatest 17 = .ok (.aload_n 1, 1) := by decide +kernel
theorem dX3_undoLatest_18 : decode cX3_undoLatest 18 = .ok (.aload_n 0, 1) := by decide +kernel
theorem dX3_undoLatest_19 : decode cX3_undoLatest 19 = .ok (.getfield 9, 3) := by decide +kernel
theorem dX3_undoLatest_22 : decode cX3_undoLatest 22 = .ok (.aload_n 0, 1) := by decide +kernel
theorem dX3_undoLatest_23 : decode cX3_undoLatest 23 = .ok (.getfield 21, 3) := by decide +kernel
theorem dX3_undoLatest_26 : decode cX3_undoLatest 26 = .ok (.iaload, 1) := by decide +kernel
theorem dX3_undoLatest_27 : decode cX3_undoLatest 27 = .ok (.invokestatic 28, 3) := by decide +kernel
theorem dX3_undoLatest_30 : decode cX3_undoLatest 30 = .ok (.aload_n 0, 1) := by decide +kernel
theorem dX3_undoLatest_31 : decode cX3_undoLatest 31 = .ok (.getfield 15, 3) := by decide +kernel
theorem dX3_undoLatest_34 : decode cX3_undoLatest 34 = .ok (.aload_n 0, 1) := by decide +kernel
theorem dX3_undoLatest_35 : decode cX3_undoLatest 35 = .ok (.getfield 21, 3) := by decide +kernel
theorem dX3_undoLatest_38 : decode cX3_undoLatest 38 = .ok (.iaload, 1) := by decide +kernel
theorem dX3_undoLatest_39 : decode cX3_undoLatest 39 = .ok (.aload_n 0, 1) := by decide +kernel
theorem dX3_undoLatest_40 : decode cX3_undoLatest 40 = .ok (.getfield 18, 3) := by decide +kernel
theorem dX3_undoLatest_43 : decode cX3_undoLatest 43 = .ok (.aload_n 0, 1) := by decide +kernel
theorem dX3_undoLatest_44 : decode cX3_undoLatest 44 = .ok (.getfield 21, 3) := by decide +kernel
theorem dX3_undoLatest_47 : decode cX3_undoLatest 47 = .ok (.iaload, 1) := by decide +kernel
theorem dX3_undoLatest_48 : decode cX3_undoLatest 48 = .ok (.iastore, 1) := by decide +kernel
theorem dX3_undoLatest_49 : decode cX3_undoLatest 49 = .ok (.return_, 1) := by decide +kernel
theorem dX3_forgetOldest_0 : decode cX3_forgetOldest 0 = .ok (.aload_n 0, 1) := by decide +kernel
theorem dX3_forgetOldest_1 : decode cX3_forgetOldest 1 = .ok (.bipush 9, 2) := by decide +kernel
theorem dX3_forgetOldest_3 : decode cX3_forgetOldest 3 = .ok (.putfield 21, 3) := by decide +kernel
theorem dX3_forgetOldest_6 : decode cX3_forgetOldest 6 = .ok (.aload_n 0, 1) := by decide +kernel
theorem dX3_forgetOldest_7 : decode cX3_forgetOldest 7 = .ok (.getfield 9, 3) := by decide +kernel
theorem dX3_forgetOldest_10 : decode cX3_forgetOldest 10 = .ok (.iconst 1, 1) := by decide +kernel
theorem dX3_forgetOldest_11 : decode cX3_forgetOldest 11 = .ok (.aload_n 0, 1) := by decide +kernel
theorem dX3_forgetOldest_12 : decode cX3_forgetOldest 12 = .ok (.getfield 9, 3) := by decide +kernel
theorem dX3_forgetOldest_15 : decode cX3_forgetOldest 15 = .ok (.iconst 0, 1) := by decide +kernel
theorem dX3_forgetOldest_16 : decode cX3_forgetOldest 16 = .ok (.aload_n 0, 1) := by decide +kernel
theorem dX3_forgetOldest_17 : decode cX3_forgetOldest 17 = .ok (.getfield 21, 3) := by decide +kernel
theorem dX3_forgetOldest_20 : decode cX3_forgetOldest 20 = .ok (.invokestatic 32, 3) := by decide +kernel
theorem dX3_forgetOldest_23 : decode cX3_forgetOldest 23 = .ok (.aload_n 0, 1) := by decide +kernel
theorem dX3_forgetOldest_24 : decode cX3_forgetOldest 24 = .ok (.getfield 15, 3) := by decide +kernel
theorem dX3_forgetOldest_27 : decode cX3_forgetOldest 27 = .ok (.iconst 1, 1) := by decide +kernel
theorem dX3_forgetOldest_28 : decode cX3_forgetOldest 28 = .ok (.aload_n 0, 1) := by decide +kernel
theorem dX3_forgetOldest_29 : decode cX3_forgetOldest 29 = .ok (.getfield 15, 3) := by decide +kernel
theorem dX3_forgetOldest_32 : decode cX3_forgetOldest 32 = .ok (.iconst 0, 1) := by decide +kernel
theorem dX3_forgetOldest_33 : decode cX3_forgetOldest 33 = .ok (.aload_n 0, 1) := by decide +kernel
theorem dX3_forgetOldest_34 : decode cX3_forgetOldest 34 = .ok (.getfield 21, 3) := by decide +kernel
theorem dX3_forgetOldest_37 : decode cX3_forgetOldest 37 = .ok (.invokestatic 32, 3) := by decide +kernel
theorem dX3_forgetOldest_40 : decode cX3_forgetOldest 40 = .ok (.aload_n 0, 1) := by decide +kernel
theorem dX3_forgetOldest_41 : decode cX3_forgetOldest 41 = .ok (.getfield 18, 3) := by decide +kernel
theorem dX3_forgetOldest_44 : decode cX3_forgetOldest 44 = .ok (.iconst 1, 1) := by decide +kernel
theorem dX3_forgetOldest_45 : decode cX3_forgetOldest 45 = .ok (.aload_n 0, 1) := by decide +kernel
theorem dX3_forgetOldest_46 : decode cX3_forgetOldest 46 = .ok (.getfield 18, 3) := by decide +kernel
theorem dX3_forgetOldest_49 : decode cX3_forgetOldest 49 = .ok (.iconst 0, 1) := by decide +kernel
theorem dX3_forgetOldest_50 : decode cX3_forgetOldest 50 = .ok (.aload_n 0, 1) := by decide +kernel
theorem dX3_forgetOldest_51 : decode cX3_forgetOldest 51 = .ok (.getfield 21, 3) := by decide +kernel
theorem dX3_forgetOldest_54 : decode cX3_forgetOldest 54 = .ok (.invokestatic 32, 3) := by decide +kernel
theorem dX3_forgetOldest_57 : decode cX3_forgetOldest 57 = .ok (.return_, 1) := by decide +kernel
theorem dX3_row_0 : decode cX3_row 0 = .ok (.iload_n 1, 1) := by decide +kernel
theorem dX3_row_1 : decode cX3_row 1 = .ok (.tableswitch 60 0 4 #[35, 40, 45, 50, 55], 35) := by decide +kernel
theorem dX3_row_36 : decode cX3_row 36 = .ok (.aload_n 0, 1) := by decide +kernel
theorem dX3_row_37 : decode cX3_row 37 = .ok (.getfield 38, 3) := by decide +kernel
theorem dX3_row_40 : decode cX3_row 40 = .ok (.areturn, 1) := by decide +kernel
theorem dX3_row_41 : decode cX3_row 41 = .ok (.aload_n 0, 1) := by decide +kernel
theorem dX3_row_42 : decode cX3_row 42 = .ok (.getfield 43, 3) := by decide +kernel
theorem dX3_row_45 : decode cX3_row 45 = .ok (.areturn, 1) := by decide +kernel
theorem dX3_row_46 : decode cX3_row 46 = .ok (.aload_n 0, 1) := by decide +kernel
theorem dX3_row_47 : decode cX3_row 47 = .ok (.getfield 46, 3) := by decide +kernel
theorem dX3_row_50 : decode cX3_row 50 = .ok (.areturn, 1) := by decide +kernel
theorem dX3_row_51 : decode cX3_row 51 = .ok (.aload_n 0, 1) := by decide +kernel
theorem dX3_row_52 : decode cX3_row 52 = .ok (.getfield 49, 3) := by decide +kernel
theorem dX3_row_55 : decode cX3_row 55 = .ok (.areturn, 1) := by decide +kernel
theorem dX3_row_56 : decode cX3_row 56 = .ok (.aload_n 0, 1) := by decide +kernel
theorem dX3_row_57 : decode cX3_row 57 = .ok (.getfield 52, 3) := by decide +kernel
theorem dX3_row_60 : decode cX3_row 60 = .ok (.areturn, 1) := by decide +kernel
theorem dX3_row_61 : decode cX3_row 61 = .ok (.aload_n 0, 1) := by decide +kernel
theorem dX3_row_62 : decode cX3_row 62 = .ok (.getfield 55, 3) := by decide +kernel
theorem dX3_row_65 : decode cX3_row 65 = .ok (.areturn, 1) := by decide +kernel
theorem dX4_init_0 : decode cX4_init 0 = .ok (.aload_n 0, 1) := by decide +kernel
theorem dX4_init_1 : decode cX4_init 1 = .ok (.invokespecial 3, 3) := by decide +kernel
theorem dX4_init_4 : decode cX4_init 4 = .ok (.aload_n 0, 1) := by decide +kernel
theorem dX4_init_5 : decode cX4_init 5 = .ok (.sipush 4096, 3) := by decide +kernel
theorem dX4_init_8 : decode cX4_init 8 = .ok (.newarray .int, 2) := by decide +kernel
theorem dX4_init_10 : decode cX4_init 10 = .ok (.putfield 9, 3) := by decide +kernel
theorem dX4_init_13 : decode cX4_init 13 = .ok (.aload_n 0, 1) := by decide +kernel
theorem dX4_init_14 : decode cX4_init 14 = .ok (.sipush 4096, 3) := by decide +kernel
theorem dX4_init_17 : decode cX4_init 17 = .ok (.newarray .int, 2) := by decide +kernel
theorem dX4_init_19 : decode cX4_init 19 = .ok (.putfield 15, 3) := by decide +kernel
theorem dX4_init_22 : decode cX4_init 22 = .ok (.aload_n 0, 1) := by decide +kernel
theorem dX4_init_23 : decode cX4_init 23 = .ok (.bipush 16, 2) := by decide +kernel
theorem dX4_init_25 : decode cX4_init 25 = .ok (.newarray .int, 2) := by decide +kernel
theorem dX4_init_27 : decode cX4_init 27 = .ok (.putfield 18, 3) := by decide +kernel
theorem dX4_init_30 : decode cX4_init 30 = .ok (.aload_n 0, 1) := by decide +kernel
theorem dX4_init_31 : decode cX4_init 31 = .ok (.bipush 16, 2) := by decide +kernel
theorem dX4_init_33 : decode cX4_init 33 = .ok (.newarray .int, 2) := by decide +kernel
theorem dX4_init_35 : decode cX4_init 35 = .ok (.putfield 21, 3) := by decide +kernel
theorem dX4_init_38 : decode cX4_init 38 = .ok (.aload_n 0, 1) := by decide +kernel
theorem dX4_init_39 : decode cX4_init 39 = .ok (.iconst 1, 1) := by decide +kernel
theorem dX4_init_40 : decode cX4_init 40 = .ok (.putfield 24, 3) := by decide +kernel
theorem dX4_init_43 : decode cX4_init 43 = .ok (.aload_n 0, 1) := by decide +kernel
theorem dX4_init_44 : decode cX4_init 44 = .ok (.iconst 1, 1) := by decide +kernel
theorem dX4_init_45 : decode cX4_init 45 = .ok (.putfield 28, 3) := by decide +kernel
theorem dX4_init_48 : decode cX4_init 48 = .ok (.return_, 1) := by decide +kernel
theorem dX4_prepare_0 : decode cX4_prepare 0 = .ok (.aload_n 0, 1) := by decide +kernel
theorem dX4_prepare_1 : decode cX4_prepare 1 = .ok (.iconst 1, 1) := by decide +kernel
theorem dX4_prepare_2 : decode cX4_prepare 2 = .ok (.aload_n 1, 1) := by decide +kernel
theorem dX4_prepare_3 : decode cX4_prepare 3 = .ok (.getfield 31, 3) := by decide +kernel
theorem dX4_prepare_6 : decode cX4_prepare 6 = .ok (.ishl, 1) := by decide +kernel
theorem dX4_prepare_7 : decode cX4_prepare 7 = .ok (.putfield 24, 3) := by decide +kernel
theorem dX4_prepare_10 : decode cX4_prepare 10 = .ok (.aload_n 0, 1) := by decide +kernel
theorem dX4_prepare_11 : decode cX4_prepare 11 = .ok (.iconst 1, 1) := by decide +kernel
theorem dX4_prepare_12 : decode cX4_prepare 12 = .ok (.aload_n 1, 1) := by decide +kernel
theorem dX4_prepare_13 : decode cX4_prepare 13 = .ok (.getfield 36, 3) := by decide +kernel
theorem dX4_prepare_16 : decode cX4_prepare 16 = .ok (.ishl, 1) := by decide +kernel
theorem dX4_prepare_17 : decode cX4_prepare 17 = .ok (.putfield 28, 3) := by decide +kernel
theorem dX4_prepare_20 : decode cX4_prepare 20 = .ok (.iconst 0, 1) := by decide +kernel
theorem dX4_prepare_21 : decode cX4_prepare 21 = .ok (.istore_n 2, 1) := by decide +kernel
theorem dX4_prepare_22 : decode cX4_prepare 22 = .ok (.iload_n 2, 1) := by decide +kernel
theorem dX4_prepare_23 : decode cX4_prepare 23 = .ok (.aload_n 1, 1) := by decide +kernel
theorem dX4_prepare_24 : decode cX4_prepare 24 = .ok (.getfield 31, 3) := by decide +kernel
theorem dX4_prepare_27 : decode cX4_prepare 27 = .ok (.if_icmp .ge 84, 3) := by decide +kernel
theorem dX4_prepare_30 : decode cX4_prepare 30 = .ok (.aload_n 1, 1) := by decide +kernel
theorem dX4_prepare_31 : decode cX4_prepare 31 = .ok (.getfield 39, 3) := by decide +kernel
theorem dX4_prepare_34 : decode cX4_prepare 34 = .ok (.iload_n 2, 1) := by decide +kernel
theorem dX4_prepare_35 : decode cX4_prepare 35 = .ok (.iaload, 1) := by decide +kernel
theorem dX4_prepare_36 : decode cX4_prepare 36 = .ok (.aload_n 1, 1) := by decide +kernel
theorem dX4_prepare_37 : decode cX4_prepare 37 = .ok (.iload_n 2, 1) := by decide +kernel
theorem dX4_prepare_38 : decode cX4_prepare 38 = .ok (.invokevirtual 42, 3) := by decide +kernel
theorem dX4_prepare_41 : decode cX4_prepare 41 = .ok (.imul, 1) := by decide +kernel
theorem dX4_prepare_42 : decode cX4_prepare 42 = .ok (.istore_n 3, 1) := by decide +kernel
theorem dX4_prepare_43 : decode cX4_prepare 43 = .ok (.iconst 0, 1) := by decide +kernel
theorem dX4_prepare_44 : decode cX4_prepare 44 = .ok (.istore 4, 2) := by decide +kernel
theorem dX4_prepare_46 : decode cX4_prepare 46 = .ok (.iload 4, 2) := by decide +kernel
theorem dX4_prepare_48 : decode cX4_prepare 48 = .ok (.iconst 1, 1) := by decide +kernel
theorem dX4_prepare_49 : decode cX4_prepare 49 = .ok (.iload_n 2, 1) := by decide +kernel
theorem dX4_prepare_50 : decode cX4_prepare 50 = .ok (.ishl, 1) := by decide +kernel
theorem dX4_prepare_51 : decode cX4_prepare 51 = .ok (.if_icmp .ge 54, 3) := by decide +kernel
theorem dX4_prepare_54 : decode cX4_prepare 54 = .ok (.aload_n 0, 1) := by decide +kernel
theorem dX4_prepare_55 : decode cX4_prepare 55 = .ok (.getfield 9, 3) := by decide +kernel
theorem dX4_prepare_58 : decode cX4_prepare 58 = .ok (.iload 4, 2) := by decide +kernel
theorem dX4_prepare_60 : decode cX4_prepare 60 = .ok (.iconst 1, 1) := by decide +kernel
theorem dX4_prepare_61 : decode cX4_prepare 61 = .ok (.iload_n 2, 1) := by decide +kernel
theorem dX4_prepare_62 : decode cX4_prepare 62 = .ok (.ishl, 1) := by decide +kernel
theorem dX4_prepare_63 : decode cX4_prepare 63 = .ok (.ior, 1) := by decide +kernel
theorem dX4_prepare_64 : decode cX4_prepare 64 = .ok (.aload_n 0, 1) := by decide +kernel
theorem dX4_prepare_65 : decode cX4_prepare 65 = .ok (.getfield 9, 3) := by decide +kernel
theorem dX4_prepare_68 : decode cX4_prepare 68 = .ok (.iload 4, 2) := by decide +kernel
theorem dX4_prepare_70 : decode cX4_prepare 70 = .ok (.iaload, 1) := by decide +kernel
theorem dX4_prepare_71 : decode cX4_prepare 71 = .ok (.iload_n 3, 1) := by decide +kernel
theorem dX4_prepare_72 : decode cX4_prepare 72 = .ok (.iadd, 1) := by decide +kernel
theorem dX4_prepare_73 : decode cX4_prepare 73 = .ok (.iastore, 1) := by decide +kernel
theorem dX4_prepare_74 : decode cX4_prepare 74 = .ok (.aload_n 0, 1) := by decide +kernel
theorem dX4_prepare_75 : decode cX4_prepare 75 = .ok (.getfield 15, 3) := by decide +kernel
theorem dX4_prepare_78 : decode cX4_prepare 78 = .ok (.iload 4, 2) := by decide +kernel
theorem dX4_prepare_80 : decode cX4_prepare 80 = .ok (.iconst 1, 1) := by decide +kernel
theorem dX4_prepare_81 : decode cX4_prepare 81 = .ok (.iload_n 2, 1) := by decide +kernel
theorem dX4_prepare_82 : decode cX4_prepare 82 = .ok (.ishl, 1) := by decide +kernel
theorem dX4_prepare_83 : decode cX4_prepare 83 = .ok (.ior, 1) := by decide +kernel
theorem dX4_prepare_84 : decode cX4_prepare 84 = .ok (.aload_n 0, 1) := by decide +kernel
theorem dX4_prepare_85 : decode cX4_prepare 85 = .ok (.getfield 15, 3) := by decide +kernel
theorem dX4_prepare_88 : decode cX4_prepare 88 = .ok (.iload 4, 2) := by decide +kernel
theorem dX4_prepare_90 : decode cX4_prepare 90 = .ok (.iaload, 1) := by decide +kernel
theorem dX4_prepare_91 : decode cX4_prepare 91 = .ok (.aload_n 1, 1) := by decide +kernel
theorem dX4_prepare_92 : decode cX4_prepare 92 = .ok (.getfield 46, 3) := by decide +kernel
theorem dX4_prepare_95 : decode cX4_prepare 95 = .ok (.iload_n 2, 1) := by decide +kernel
theorem dX4_prepare_96 : decode cX4_prepare 96 = .ok (.iaload, 1) := by decide +kernel
theorem dX4_prepare_97 : decode cX4_prepare 97 = .ok (.iadd, 1) := by decide +kernel
theorem dX4_prepare_98 : decode cX4_prepare 98 = .ok (.iastore, 1) := by decide +kernel
theorem dX4_prepare_99 : decode cX4_prepare 99 = .ok (.iinc 4 1, 3) := by decide +kernel
theorem dX4_prepare_102 : decode cX4_prepare 102 = .ok (.goto (-56), 3) := by decide +kernel
theorem dX4_prepare_105 : decode cX4_prepare 105 = .ok (.iinc 2 1, 3) := by decide +kernel
theorem dX4_prepare_108 : decode cX4_prepare 108 = .ok (.goto (-86), 3) := by decide +kernel
theorem dX4_prepare_111 : decode cX4_prepare 111 = .ok (.iconst 0, 1) := by decide +kernel
theorem dX4_prepare_112 : decode cX4_prepare 112 = .ok (.istore_n 2, 1) := by decide +kernel
theorem dX4_prepare_113 : decode cX4_prepare 113 = .ok (.iload_n 2, 1) := by decide +kernel
theorem dX4_prepare_114 : decode cX4_prepare 114 = .ok (.aload_n 1, 1) := by decide +kernel
theorem dX4_prepare_115 : decode cX4_prepare 115 = .ok (.getfield 36, 3) := by decide +kernel
theorem dX4_prepare_118 : decode cX4_prepare 118 = .ok (.if_icmp .ge 47, 3) := by decide +kernel
theorem dX4_prepare_121 : decode cX4_prepare 121 = .ok (.iconst 0, 1) := by decide +kernel
theorem dX4_prepare_122 : decode cX4_prepare 122 = .ok (.istore_n 3, 1) := by decide +kernel
theorem dX4_prepare_123 : decode cX4_prepare 123 = .ok (.iload_n 3, 1) := by decide +kernel
theorem dX4_prepare_124 : decode cX4_prepare 124 = .ok (.iconst 1, 1) := by decide +kernel
theorem dX4_prepare_125 : decode cX4_prepare 125 = .ok (.iload_n 2, 1) := by decide +kernel
theorem dX4_prepare_126 : decode cX4_prepare 126 = .ok (.ishl, 1) := by decide +kernel
theorem dX4_prepare_127 : decode cX4_prepare 127 = .ok (.if_icmp .ge 32, 3) := by decide +kernel
theorem dX4_prepare_130 : decode cX4_prepare 130 = .ok (.aload_n 0, 1) := by decide +kernel
theorem dX4_prepare_131 : decode cX4_prepare 131 = .ok (.getfield 21, 3) := by decide +kernel
theorem dX4_prepare_134 : decode cX4_prepare 134 = .ok (.iload_n 3, 1) := by decide +kernel
theorem dX4_prepare_135 : decode cX4_prepare 135 = .ok (.iconst 1, 1) := by decide +kernel
theorem dX4_prepare_136 : decode cX4_prepare 136 = .ok (.iload_n 2, 1) := by decide +kernel
theorem dX4_prepare_137 : decode cX4_prepare 137 = .ok (.ishl, 1) := by decide +kernel
theorem dX4_prepare_138 : decode cX4_prepare 138 = .ok (.ior, 1) := by decide +kernel
theorem dX4_prepare_139 : decode cX4_prepare 139 = .ok (.aload_n 0, 1) := by decide +kernel
theorem dX4_prepare_140 : decode cX4_prepare 140 = .ok (.getfield 21, 3) := by decide +kernel
theorem dX4_prepare_143 : decode cX4_prepare 143 = .ok (.iload_n 3, 1) := by decide +kernel
theorem dX4_prepare_144 : decode cX4_prepare 144 = .ok (.iaload, 1) := by decide +kernel
theorem dX4_prepare_145 : decode cX4_prepare 145 = .ok (.aload_n 1, 1) := by decide +kernel
theorem dX4_prepare_146 : decode cX4_prepare 146 = .ok (.getfield 47, 3) := by decide +kernel
theorem dX4_prepare_149 : decode cX4_prepare 149 = .ok (.iload_n 2, 1) := by decide +kernel
theorem dX4_prepare_150 : decode cX4_prepare 150 = .ok (.iaload, 1) := by decide +kernel
theorem dX4_prepare_151 : decode cX4_prepare 151 = .ok (.iadd, 1) := by decide +kernel
theorem dX4_prepare_152 : decode cX4_prepare 152 = .ok (.iastore, 1) := by decide +kernel
theorem dX4_prepare_153 : decode cX4_prepare 153 = .ok (.iinc 3 1, 3) := by decide +kernel
theorem dX4_prepare_156 : decode cX4_prepare 156 = .ok (.goto (-33), 3) := by decide +kernel
theorem dX4_prepare_159 : decode cX4_prepare 159 = .ok (.iinc 2 1, 3) := by decide +kernel
theorem dX4_prepare_162 : decode cX4_prepare 162 = .ok (.goto (-49), 3) := by decide +kernel
theorem dX4_prepare_165 : decode cX4_prepare 165 = .ok (.iconst 0, 1) := by decide +kernel
theorem dX4_prepare_166 : decode cX4_prepare 166 = .ok (.istore_n 2, 1) := by decide +kernel
theorem dX4_prepare_167 : decode cX4_prepare 167 = .ok (.iload_n 2, 1) := by decide +kernel
theorem dX4_prepare_168 : decode cX4_prepare 168 = .ok (.aload_n 0, 1) := by decide +kernel
theorem dX4_prepare_169 : decode cX4_prepare 169 = .ok (.getfield 28, 3) := by decide +kernel
theorem dX4_prepare_172 : decode cX4_prepare 172 = .ok (.if_icmp .ge 20, 3) := by decide +kernel
theorem dX4_prepare_175 : decode cX4_prepare 175 = .ok (.aload_n 0, 1) := by decide +kernel
theorem dX4_prepare_176 : decode cX4_prepare 176 = .ok (.getfield 18, 3) := by decide +kernel
theorem dX4_prepare_179 : decode cX4_prepare 179 = .ok (.iload_n 2, 1) := by decide +kernel
theorem dX4_prepare_180 : decode cX4_prepare 180 = .ok (.aload_n 1, 1) := by decide +kernel
theorem dX4_prepare_181 : decode cX4_prepare 181 = .ok (.iload_n 2, 1) := by decide +kernel
theorem dX4_prepare_182 : decode cX4_prepare 182 = .ok (.invokestatic 48, 3) := by decide +kernel
theorem dX4_prepare_185 : decode cX4_prepare 185 = .ok (.iastore, 1) := by decide +kernel
theorem dX4_prepare_186 : decode cX4_prepare 186 = .ok (.iinc 2 1, 3) := by decide +kernel
theorem dX4_prepare_189 : decode cX4_prepare 189 = .ok (.goto (-22), 3) := by decide +kernel
theorem dX4_prepare_192 : decode cX4_prepare 192 = .ok (.return_, 1) := by decide +kernel
theorem dX4_projectsWithin_0 : decode cX4_projectsWithin 0 = .ok (.iconst 0, 1) := by decide +kernel
theorem dX4_projectsWithin_1 : decode cX4_projectsWithin 1 = .ok (.istore_n 2, 1) := by decide +kernel
theorem dX4_projectsWithin_2 : decode cX4_projectsWithin 2 = .ok (.iconst 0, 1) := by decide +kernel
theorem dX4_projectsWithin_3 : decode cX4_projectsWithin 3 = .ok (.istore_n 3, 1) := by decide +kernel
theorem dX4_projectsWithin_4 : decode cX4_projectsWithin 4 = .ok (.iload_n 3, 1) := by decide +kernel
theorem dX4_projectsWithin_5 : decode cX4_projectsWithin 5 = .ok (.aload_n 0, 1) := by decide +kernel
theorem dX4_projectsWithin_6 : decode cX4_projectsWithin 6 = .ok (.getfield 31, 3) := by decide +kernel
theorem dX4_projectsWithin_9 : decode cX4_projectsWithin 9 = .ok (.if_icmp .ge 28, 3) := by decide +kernel
theorem dX4_projectsWithin_12 : decode cX4_projectsWithin 12 = .ok (.aload_n 0, 1) := by decide +kernel
theorem dX4_projectsWithin_13 : decode cX4_projectsWithin 13 = .ok (.getfield 52, 3) := by decide +kernel
theorem dX4_projectsWithin_16 : decode cX4_projectsWithin 16 = .ok (.iload_n 3, 1) := by decide +kernel
theorem dX4_projectsWithin_17 : decode cX4_projectsWithin 17 = .ok (.iaload, 1) := by decide +kernel
theorem dX4_projectsWithin_18 : decode cX4_projectsWithin 18 = .ok (.iload_n 1, 1) := by decide +kernel
theorem dX4_projectsWithin_19 : decode cX4_projectsWithin 19 = .ok (.iconst (-1), 1) := by decide +kernel
theorem dX4_projectsWithin_20 : decode cX4_projectsWithin 20 = .ok (.ixor, 1) := by decide +kernel
theorem dX4_projectsWithin_21 : decode cX4_projectsWithin 21 = .ok (.iand, 1) := by decide +kernel
theorem dX4_projectsWithin_22 : decode cX4_projectsWithin 22 = .ok (.ifCond .ne 9, 3) := by decide +kernel
theorem dX4_projectsWithin_25 : decode cX4_projectsWithin 25 = .ok (.iload_n 2, 1) := by decide +kernel
theorem dX4_projectsWithin_26 : decode cX4_projectsWithin 26 = .ok (.iconst 1, 1) := by decide +kernel
theorem dX4_projectsWithin_27 : decode cX4_projectsWithin 27 = .ok (.iload_n 3, 1) := by decide +kernel
theorem dX4_projectsWithin_28 : decode cX4_projectsWithin 28 = .ok (.ishl, 1) := by decide +kernel
theorem dX4_projectsWithin_29 : decode cX4_projectsWithin 29 = .ok (.ior, 1) := by decide +kernel
theorem dX4_projectsWithin_30 : decode cX4_projectsWithin 30 = .ok (.istore_n 2, 1) := by decide +kernel
theorem dX4_projectsWithin_31 : decode cX4_projectsWithin 31 = .ok (.iinc 3 1, 3) := by decide +kernel
theorem dX4_projectsWithin_34 : decode cX4_projectsWithin 34 = .ok (.goto (-30), 3) := by decide +kernel
theorem dX4_projectsWithin_37 : decode cX4_projectsWithin 37 = .ok (.iload_n 2, 1) := by decide +kernel
theorem dX4_projectsWithin_38 : decode cX4_projectsWithin 38 = .ok (.ireturn, 1) := by decide +kernel
theorem dX4_canPay_0 : decode cX4_canPay 0 = .ok (.iconst 0, 1) := by decide +kernel
theorem dX4_canPay_1 : decode cX4_canPay 1 = .ok (.istore_n 2, 1) := by decide +kernel
theorem dX4_canPay_2 : decode cX4_canPay 2 = .ok (.iload_n 2, 1) := by decide +kernel
theorem dX4_canPay_3 : decode cX4_canPay 3 = .ok (.aload_n 0, 1) := by decide +kernel
theorem dX4_canPay_4 : decode cX4_canPay 4 = .ok (.getfield 28, 3) := by decide +kernel
theorem dX4_canPay_7 : decode cX4_canPay 7 = .ok (.if_icmp .ge 33, 3) := by decide +kernel
theorem dX4_canPay_10 : decode cX4_canPay 10 = .ok (.aload_n 0, 1) := by decide +kernel
theorem dX4_canPay_11 : decode cX4_canPay 11 = .ok (.getfield 15, 3) := by decide +kernel
theorem dX4_canPay_14 : decode cX4_canPay 14 = .ok (.iload_n 1, 1) := by decide +kernel
theorem dX4_canPay_15 : decode cX4_canPay 15 = .ok (.aload_n 0, 1) := by decide +kernel
theorem dX4_canPay_16 : decode cX4_canPay 16 = .ok (.getfield 18, 3) := by decide +kernel
theorem dX4_canPay_19 : decode cX4_canPay 19 = .ok (.iload_n 2, 1) := by decide +kernel
theorem dX4_canPay_20 : decode cX4_canPay 20 = .ok (.iaload, 1) := by decide +kernel
theorem dX4_canPay_21 : decode cX4_canPay 21 = .ok (.iand, 1) := by decide +kernel
theorem dX4_canPay_22 : decode cX4_canPay 22 = .ok (.iaload, 1) := by decide +kernel
theorem dX4_canPay_23 : decode cX4_canPay 23 = .ok (.aload_n 0, 1) := by decide +kernel
theorem dX4_canPay_24 : decode cX4_canPay 24 = .ok (.getfield 21, 3) := by decide +kernel
theorem dX4_canPay_27 : decode cX4_canPay 27 = .ok (.iload_n 2, 1) := by decide +kernel
theorem dX4_canPay_28 : decode cX4_canPay 28 = .ok (.iaload, 1) := by decide +kernel
theorem dX4_canPay_29 : decode cX4_canPay 29 = .ok (.if_icmp .le 5, 3) := by decide +kernel
theorem dX4_canPay_32 : decode cX4_canPay 32 = .ok (.iconst 0, 1) := by decide +kernel
theorem dX4_canPay_33 : decode cX4_canPay 33 = .ok (.ireturn, 1) := by decide +kernel
theorem dX4_canPay_34 : decode cX4_canPay 34 = .ok (.iinc 2 1, 3) := by decide +kernel
theorem dX4_canPay_37 : decode cX4_canPay 37 = .ok (.goto (-35), 3) := by decide +kernel
theorem dX4_canPay_40 : decode cX4_canPay 40 = .ok (.iconst 1, 1) := by decide +kernel
theorem dX4_canPay_41 : decode cX4_canPay 41 = .ok (.ireturn, 1) := by decide +kernel
theorem dX4_best_0 : decode cX4_best 0 = .ok (.iconst 0, 1) := by decide +kernel
theorem dX4_best_1 : decode cX4_best 1 = .ok (.istore_n 2, 1) := by decide +kernel
theorem dX4_best_2 : decode cX4_best 2 = .ok (.iconst 1, 1) := by decide +kernel
theorem dX4_best_3 : decode cX4_best 3 = .ok (.istore_n 3, 1) := by decide +kernel
theorem dX4_best_4 : decode cX4_best 4 = .ok (.iload_n 3, 1) := by decide +kernel
theorem dX4_best_5 : decode cX4_best 5 = .ok (.aload_n 0, 1) := by decide +kernel
theorem dX4_best_6 : decode cX4_best 6 = .ok (.getfield 24, 3) := by decide +kernel
theorem dX4_best_9 : decode cX4_best 9 = .ok (.if_icmp .ge 82, 3) := by decide +kernel
theorem dX4_best_12 : decode cX4_best 12 = .ok (.aload_n 0, 1) := by decide +kernel
theorem dX4_best_13 : decode cX4_best 13 = .ok (.getfield 9, 3) := by decide +kernel
theorem dX4_best_16 : decode cX4_best 16 = .ok (.iload_n 3, 1) := by decide +kernel
theorem dX4_best_17 : decode cX4_best 17 = .ok (.iaload, 1) := by decide +kernel
theorem dX4_best_18 : decode cX4_best 18 = .ok (.aload_n 0, 1) := by decide +kernel
theorem dX4_best_19 : decode cX4_best 19 = .ok (.getfield 9, 3) := by decide +kernel
theorem dX4_best_22 : decode cX4_best 22 = .ok (.iload_n 2, 1) := by decide +kernel
theorem dX4_best_23 : decode cX4_best 23 = .ok (.iaload, 1) := by decide +kernel
theorem dX4_best_24 : decode cX4_best 24 = .ok (.if_icmp .gt 33, 3) := by decide +kernel
theorem dX4_best_27 : decode cX4_best 27 = .ok (.aload_n 0, 1) := by decide +kernel
theorem dX4_best_28 : decode cX4_best 28 = .ok (.getfield 9, 3) := by decide +kernel
theorem dX4_best_31 : decode cX4_best 31 = .ok (.iload_n 3, 1) := by decide +kernel
theorem dX4_best_32 : decode cX4_best 32 = .ok (.iaload, 1) := by decide +kernel
theorem dX4_best_33 : decode cX4_best 33 = .ok (.aload_n 0, 1) := by decide +kernel
theorem dX4_best_34 : decode cX4_best 34 = .ok (.getfield 9, 3) := by decide +kernel
theorem dX4_best_37 : decode cX4_best 37 = .ok (.iload_n 2, 1) := by decide +kernel
theorem dX4_best_38 : decode cX4_best 38 = .ok (.iaload, 1) := by decide +kernel
theorem dX4_best_39 : decode cX4_best 39 = .ok (.if_icmp .ne 22, 3) := by decide +kernel
theorem dX4_best_42 : decode cX4_best 42 = .ok (.aload_n 0, 1) := by decide +kernel
theorem dX4_best_43 : decode cX4_best 43 = .ok (.getfield 15, 3) := by decide +kernel
theorem dX4_best_46 : decode cX4_best 46 = .ok (.iload_n 3, 1) := by decide +kernel
theorem dX4_best_47 : decode cX4_best 47 = .ok (.iaload, 1) := by decide +kernel
theorem dX4_best_48 : decode cX4_best 48 = .ok (.aload_n 0, 1) := by decide +kernel
theorem dX4_best_49 : decode cX4_best 49 = .ok (.getfield 15, 3) := by decide +kernel
theorem dX4_best_52 : decode cX4_best 52 = .ok (.iload_n 2, 1) := by decide +kernel
theorem dX4_best_53 : decode cX4_best 53 = .ok (.iaload, 1) := by decide +kernel
theorem dX4_best_54 : decode cX4_best 54 = .ok (.if_icmp .ge 7, 3) := by decide +kernel
theorem dX4_best_57 : decode cX4_best 57 = .ok (.iconst 1, 1) := by decide +kernel
theorem dX4_best_58 : decode cX4_best 58 = .ok (.goto 4, 3) := by decide +kernel
theorem dX4_best_61 : decode cX4_best 61 = .ok (.iconst 0, 1) := by decide +kernel
theorem dX4_best_62 : decode cX4_best 62 = .ok (.istore 4, 2) := by decide +kernel
theorem dX4_best_64 : decode cX4_best 64 = .ok (.iload 4, 2) := by decide +kernel
theorem dX4_best_66 : decode cX4_best 66 = .ok (.ifCond .eq 19, 3) := by decide +kernel
theorem dX4_best_69 : decode cX4_best 69 = .ok (.iload_n 3, 1) := by decide +kernel
theorem dX4_best_70 : decode cX4_best 70 = .ok (.iload_n 1, 1) := by decide +kernel
theorem dX4_best_71 : decode cX4_best 71 = .ok (.iand, 1) := by decide +kernel
theorem dX4_best_72 : decode cX4_best 72 = .ok (.ifCond .ne 13, 3) := by decide +kernel
theorem dX4_best_75 : decode cX4_best 75 = .ok (.aload_n 0, 1) := by decide +kernel
theorem dX4_best_76 : decode cX4_best 76 = .ok (.iload_n 3, 1) := by decide +kernel
theorem dX4_best_77 : decode cX4_best 77 = .ok (.invokevirtual 55, 3) := by decide +kernel
theorem dX4_best_80 : decode cX4_best 80 = .ok (.ifCond .eq 5, 3) := by decide +kernel
theorem dX4_best_83 : decode cX4_best 83 = .ok (.iload_n 3, 1) := by decide +kernel
theorem dX4_best_84 : decode cX4_best 84 = .ok (.istore_n 2, 1) := by decide +kernel
theorem dX4_best_85 : decode cX4_best 85 = .ok (.iinc 3 1, 3) := by decide +kernel
theorem dX4_best_88 : decode cX4_best 88 = .ok (.goto (-84), 3) := by decide +kernel
theorem dX4_best_91 : decode cX4_best 91 = .ok (.iload_n 2, 1) := by decide +kernel
theorem dX4_best_92 : decode cX4_best 92 = .ok (.ireturn, 1) := by decide +kernel
theorem dX4_cheapest_0 : decode cX4_cheapest 0 = .ok (.iconst (-1), 1) := by decide +kernel
theorem dX4_cheapest_1 : decode cX4_cheapest 1 = .ok (.istore_n 2, 1) := by decide +kernel
theorem dX4_cheapest_2 : decode cX4_cheapest 2 = .ok (.iconst 0, 1) := by decide +kernel
theorem dX4_cheapest_3 : decode cX4_cheapest 3 = .ok (.istore_n 3, 1) := by decide +kernel
theorem dX4_cheapest_4 : decode cX4_cheapest 4 = .ok (.iload_n 3, 1) := by decide +kernel
theorem dX4_cheapest_5 : decode cX4_cheapest 5 = .ok (.aload_n 0, 1) := by decide +kernel
theorem dX4_cheapest_6 : decode cX4_cheapest 6 = .ok (.getfield 24, 3) := by decide +kernel
theorem dX4_cheapest_9 : decode cX4_cheapest 9 = .ok (.if_icmp .ge 60, 3) := by decide +kernel
theorem dX4_cheapest_12 : decode cX4_cheapest 12 = .ok (.aload_n 0, 1) := by decide +kernel
theorem dX4_cheapest_13 : decode cX4_cheapest 13 = .ok (.getfield 9, 3) := by decide +kernel
theorem dX4_cheapest_16 : decode cX4_cheapest 16 = .ok (.iload_n 3, 1) := by decide +kernel
theorem dX4_cheapest_17 : decode cX4_cheapest 17 = .ok (.iaload, 1) := by decide +kernel
theorem dX4_cheapest_18 : decode cX4_cheapest 18 = .ok (.iload_n 1, 1) := by decide +kernel
theorem dX4_cheapest_19 : decode cX4_cheapest 19 = .ok (.if_icmp .lt 26, 3) := by decide +kernel
theorem dX4_cheapest_22 : decode cX4_cheapest 22 = .ok (.iload_n 2, 1) := by decide +kernel
theorem dX4_cheapest_23 : decode cX4_cheapest 23 = .ok (.ifCond .lt 18, 3) := by decide +kernel
theorem dX4_cheapest_26 : decode cX4_cheapest 26 = .ok (.aload_n 0, 1) := by decide +kernel
theorem dX4_cheapest_27 : decode cX4_cheapest 27 = .ok (.getfield 15, 3) := by decide +kernel
theorem dX4_cheapest_30 : decode cX4_cheapest 30 = .ok (.iload_n 3, 1) := by decide +kernel
theorem dX4_cheapest_31 : decode cX4_cheapest 31 = .ok (.iaload, 1) := by decide +kernel
theorem dX4_cheapest_32 : decode cX4_cheapest 32 = .ok (.aload_n 0, 1) := by decide +kernel
theorem dX4_cheapest_33 : decode cX4_cheapest 33 = .ok (.getfield 15, 3) := by decide +kernel
theorem dX4_cheapest_36 : decode cX4_cheapest 36 = .ok (.iload_n 2, 1) := by decide +kernel
theorem dX4_cheapest_37 : decode cX4_cheapest 37 = .ok (.iaload, 1) := by decide +kernel
theorem dX4_cheapest_38 : decode cX4_cheapest 38 = .ok (.if_icmp .ge 7, 3) := by decide +kernel
theorem dX4_cheapest_41 : decode cX4_cheapest 41 = .ok (.iconst 1, 1) := by decide +kernel
theorem dX4_cheapest_42 : decode cX4_cheapest 42 = .ok (.goto 4, 3) := by decide +kernel
theorem dX4_cheapest_45 : decode cX4_cheapest 45 = .ok (.iconst 0, 1) := by decide +kernel
theorem dX4_cheapest_46 : decode cX4_cheapest 46 = .ok (.istore 4, 2) := by decide +kernel
theorem dX4_cheapest_48 : decode cX4_cheapest 48 = .ok (.iload 4, 2) := by decide +kernel
theorem dX4_cheapest_50 : decode cX4_cheapest 50 = .ok (.ifCond .eq 13, 3) := by decide +kernel
theorem dX4_cheapest_53 : decode cX4_cheapest 53 = .ok (.aload_n 0, 1) := by decide +kernel
theorem dX4_cheapest_54 : decode cX4_cheapest 54 = .ok (.iload_n 3, 1) := by decide +kernel
theorem dX4_cheapest_55 : decode cX4_cheapest 55 = .ok (.invokevirtual 55, 3) := by decide +kernel
theorem dX4_cheapest_58 : decode cX4_cheapest 58 = .ok (.ifCond .eq 5, 3) := by decide +kernel
theorem dX4_cheapest_61 : decode cX4_cheapest 61 = .ok (.iload_n 3, 1) := by decide +kernel
theorem dX4_cheapest_62 : decode cX4_cheapest 62 = .ok (.istore_n 2, 1) := by decide +kernel
theorem dX4_cheapest_63 : decode cX4_cheapest 63 = .ok (.iinc 3 1, 3) := by decide +kernel
theorem dX4_cheapest_66 : decode cX4_cheapest 66 = .ok (.goto (-62), 3) := by decide +kernel
theorem dX4_cheapest_69 : decode cX4_cheapest 69 = .ok (.iload_n 2, 1) := by decide +kernel
theorem dX4_cheapest_70 : decode cX4_cheapest 70 = .ok (.ireturn, 1) := by decide +kernel
theorem dX5_init_0 : decode cX5_init 0 = .ok (.aload_n 0, 1) := by decide +kernel
theorem dX5_init_1 : decode cX5_init 1 = .ok (.invokespecial 3, 3) := by decide +kernel
theorem dX5_init_4 : decode cX5_init 4 = .ok (.return_, 1) := by decide +kernel
theorem dX5_read_0 : decode cX5_read 0 = .ok (.aload_n 2, 1) := by decide +kernel
theorem dX5_read_1 : decode cX5_read 1 = .ok (.invokevirtual 9, 3) := by decide +kernel
theorem dX5_read_4 : decode cX5_read 4 = .ok (.aload_n 0, 1) := by decide +kernel
theorem dX5_read_5 : decode cX5_read 5 = .ok (.iconst 0, 1) := by decide +kernel
theorem dX5_read_6 : decode cX5_read 6 = .ok (.putfield 14, 3) := by decide +kernel
theorem dX5_read_9 : decode cX5_read 9 = .ok (.iconst 0, 1) := by decide +kernel
theorem dX5_read_10 : decode cX5_read 10 = .ok (.istore_n 3, 1) := by decide +kernel
theorem dX5_read_11 : decode cX5_read 11 = .ok (.iconst 0, 1) := by decide +kernel
theorem dX5_read_12 : decode cX5_read 12 = .ok (.istore 4, 2) := by decide +kernel
theorem dX5_read_14 : decode cX5_read 14 = .ok (.iload 4, 2) := by decide +kernel
theorem dX5_read_16 : decode cX5_read 16 = .ok (.sipush 1200, 3) := by decide +kernel
theorem dX5_read_19 : decode cX5_read 19 = .ok (.if_icmp .gt 144, 3) := by decide +kernel
theorem dX5_read_22 : decode cX5_read 22 = .ok (.aload_n 1, 1) := by decide +kernel
theorem dX5_read_23 : decode cX5_read 23 = .ok (.invokevirtual 20, 3) := by decide +kernel
theorem dX5_read_26 : decode cX5_read 26 = .ok (.aload_n 1, 1) := by decide +kernel
theorem dX5_read_27 : decode cX5_read 27 = .ok (.getfield 25, 3) := by decide +kernel
theorem dX5_read_30 : decode cX5_read 30 = .ok (.tableswitch 101 0 10 #[58, 101, 101, 101, 101, 60, 70, 80, 101, 101, 90], 58) := by decide +kernel
theorem dX5_read_88 : decode cX5_read 88 = .ok (.iload_n 3, 1) := by decide +kernel
theorem dX5_read_89 : decode cX5_read 89 = .ok (.ireturn, 1) := by decide +kernel
theorem dX5_read_90 : decode cX5_read 90 = .ok (.aload_n 1, 1) := by decide +kernel
theorem dX5_read_91 : decode cX5_read 91 = .ok (.aload_n 2, 1) := by decide +kernel
theorem dX5_read_92 : decode cX5_read 92 = .ok (.invokestatic 28, 3) := by decide +kernel
theorem dX5_read_95 : decode cX5_read 95 = .ok (.istore 5, 2) := by decide +kernel
theorem dX5_read_97 : decode cX5_read 97 = .ok (.goto 38, 3) := by decide +kernel
theorem dX5_read_100 : decode cX5_read 100 = .ok (.aload_n 1, 1) := by decide +kernel
theorem dX5_read_101 : decode cX5_read 101 = .ok (.aload_n 2, 1) := by decide +kernel
theorem dX5_read_102 : decode cX5_read 102 = .ok (.invokestatic 32, 3) := by decide +kernel
theorem dX5_read_105 : decode cX5_read 105 = .ok (.istore 5, 2) := by decide +kernel
theorem dX5_read_107 : decode cX5_read 107 = .ok (.goto 28, 3) := by decide +kernel
theorem dX5_read_110 : decode cX5_read 110 = .ok (.aload_n 1, 1) := by decide +kernel
theorem dX5_read_111 : decode cX5_read 111 = .ok (.aload_n 2, 1) := by decide +kernel
theorem dX5_read_112 : decode cX5_read 112 = .ok (.invokestatic 35, 3) := by decide +kernel
theorem dX5_read_115 : decode cX5_read 115 = .ok (.istore 5, 2) := by decide +kernel
theorem dX5_read_117 : decode cX5_read 117 = .ok (.goto 18, 3) := by decide +kernel
theorem dX5_read_120 : decode cX5_read 120 = .ok (.aload_n 0, 1) := by decide +kernel
theorem dX5_read_121 : decode cX5_read 121 = .ok (.aload_n 1, 1) := by decide +kernel
theorem dX5_read_122 : decode cX5_read 122 = .ok (.aload_n 2, 1) := by decide +kernel
theorem dX5_read_123 : decode cX5_read 123 = .ok (.invokevirtual 38, 3) := by decide +kernel
theorem dX5_read_126 : decode cX5_read 126 = .ok (.istore 5, 2) := by decide +kernel
theorem dX5_read_128 : decode cX5_read 128 = .ok (.goto 7, 3) := by decide +kernel
theorem dX5_read_131 : decode cX5_read 131 = .ok (.bipush (-11), 2) := by decide +kernel
theorem dX5_read_133 : decode cX5_read 133 = .ok (.istore 5, 2) := by decide +kernel
theorem dX5_read_135 : decode cX5_read 135 = .ok (.iload 5, 2) := by decide +kernel
theorem dX5_read_137 : decode cX5_read 137 = .ok (.ifCond .ge 6, 3) := by decide +kernel
theorem dX5_read_140 : decode cX5_read 140 = .ok (.iload 5, 2) := by decide +kernel
theorem dX5_read_142 : decode cX5_read 142 = .ok (.ireturn, 1) := by decide +kernel
theorem dX5_read_143 : decode cX5_read 143 = .ok (.aload_n 1, 1) := by decide +kernel
theorem dX5_read_144 : decode cX5_read 144 = .ok (.getfield 25, 3) := by decide +kernel
theorem dX5_read_147 : decode cX5_read 147 = .ok (.iconst 3, 1) := by decide +kernel
theorem dX5_read_148 : decode cX5_read 148 = .ok (.if_icmp .eq 6, 3) := by decide +kernel
theorem dX5_read_151 : decode cX5_read 151 = .ok (.bipush (-11), 2) := by decide +kernel
theorem dX5_read_153 : decode cX5_read 153 = .ok (.ireturn, 1) := by decide +kernel
theorem dX5_read_154 : decode cX5_read 154 = .ok (.iinc 3 1, 3) := by decide +kernel
theorem dX5_read_157 : decode cX5_read 157 = .ok (.iinc 4 1, 3) := by decide +kernel
theorem dX5_read_160 : decode cX5_read 160 = .ok (.goto (-146), 3) := by decide +kernel
theorem dX5_read_163 : decode cX5_read 163 = .ok (.iload_n 3, 1) := by decide +kernel
theorem dX5_read_164 : decode cX5_read 164 = .ok (.ireturn, 1) := by decide +kernel
theorem dX5_district_0 : decode cX5_district 0 = .ok (.aload_n 1, 1) := by decide +kernel
theorem dX5_district_1 : decode cX5_district 1 = .ok (.getfield 41, 3) := by decide +kernel
theorem dX5_district_4 : decode cX5_district 4 = .ok (.istore_n 2, 1) := by decide +kernel
theorem dX5_district_5 : decode cX5_district 5 = .ok (.iload_n 2, 1) := by decide +kernel
theorem dX5_district_6 : decode cX5_district 6 = .ok (.iconst 4, 1) := by decide +kernel
theorem dX5_district_7 : decode cX5_district 7 = .ok (.if_icmp .lt 6, 3) := by decide +kernel
theorem dX5_district_10 : decode cX5_district 10 = .ok (.bipush (-15), 2) := by decide +kernel
theorem dX5_district_12 : decode cX5_district 12 = .ok (.ireturn, 1) := by decide +kernel
theorem dX5_district_13 : decode cX5_district 13 = .ok (.aload_n 0, 1) := by decide +kernel
theorem dX5_district_14 : decode cX5_district 14 = .ok (.aload_n 1, 1) := by decide +kernel
theorem dX5_district_15 : decode cX5_district 15 = .ok (.invokestatic 44, 3) := by decide +kernel
theorem dX5_district_18 : decode cX5_district 18 = .ok (.istore_n 3, 1) := by decide +kernel
theorem dX5_district_19 : decode cX5_district 19 = .ok (.iload_n 3, 1) := by decide +kernel
theorem dX5_district_20 : decode cX5_district 20 = .ok (.ifCond .ge 5, 3) := by decide +kernel
theorem dX5_district_23 : decode cX5_district 23 = .ok (.iload_n 3, 1) := by decide +kernel
theorem dX5_district_24 : decode cX5_district 24 = .ok (.ireturn, 1) := by decide +kernel
theorem dX5_district_25 : decode cX5_district 25 = .ok (.aload_n 0, 1) := by decide +kernel
theorem dX5_district_26 : decode cX5_district 26 = .ok (.iconst 0, 1) := by decide +kernel
theorem dX5_district_27 : decode cX5_district 27 = .ok (.ldc 47, 2) := by decide +kernel
theorem dX5_district_29 : decode cX5_district 29 = .ok (.invokestatic 48, 3) := by decide +kernel
theorem dX5_district_32 : decode cX5_district 32 = .ok (.istore 4, 2) := by decide +kernel
theorem dX5_district_34 : decode cX5_district 34 = .ok (.iload 4, 2) := by decide +kernel
theorem dX5_district_36 : decode cX5_district 36 = .ok (.ifCond .ge 6, 3) := by decide +kernel
theorem dX5_district_39 : decode cX5_district 39 = .ok (.iload 4, 2) := by decide +kernel
theorem dX5_district_41 : decode cX5_district 41 = .ok (.ireturn, 1) := by decide +kernel
theorem dX5_district_42 : decode cX5_district 42 = .ok (.aload_n 1, 1) := by decide +kernel
theorem dX5_district_43 : decode cX5_district 43 = .ok (.getfield 52, 3) := by decide +kernel
theorem dX5_district_46 : decode cX5_district 46 = .ok (.iload_n 2, 1) := by decide +kernel
theorem dX5_district_47 : decode cX5_district 47 = .ok (.iload_n 3, 1) := by decide +kernel
theorem dX5_district_48 : decode cX5_district 48 = .ok (.iastore, 1) := by decide +kernel
theorem dX5_district_49 : decode cX5_district 49 = .ok (.aload_n 1, 1) := by decide +kernel
theorem dX5_district_50 : decode cX5_district 50 = .ok (.getfield 56, 3) := by decide +kernel
theorem dX5_district_53 : decode cX5_district 53 = .ok (.iload_n 2, 1) := by decide +kernel
theorem dX5_district_54 : decode cX5_district 54 = .ok (.iload 4, 2) := by decide +kernel
theorem dX5_district_56 : decode cX5_district 56 = .ok (.iastore, 1) := by decide +kernel
theorem dX5_district_57 : decode cX5_district 57 = .ok (.aload_n 1, 1) := by decide +kernel
theorem dX5_district_58 : decode cX5_district 58 = .ok (.iload_n 2, 1) := by decide +kernel
theorem dX5_district_59 : decode cX5_district 59 = .ok (.iconst 1, 1) := by decide +kernel
theorem dX5_district_60 : decode cX5_district 60 = .ok (.iadd, 1) := by decide +kernel
theorem dX5_district_61 : decode cX5_district 61 = .ok (.putfield 41, 3) := by decide +kernel
theorem dX5_district_64 : decode cX5_district 64 = .ok (.aload_n 0, 1) := by decide +kernel
theorem dX5_district_65 : decode cX5_district 65 = .ok (.invokevirtual 20, 3) := by decide +kernel
theorem dX5_district_68 : decode cX5_district 68 = .ok (.iconst 0, 1) := by decide +kernel
theorem dX5_district_69 : decode cX5_district 69 = .ok (.ireturn, 1) := by decide +kernel
theorem dX5_project_0 : decode cX5_project 0 = .ok (.aload_n 1, 1) := by decide +kernel
theorem dX5_project_1 : decode cX5_project 1 = .ok (.getfield 59, 3) := by decide +kernel
theorem dX5_project_4 : decode cX5_project 4 = .ok (.istore_n 2, 1) := by decide +kernel
theorem dX5_project_5 : decode cX5_project 5 = .ok (.iload_n 2, 1) := by decide +kernel
theorem dX5_project_6 : decode cX5_project 6 = .ok (.bipush 12, 2) := by decide +kernel
theorem dX5_project_8 : decode cX5_project 8 = .ok (.if_icmp .lt 6, 3) := by decide +kernel
theorem dX5_project_11 : decode cX5_project 11 = .ok (.bipush (-15), 2) := by decide +kernel
theorem dX5_project_13 : decode cX5_project 13 = .ok (.ireturn, 1) := by decide +kernel
theorem dX5_project_14 : decode cX5_project 14 = .ok (.aload_n 0, 1) := by decide +kernel
theorem dX5_project_15 : decode cX5_project 15 = .ok (.aload_n 1, 1) := by decide +kernel
theorem dX5_project_16 : decode cX5_project 16 = .ok (.invokestatic 44, 3) := by decide +kernel
theorem dX5_project_19 : decode cX5_project 19 = .ok (.istore_n 3, 1) := by decide +kernel
theorem dX5_project_20 : decode cX5_project 20 = .ok (.iload_n 3, 1) := by decide +kernel
theorem dX5_project_21 : decode cX5_project 21 = .ok (.ifCond .ge 5, 3) := by decide +kernel
theorem dX5_project_24 : decode cX5_project 24 = .ok (.iload_n 3, 1) := by decide +kernel
theorem dX5_project_25 : decode cX5_project 25 = .ok (.ireturn, 1) := by decide +kernel
theorem dX5_project_26 : decode cX5_project 26 = .ok (.aload_n 0, 1) := by decide +kernel
theorem dX5_project_27 : decode cX5_project 27 = .ok (.iconst 1, 1) := by decide +kernel
theorem dX5_project_28 : decode cX5_project 28 = .ok (.ldc 47, 2) := by decide +kernel
theorem dX5_project_30 : decode cX5_project 30 = .ok (.invokestatic 48, 3) := by decide +kernel
theorem dX5_project_33 : decode cX5_project 33 = .ok (.istore 4, 2) := by decide +kernel
theorem dX5_project_35 : decode cX5_project 35 = .ok (.iload 4, 2) := by decide +kernel
theorem dX5_project_37 : decode cX5_project 37 = .ok (.ifCond .ge 6, 3) := by decide +kernel
theorem dX5_project_40 : decode cX5_project 40 = .ok (.iload 4, 2) := by decide +kernel
theorem dX5_project_42 : decode cX5_project 42 = .ok (.ireturn, 1) := by decide +kernel
theorem dX5_project_43 : decode cX5_project 43 = .ok (.aload_n 0, 1) := by decide +kernel
theorem dX5_project_44 : decode cX5_project 44 = .ok (.aload_n 1, 1) := by decide +kernel
theorem dX5_project_45 : decode cX5_project 45 = .ok (.getfield 52, 3) := by decide +kernel
theorem dX5_project_48 : decode cX5_project 48 = .ok (.aload_n 1, 1) := by decide +kernel
theorem dX5_project_49 : decode cX5_project 49 = .ok (.getfield 41, 3) := by decide +kernel
theorem dX5_project_52 : decode cX5_project 52 = .ok (.invokestatic 62, 3) := by decide +kernel
theorem dX5_project_55 : decode cX5_project 55 = .ok (.istore 5, 2) := by decide +kernel
theorem dX5_project_57 : decode cX5_project 57 = .ok (.iload 5, 2) := by decide +kernel
theorem dX5_project_59 : decode cX5_project 59 = .ok (.ifCond .ge 6, 3) := by decide +kernel
theorem dX5_project_62 : decode cX5_project 62 = .ok (.iload 5, 2) := by decide +kernel
theorem dX5_project_64 : decode cX5_project 64 = .ok (.ireturn, 1) := by decide +kernel
theorem dX5_project_65 : decode cX5_project 65 = .ok (.aload_n 1, 1) := by decide +kernel
theorem dX5_project_66 : decode cX5_project 66 = .ok (.getfield 66, 3) := by decide +kernel
theorem dX5_project_69 : decode cX5_project 69 = .ok (.iload_n 2, 1) := by decide +kernel
theorem dX5_project_70 : decode cX5_project 70 = .ok (.iload_n 3, 1) := by decide +kernel
theorem dX5_project_71 : decode cX5_project 71 = .ok (.iastore, 1) := by decide +kernel
theorem dX5_project_72 : decode cX5_project 72 = .ok (.aload_n 1, 1) := by decide +kernel
theorem dX5_project_73 : decode cX5_project 73 = .ok (.getfield 69, 3) := by decide +kernel
theorem dX5_project_76 : decode cX5_project 76 = .ok (.iload_n 2, 1) := by decide +kernel
theorem dX5_project_77 : decode cX5_project 77 = .ok (.iload 4, 2) := by decide +kernel
theorem dX5_project_79 : decode cX5_project 79 = .ok (.iastore, 1) := by decide +kernel
theorem dX5_project_80 : decode cX5_project 80 = .ok (.aload_n 1, 1) := by decide +kernel
theorem dX5_project_81 : decode cX5_project 81 = .ok (.getfield 72, 3) := by decide +kernel
theorem dX5_project_84 : decode cX5_project 84 = .ok (.iload_n 2, 1) := by decide +kernel
theorem dX5_project_85 : decode cX5_project 85 = .ok (.iload 5, 2) := by decide +kernel
theorem dX5_project_87 : decode cX5_project 87 = .ok (.iastore, 1) := by decide +kernel
theorem dX5_project_88 : decode cX5_project 88 = .ok (.aload_n 1, 1) := by decide +kernel
theorem dX5_project_89 : decode cX5_project 89 = .ok (.iload_n 2, 1) := by decide +kernel
theorem dX5_project_90 : decode cX5_project 90 = .ok (.iconst 1, 1) := by decide +kernel
theorem dX5_project_91 : decode cX5_project 91 = .ok (.iadd, 1) := by decide +kernel
theorem dX5_project_92 : decode cX5_project 92 = .ok (.putfield 59, 3) := by decide +kernel
theorem dX5_project_95 : decode cX5_project 95 = .ok (.iconst 0, 1) := by decide +kernel
theorem dX5_project_96 : decode cX5_project 96 = .ok (.ireturn, 1) := by decide +kernel
theorem dX5_voter_0 : decode cX5_voter 0 = .ok (.aload_n 1, 1) := by decide +kernel
theorem dX5_voter_1 : decode cX5_voter 1 = .ok (.getfield 75, 3) := by decide +kernel
theorem dX5_voter_4 : decode cX5_voter 4 = .ok (.istore_n 2, 1) := by decide +kernel
theorem dX5_voter_5 : decode cX5_voter 5 = .ok (.iload_n 2, 1) := by decide +kernel
theorem dX5_voter_6 : decode cX5_voter 6 = .ok (.bipush 24, 2) := by decide +kernel
theorem dX5_voter_8 : decode cX5_voter 8 = .ok (.if_icmp .lt 6, 3) := by decide +kernel
theorem dX5_voter_11 : decode cX5_voter 11 = .ok (.bipush (-15), 2) := by decide +kernel
theorem dX5_voter_13 : decode cX5_voter 13 = .ok (.ireturn, 1) := by decide +kernel
theorem dX5_voter_14 : decode cX5_voter 14 = .ok (.aload_n 0, 1) := by decide +kernel
theorem dX5_voter_15 : decode cX5_voter 15 = .ok (.iconst 1, 1) := by decide +kernel
theorem dX5_voter_16 : decode cX5_voter 16 = .ok (.bipush 9, 2) := by decide +kernel
theorem dX5_voter_18 : decode cX5_voter 18 = .ok (.invokestatic 48, 3) := by decide +kernel
theorem dX5_voter_21 : decode cX5_voter 21 = .ok (.istore_n 3, 1) := by decide +kernel
theorem dX5_voter_22 : decode cX5_voter 22 = .ok (.iload_n 3, 1) := by decide +kernel
theorem dX5_voter_23 : decode cX5_voter 23 = .ok (.ifCond .ge 5, 3) := by decide +kernel
theorem dX5_voter_26 : decode cX5_voter 26 = .ok (.iload_n 3, 1) := by decide +kernel
theorem dX5_voter_27 : decode cX5_voter 27 = .ok (.ireturn, 1) := by decide +kernel
theorem dX5_voter_28 : decode cX5_voter 28 = .ok (.aload_n 0, 1) := by decide +kernel
theorem dX5_voter_29 : decode cX5_voter 29 = .ok (.invokevirtual 20, 3) := by decide +kernel
theorem dX5_voter_32 : decode cX5_voter 32 = .ok (.aload_n 0, 1) := by decide +kernel
theorem dX5_voter_33 : decode cX5_voter 33 = .ok (.getfield 25, 3) := by decide +kernel
theorem dX5_voter_36 : decode cX5_voter 36 = .ok (.bipush 8, 2) := by decide +kernel
theorem dX5_voter_38 : decode cX5_voter 38 = .ok (.if_icmp .eq 6, 3) := by decide +kernel
theorem dX5_voter_41 : decode cX5_voter 41 = .ok (.bipush (-11), 2) := by decide +kernel
theorem dX5_voter_43 : decode cX5_voter 43 = .ok (.ireturn, 1) := by decide +kernel
theorem dX5_voter_44 : decode cX5_voter 44 = .ok (.aload_n 0, 1) := by decide +kernel
theorem dX5_voter_45 : decode cX5_voter 45 = .ok (.aload_n 1, 1) := by decide +kernel
theorem dX5_voter_46 : decode cX5_voter 46 = .ok (.getfield 52, 3) := by decide +kernel
theorem dX5_voter_49 : decode cX5_voter 49 = .ok (.aload_n 1, 1) := by decide +kernel
theorem dX5_voter_50 : decode cX5_voter 50 = .ok (.getfield 41, 3) := by decide +kernel
theorem dX5_voter_53 : decode cX5_voter 53 = .ok (.invokestatic 62, 3) := by decide +kernel
theorem dX5_voter_56 : decode cX5_voter 56 = .ok (.istore 4, 2) := by decide +kernel
theorem dX5_voter_58 : decode cX5_voter 58 = .ok (.iload 4, 2) := by decide +kernel
theorem dX5_voter_60 : decode cX5_voter 60 = .ok (.ifCond .ge 6, 3) := by decide +kernel
theorem dX5_voter_63 : decode cX5_voter 63 = .ok (.iload 4, 2) := by decide +kernel
theorem dX5_voter_65 : decode cX5_voter 65 = .ok (.ireturn, 1) := by decide +kernel
theorem dX5_voter_66 : decode cX5_voter 66 = .ok (.aload_n 0, 1) := by decide +kernel
theorem dX5_voter_67 : decode cX5_voter 67 = .ok (.getfield 25, 3) := by decide +kernel
theorem dX5_voter_70 : decode cX5_voter 70 = .ok (.bipush 9, 2) := by decide +kernel
theorem dX5_voter_72 : decode cX5_voter 72 = .ok (.if_icmp .ne 18, 3) := by decide +kernel
theorem dX5_voter_75 : decode cX5_voter 75 = .ok (.aload_n 0, 1) := by decide +kernel
theorem dX5_voter_76 : decode cX5_voter 76 = .ok (.aload_n 1, 1) := by decide +kernel
theorem dX5_voter_77 : decode cX5_voter 77 = .ok (.getfield 66, 3) := by decide +kernel
theorem dX5_voter_80 : decode cX5_voter 80 = .ok (.aload_n 1, 1) := by decide +kernel
theorem dX5_voter_81 : decode cX5_voter 81 = .ok (.getfield 59, 3) := by decide +kernel
theorem dX5_voter_84 : decode cX5_voter 84 = .ok (.invokestatic 62, 3) := by decide +kernel
theorem dX5_voter_87 : decode cX5_voter 87 = .ok (.goto 4, 3) := by decide +kernel
theorem dX5_voter_90 : decode cX5_voter 90 = .ok (.iconst 0, 1) := by decide +kernel
theorem dX5_voter_91 : decode cX5_voter 91 = .ok (.istore 5, 2) := by decide +kernel
theorem dX5_voter_93 : decode cX5_voter 93 = .ok (.iload 5, 2) := by decide +kernel
theorem dX5_voter_95 : decode cX5_voter 95 = .ok (.ifCond .ge 6, 3) := by decide +kernel
theorem dX5_voter_98 : decode cX5_voter 98 = .ok (.iload 5, 2) := by decide +kernel
theorem dX5_voter_100 : decode cX5_voter 100 = .ok (.ireturn, 1) := by decide +kernel
theorem dX5_voter_101 : decode cX5_voter 101 = .ok (.aload_n 1, 1) := by decide +kernel
theorem dX5_voter_102 : decode cX5_voter 102 = .ok (.getfield 78, 3) := by decide +kernel
theorem dX5_voter_105 : decode cX5_voter 105 = .ok (.iload_n 2, 1) := by decide +kernel
theorem dX5_voter_106 : decode cX5_voter 106 = .ok (.iload_n 3, 1) := by decide +kernel
theorem dX5_voter_107 : decode cX5_voter 107 = .ok (.iastore, 1) := by decide +kernel
theorem dX5_voter_108 : decode cX5_voter 108 = .ok (.aload_n 1, 1) := by decide +kernel
theorem dX5_voter_109 : decode cX5_voter 109 = .ok (.getfield 81, 3) := by decide +kernel
theorem dX5_voter_112 : decode cX5_voter 112 = .ok (.iload_n 2, 1) := by decide +kernel
theorem dX5_voter_113 : decode cX5_voter 113 = .ok (.iload 4, 2) := by decide +kernel
theorem dX5_voter_115 : decode cX5_voter 115 = .ok (.iastore, 1) := by decide +kernel
theorem dX5_voter_116 : decode cX5_voter 116 = .ok (.aload_n 1, 1) := by decide +kernel
theorem dX5_voter_117 : decode cX5_voter 117 = .ok (.getfield 84, 3) := by decide +kernel
theorem dX5_voter_120 : decode cX5_voter 120 = .ok (.iload_n 2, 1) := by decide +kernel
theorem dX5_voter_121 : decode cX5_voter 121 = .ok (.iload 5, 2) := by decide +kernel
theorem dX5_voter_123 : decode cX5_voter 123 = .ok (.iastore, 1) := by decide +kernel
theorem dX5_voter_124 : decode cX5_voter 124 = .ok (.aload_n 1, 1) := by decide +kernel
theorem dX5_voter_125 : decode cX5_voter 125 = .ok (.iload_n 2, 1) := by decide +kernel
theorem dX5_voter_126 : decode cX5_voter 126 = .ok (.iconst 1, 1) := by decide +kernel
theorem dX5_voter_127 : decode cX5_voter 127 = .ok (.iadd, 1) := by decide +kernel
theorem dX5_voter_128 : decode cX5_voter 128 = .ok (.putfield 75, 3) := by decide +kernel
theorem dX5_voter_131 : decode cX5_voter 131 = .ok (.iconst 0, 1) := by decide +kernel
theorem dX5_voter_132 : decode cX5_voter 132 = .ok (.ireturn, 1) := by decide +kernel
theorem dX5_setting_0 : decode cX5_setting 0 = .ok (.aload_n 1, 1) := by decide +kernel
theorem dX5_setting_1 : decode cX5_setting 1 = .ok (.invokevirtual 20, 3) := by decide +kernel
theorem dX5_setting_4 : decode cX5_setting 4 = .ok (.aload_n 1, 1) := by decide +kernel
theorem dX5_setting_5 : decode cX5_setting 5 = .ok (.invokevirtual 87, 3) := by decide +kernel
theorem dX5_setting_8 : decode cX5_setting 8 = .ok (.istore_n 3, 1) := by decide +kernel
theorem dX5_setting_9 : decode cX5_setting 9 = .ok (.iload_n 3, 1) := by decide +kernel
theorem dX5_setting_10 : decode cX5_setting 10 = .ok (.ifCond .ge 6, 3) := by decide +kernel
theorem dX5_setting_13 : decode cX5_setting 13 = .ok (.bipush (-11), 2) := by decide +kernel
theorem dX5_setting_15 : decode cX5_setting 15 = .ok (.ireturn, 1) := by decide +kernel
theorem dX5_setting_16 : decode cX5_setting 16 = .ok (.aload_n 0, 1) := by decide +kernel
theorem dX5_setting_17 : decode cX5_setting 17 = .ok (.getfield 14, 3) := by decide +kernel
theorem dX5_setting_20 : decode cX5_setting 20 = .ok (.iload_n 3, 1) := by decide +kernel
theorem dX5_setting_21 : decode cX5_setting 21 = .ok (.invokestatic 90, 3) := by decide +kernel
theorem dX5_setting_24 : decode cX5_setting 24 = .ok (.ifCond .eq 6, 3) := by decide +kernel
theorem dX5_setting_27 : decode cX5_setting 27 = .ok (.bipush (-14), 2) := by decide +kernel
theorem dX5_setting_29 : decode cX5_setting 29 = .ok (.ireturn, 1) := by decide +kernel
theorem dX5_setting_30 : decode cX5_setting 30 = .ok (.aload_n 1, 1) := by decide +kernel
theorem dX5_setting_31 : decode cX5_setting 31 = .ok (.getstatic 94, 3) := by decide +kernel
theorem dX5_setting_34 : decode cX5_setting 34 = .ok (.iload_n 3, 1) := by decide +kernel
theorem dX5_setting_35 : decode cX5_setting 35 = .ok (.iaload, 1) := by decide +kernel
theorem dX5_setting_36 : decode cX5_setting 36 = .ok (.getstatic 97, 3) := by decide +kernel
theorem dX5_setting_39 : decode cX5_setting 39 = .ok (.iload_n 3, 1) := by decide +kernel
theorem dX5_setting_40 : decode cX5_setting 40 = .ok (.iaload, 1) := by decide +kernel
theorem dX5_setting_41 : decode cX5_setting 41 = .ok (.invokestatic 48, 3) := by decide +kernel
theorem dX5_setting_44 : decode cX5_setting 44 = .ok (.istore 4, 2) := by decide +kernel
theorem dX5_setting_46 : decode cX5_setting 46 = .ok (.iload 4, 2) := by decide +kernel
theorem dX5_setting_48 : decode cX5_setting 48 = .ok (.ifCond .ge 6, 3) := by decide +kernel
theorem dX5_setting_51 : decode cX5_setting 51 = .ok (.iload 4, 2) := by decide +kernel
theorem dX5_setting_53 : decode cX5_setting 53 = .ok (.ireturn, 1) := by decide +kernel
theorem dX5_setting_54 : decode cX5_setting 54 = .ok (.aload_n 0, 1) := by decide +kernel
theorem dX5_setting_55 : decode cX5_setting 55 = .ok (.dup, 1) := by decide +kernel
theorem dX5_setting_56 : decode cX5_setting 56 = .ok (.getfield 14, 3) := by decide +kernel
theorem dX5_setting_59 : decode cX5_setting 59 = .ok (.iconst 1, 1) := by decide +kernel
theorem dX5_setting_60 : decode cX5_setting 60 = .ok (.iload_n 3, 1) := by decide +kernel
theorem dX5_setting_61 : decode cX5_setting 61 = .ok (.ishl, 1) := by decide +kernel
theorem dX5_setting_62 : decode cX5_setting 62 = .ok (.ior, 1) := by decide +kernel
theorem dX5_setting_63 : decode cX5_setting 63 = .ok (.putfield 14, 3) := by decide +kernel
theorem dX5_setting_66 : decode cX5_setting 66 = .ok (.aload_n 2, 1) := by decide +kernel
theorem dX5_setting_67 : decode cX5_setting 67 = .ok (.getfield 100, 3) := by decide +kernel
theorem dX5_setting_70 : decode cX5_setting 70 = .ok (.iload_n 3, 1) := by decide +kernel
theorem dX5_setting_71 : decode cX5_setting 71 = .ok (.iload 4, 2) := by decide +kernel
theorem dX5_setting_73 : decode cX5_setting 73 = .ok (.iastore, 1) := by decide +kernel
theorem dX5_setting_74 : decode cX5_setting 74 = .ok (.aload_n 1, 1) := by decide +kernel
theorem dX5_setting_75 : decode cX5_setting 75 = .ok (.invokevirtual 20, 3) := by decide +kernel
theorem dX5_setting_78 : decode cX5_setting 78 = .ok (.iconst 0, 1) := by decide +kernel
theorem dX5_setting_79 : decode cX5_setting 79 = .ok (.ireturn, 1) := by decide +kernel
theorem dX5_newName_0 : decode cX5_newName 0 = .ok (.aload_n 0, 1) := by decide +kernel
theorem dX5_newName_1 : decode cX5_newName 1 = .ok (.invokevirtual 20, 3) := by decide +kernel
theorem dX5_newName_4 : decode cX5_newName 4 = .ok (.aload_n 0, 1) := by decide +kernel
theorem dX5_newName_5 : decode cX5_newName 5 = .ok (.getfield 25, 3) := by decide +kernel
theorem dX5_newName_8 : decode cX5_newName 8 = .ok (.iconst 1, 1) := by decide +kernel
theorem dX5_newName_9 : decode cX5_newName 9 = .ok (.if_icmp .eq 6, 3) := by decide +kernel
theorem dX5_newName_12 : decode cX5_newName 12 = .ok (.bipush (-11), 2) := by decide +kernel
theorem dX5_newName_14 : decode cX5_newName 14 = .ok (.ireturn, 1) := by decide +kernel
theorem dX5_newName_15 : decode cX5_newName 15 = .ok (.aload_n 0, 1) := by decide +kernel
theorem dX5_newName_16 : decode cX5_newName 16 = .ok (.invokevirtual 103, 3) := by decide +kernel
theorem dX5_newName_19 : decode cX5_newName 19 = .ok (.istore_n 2, 1) := by decide +kernel
theorem dX5_newName_20 : decode cX5_newName 20 = .ok (.aload_n 1, 1) := by decide +kernel
theorem dX5_newName_21 : decode cX5_newName 21 = .ok (.getfield 52, 3) := by decide +kernel
theorem dX5_newName_24 : decode cX5_newName 24 = .ok (.aload_n 1, 1) := by decide +kernel
theorem dX5_newName_25 : decode cX5_newName 25 = .ok (.getfield 41, 3) := by decide +kernel
theorem dX5_newName_28 : decode cX5_newName 28 = .ok (.iload_n 2, 1) := by decide +kernel
theorem dX5_newName_29 : decode cX5_newName 29 = .ok (.invokestatic 106, 3) := by decide +kernel
theorem dX5_newName_32 : decode cX5_newName 32 = .ok (.ifCond .ge 18, 3) := by decide +kernel
theorem dX5_newName_35 : decode cX5_newName 35 = .ok (.aload_n 1, 1) := by decide +kernel
theorem dX5_newName_36 : decode cX5_newName 36 = .ok (.getfield 66, 3) := by decide +kernel
theorem dX5_newName_39 : decode cX5_newName 39 = .ok (.aload_n 1, 1) := by decide +kernel
theorem dX5_newName_40 : decode cX5_newName 40 = .ok (.getfield 59, 3) := by decide +kernel
theorem dX5_newName_43 : decode cX5_newName 43 = .ok (.iload_n 2, 1) := by decide +kernel
theorem dX5_newName_44 : decode cX5_newName 44 = .ok (.invokestatic 106, 3) := by decide +kernel
theorem dX5_newName_47 : decode cX5_newName 47 = .ok (.ifCond .lt 7, 3) := by decide +kernel
theorem dX5_newName_50 : decode cX5_newName 50 = .ok (.iconst 1, 1) := by decide +kernel
theorem dX5_newName_51 : decode cX5_newName 51 = .ok (.goto 4, 3) := by decide +kernel
theorem dX5_newName_54 : decode cX5_newName 54 = .ok (.iconst 0, 1) := by decide +kernel
theorem dX5_newName_55 : decode cX5_newName 55 = .ok (.istore_n 3, 1) := by decide +kernel
theorem dX5_newName_56 : decode cX5_newName 56 = .ok (.iload_n 3, 1) := by decide +kernel
theorem dX5_newName_57 : decode cX5_newName 57 = .ok (.ifCond .eq 8, 3) := by decide +kernel
theorem dX5_newName_60 : decode cX5_newName 60 = .ok (.bipush (-14), 2) := by decide +kernel
theorem dX5_newName_62 : decode cX5_newName 62 = .ok (.goto 4, 3) := by decide +kernel
theorem dX5_newName_65 : decode cX5_newName 65 = .ok (.iload_n 2, 1) := by decide +kernel
theorem dX5_newName_66 : decode cX5_newName 66 = .ok (.ireturn, 1) := by decide +kernel
theorem dX5_integer_0 : decode cX5_integer 0 = .ok (.aload_n 0, 1) := by decide +kernel
theorem dX5_integer_1 : decode cX5_integer 1 = .ok (.invokevirtual 20, 3) := by decide +kernel
theorem dX5_integer_4 : decode cX5_integer 4 = .ok (.aload_n 0, 1) := by decide +kernel
theorem dX5_integer_5 : decode cX5_integer 5 = .ok (.getfield 25, 3) := by decide +kernel
theorem dX5_integer_8 : decode cX5_integer 8 = .ok (.iconst 2, 1) := by decide +kernel
theorem dX5_integer_9 : decode cX5_integer 9 = .ok (.if_icmp .eq 6, 3) := by decide +kernel
theorem dX5_integer_12 : decode cX5_integer 12 = .ok (.bipush (-11), 2) := by decide +kernel
theorem dX5_integer_14 : decode cX5_integer 14 = .ok (.ireturn, 1) := by decide +kernel
theorem dX5_integer_15 : decode cX5_integer 15 = .ok (.aload_n 0, 1) := by decide +kernel
theorem dX5_integer_16 : decode cX5_integer 16 = .ok (.invokevirtual 110, 3) := by decide +kernel
theorem dX5_integer_19 : decode cX5_integer 19 = .ok (.istore_n 3, 1) := by decide +kernel
theorem dX5_integer_20 : decode cX5_integer 20 = .ok (.iload_n 3, 1) := by decide +kernel
theorem dX5_integer_21 : decode cX5_integer 21 = .ok (.iload_n 1, 1) := by decide +kernel
theorem dX5_integer_22 : decode cX5_integer 22 = .ok (.if_icmp .lt 8, 3) := by decide +kernel
theorem dX5_integer_25 : decode cX5_integer 25 = .ok (.iload_n 3, 1) := by decide +kernel
theorem dX5_integer_26 : decode cX5_integer 26 = .ok (.iload_n 2, 1) := by decide +kernel
theorem dX5_integer_27 : decode cX5_integer 27 = .ok (.if_icmp .le 8, 3) := by decide +kernel
theorem dX5_integer_30 : decode cX5_integer 30 = .ok (.bipush (-12), 2) := by decide +kernel
theorem dX5_integer_32 : decode cX5_integer 32 = .ok (.goto 4, 3) := by decide +kernel
theorem dX5_integer_35 : decode cX5_integer 35 = .ok (.iload_n 3, 1) := by decide +kernel
theorem dX5_integer_36 : decode cX5_integer 36 = .ok (.ireturn, 1) := by decide +kernel
theorem dX5_list_0 : decode cX5_list 0 = .ok (.iconst 0, 1) := by decide +kernel
theorem dX5_list_1 : decode cX5_list 1 = .ok (.istore_n 3, 1) := by decide +kernel
theorem dX5_list_2 : decode cX5_list 2 = .ok (.iconst 0, 1) := by decide +kernel
theorem dX5_list_3 : decode cX5_list 3 = .ok (.istore 4, 2) := by decide +kernel
theorem dX5_list_5 : decode cX5_list 5 = .ok (.iload 4, 2) := by decide +kernel
theorem dX5_list_7 : decode cX5_list 7 = .ok (.iload_n 2, 1) := by decide +kernel
theorem dX5_list_8 : decode cX5_list 8 = .ok (.if_icmp .gt 70, 3) := by decide +kernel
theorem dX5_list_11 : decode cX5_list 11 = .ok (.aload_n 0, 1) := by decide +kernel
theorem dX5_list_12 : decode cX5_list 12 = .ok (.invokevirtual 20, 3) := by decide +kernel
theorem dX5_list_15 : decode cX5_list 15 = .ok (.aload_n 0, 1) := by decide +kernel
theorem dX5_list_16 : decode cX5_list 16 = .ok (.getfield 25, 3) := by decide +kernel
theorem dX5_list_19 : decode cX5_list 19 = .ok (.iconst 1, 1) := by decide +kernel
theorem dX5_list_20 : decode cX5_list 20 = .ok (.if_icmp .eq 14, 3) := by decide +kernel
theorem dX5_list_23 : decode cX5_list 23 = .ok (.iload_n 3, 1) := by decide +kernel
theorem dX5_list_24 : decode cX5_list 24 = .ok (.ifCond .ne 8, 3) := by decide +kernel
theorem dX5_list_27 : decode cX5_list 27 = .ok (.bipush (-11), 2) := by decide +kernel
theorem dX5_list_29 : decode cX5_list 29 = .ok (.goto 4, 3) := by decide +kernel
theorem dX5_list_32 : decode cX5_list 32 = .ok (.iload_n 3, 1) := by decide +kernel
theorem dX5_list_33 : decode cX5_list 33 = .ok (.ireturn, 1) := by decide +kernel
theorem dX5_list_34 : decode cX5_list 34 = .ok (.aload_n 1, 1) := by decide +kernel
theorem dX5_list_35 : decode cX5_list 35 = .ok (.iload_n 2, 1) := by decide +kernel
theorem dX5_list_36 : decode cX5_list 36 = .ok (.aload_n 0, 1) := by decide +kernel
theorem dX5_list_37 : decode cX5_list 37 = .ok (.invokevirtual 103, 3) := by decide +kernel
theorem dX5_list_40 : decode cX5_list 40 = .ok (.invokestatic 106, 3) := by decide +kernel
theorem dX5_list_43 : decode cX5_list 43 = .ok (.istore 5, 2) := by decide +kernel
theorem dX5_list_45 : decode cX5_list 45 = .ok (.iload 5, 2) := by decide +kernel
theorem dX5_list_47 : decode cX5_list 47 = .ok (.ifCond .ge 6, 3) := by decide +kernel
theorem dX5_list_50 : decode cX5_list 50 = .ok (.bipush (-13), 2) := by decide +kernel
theorem dX5_list_52 : decode cX5_list 52 = .ok (.ireturn, 1) := by decide +kernel
theorem dX5_list_53 : decode cX5_list 53 = .ok (.iload_n 3, 1) := by decide +kernel
theorem dX5_list_54 : decode cX5_list 54 = .ok (.iload 5, 2) := by decide +kernel
theorem dX5_list_56 : decode cX5_list 56 = .ok (.invokestatic 90, 3) := by decide +kernel
theorem dX5_list_59 : decode cX5_list 59 = .ok (.ifCond .eq 6, 3) := by decide +kernel
theorem dX5_list_62 : decode cX5_list 62 = .ok (.bipush (-14), 2) := by decide +kernel
theorem dX5_list_64 : decode cX5_list 64 = .ok (.ireturn, 1) := by decide +kernel
theorem dX5_list_65 : decode cX5_list 65 = .ok (.iload_n 3, 1) := by decide +kernel
theorem dX5_list_66 : decode cX5_list 66 = .ok (.iconst 1, 1) := by decide +kernel
theorem dX5_list_67 : decode cX5_list 67 = .ok (.iload 5, 2) := by decide +kernel
theorem dX5_list_69 : decode cX5_list 69 = .ok (.ishl, 1) := by decide +kernel
theorem dX5_list_70 : decode cX5_list 70 = .ok (.ior, 1) := by decide +kernel
theorem dX5_list_71 : decode cX5_list 71 = .ok (.istore_n 3, 1) := by decide +kernel
theorem dX5_list_72 : decode cX5_list 72 = .ok (.iinc 4 1, 3) := by decide +kernel
theorem dX5_list_75 : decode cX5_list 75 = .ok (.goto (-70), 3) := by decide +kernel
theorem dX5_list_78 : decode cX5_list 78 = .ok (.iload_n 3, 1) := by decide +kernel
theorem dX5_list_79 : decode cX5_list 79 = .ok (.ireturn, 1) := by decide +kernel
theorem dX6_init_0 : decode cX6_init 0 = .ok (.aload_n 0, 1) := by decide +kernel
theorem dX6_init_1 : decode cX6_init 1 = .ok (.invokespecial 3, 3) := by decide +kernel
theorem dX6_init_4 : decode cX6_init 4 = .ok (.aload_n 0, 1) := by decide +kernel
theorem dX6_init_5 : decode cX6_init 5 = .ok (.bipush 24, 2) := by decide +kernel
theorem dX6_init_7 : decode cX6_init 7 = .ok (.iconst 4, 1) := by decide +kernel
theorem dX6_init_8 : decode cX6_init 8 = .ok (.multianewarray 9 2, 4) := by decide +kernel
theorem dX6_init_12 : decode cX6_init 12 = .ok (.putfield 11, 3) := by decide +kernel
theorem dX6_init_15 : decode cX6_init 15 = .ok (.aload_n 0, 1) := by decide +kernel
theorem dX6_init_16 : decode cX6_init 16 = .ok (.bipush 12, 2) := by decide +kernel
theorem dX6_init_18 : decode cX6_init 18 = .ok (.bipush 24, 2) := by decide +kernel
theorem dX6_init_20 : decode cX6_init 20 = .ok (.multianewarray 9 2, 4) := by decide +kernel
theorem dX6_init_24 : decode cX6_init 24 = .ok (.putfield 16, 3) := by decide +kernel
theorem dX6_init_27 : decode cX6_init 27 = .ok (.aload_n 0, 1) := by decide +kernel
theorem dX6_init_28 : decode cX6_init 28 = .ok (.bipush 12, 2) := by decide +kernel
theorem dX6_init_30 : decode cX6_init 30 = .ok (.iconst 4, 1) := by decide +kernel
theorem dX6_init_31 : decode cX6_init 31 = .ok (.multianewarray 9 2, 4) := by decide +kernel
theorem dX6_init_35 : decode cX6_init 35 = .ok (.putfield 19, 3) := by decide +kernel
theorem dX6_init_38 : decode cX6_init 38 = .ok (.aload_n 0, 1) := by decide +kernel
theorem dX6_init_39 : decode cX6_init 39 = .ok (.bipush 12, 2) := by decide +kernel
theorem dX6_init_41 : decode cX6_init 41 = .ok (.bipush 13, 2) := by decide +kernel
theorem dX6_init_43 : decode cX6_init 43 = .ok (.multianewarray 9 2, 4) := by decide +kernel
theorem dX6_init_47 : decode cX6_init 47 = .ok (.putfield 22, 3) := by decide +kernel
theorem dX6_init_50 : decode cX6_init 50 = .ok (.aload_n 0, 1) := by decide +kernel
theorem dX6_init_51 : decode cX6_init 51 = .ok (.bipush 12, 2) := by decide +kernel
theorem dX6_init_53 : decode cX6_init 53 = .ok (.newarray .int, 2) := by decide +kernel
theorem dX6_init_55 : decode cX6_init 55 = .ok (.putfield 25, 3) := by decide +kernel
theorem dX6_init_58 : decode cX6_init 58 = .ok (.aload_n 0, 1) := by decide +kernel
theorem dX6_init_59 : decode cX6_init 59 = .ok (.bipush 24, 2) := by decide +kernel
theorem dX6_init_61 : decode cX6_init 61 = .ok (.newarray .int, 2) := by decide +kernel
theorem dX6_init_63 : decode cX6_init 63 = .ok (.putfield 29, 3) := by decide +kernel
theorem dX6_init_66 : decode cX6_init 66 = .ok (.aload_n 0, 1) := by decide +kernel
theorem dX6_init_67 : decode cX6_init 67 = .ok (.bipush 24, 2) := by decide +kernel
theorem dX6_init_69 : decode cX6_init 69 = .ok (.newarray .int, 2) := by decide +kernel
theorem dX6_init_71 : decode cX6_init 71 = .ok (.putfield 32, 3) := by decide +kernel
theorem dX6_init_74 : decode cX6_init 74 = .ok (.return_, 1) := by decide +kernel
theorem dX6_run_0 : decode cX6_run 0 = .ok (.aload_n 0, 1) := by decide +kernel
theorem dX6_run_1 : decode cX6_run 1 = .ok (.invokevirtual 35, 3) := by decide +kernel
theorem dX6_run_4 : decode cX6_run 4 = .ok (.aload_n 0, 1) := by decide +kernel
theorem dX6_run_5 : decode cX6_run 5 = .ok (.aload_n 1, 1) := by decide +kernel
theorem dX6_run_6 : decode cX6_run 6 = .ok (.iload_n 2, 1) := by decide +kernel
theorem dX6_run_7 : decode cX6_run 7 = .ok (.invokevirtual 38, 3) := by decide +kernel
theorem dX6_run_10 : decode cX6_run 10 = .ok (.iconst 0, 1) := by decide +kernel
theorem dX6_run_11 : decode cX6_run 11 = .ok (.istore_n 3, 1) := by decide +kernel
theorem dX6_run_12 : decode cX6_run 12 = .ok (.iload_n 3, 1) := by decide +kernel
theorem dX6_run_13 : decode cX6_run 13 = .ok (.aload_n 1, 1) := by decide +kernel
theorem dX6_run_14 : decode cX6_run 14 = .ok (.getfield 42, 3) := by decide +kernel
theorem dX6_run_17 : decode cX6_run 17 = .ok (.if_icmp .gt 39, 3) := by decide +kernel
theorem dX6_run_20 : decode cX6_run 20 = .ok (.aload_n 0, 1) := by decide +kernel
theorem dX6_run_21 : decode cX6_run 21 = .ok (.aload_n 1, 1) := by decide +kernel
theorem dX6_run_22 : decode cX6_run 22 = .ok (.iload_n 3, 1) := by decide +kernel
theorem dX6_run_23 : decode cX6_run 23 = .ok (.invokevirtual 48, 3) := by decide +kernel
theorem dX6_run_26 : decode cX6_run 26 = .ok (.istore 4, 2) := by decide +kernel
theorem dX6_run_28 : decode cX6_run 28 = .ok (.iload 4, 2) := by decide +kernel
theorem dX6_run_30 : decode cX6_run 30 = .ok (.ifCond .ge 4, 3) := by decide +kernel
theorem dX6_run_33 : decode cX6_run 33 = .ok (.return_, 1) := by decide +kernel
theorem dX6_run_34 : decode cX6_run 34 = .ok (.aload_n 0, 1) := by decide +kernel
theorem dX6_run_35 : decode cX6_run 35 = .ok (.aload_n 1, 1) := by decide +kernel
theorem dX6_run_36 : decode cX6_run 36 = .ok (.iload 4, 2) := by decide +kernel
theorem dX6_run_38 : decode cX6_run 38 = .ok (.aload_n 0, 1) := by decide +kernel
theorem dX6_run_39 : decode cX6_run 39 = .ok (.getfield 22, 3) := by decide +kernel
theorem dX6_run_42 : decode cX6_run 42 = .ok (.iload 4, 2) := by decide +kernel
theorem dX6_run_44 : decode cX6_run 44 = .ok (.aaload, 1) := by decide +kernel
theorem dX6_run_45 : decode cX6_run 45 = .ok (.iload_n 3, 1) := by decide +kernel
theorem dX6_run_46 : decode cX6_run 46 = .ok (.iaload, 1) := by decide +kernel
theorem dX6_run_47 : decode cX6_run 47 = .ok (.invokevirtual 52, 3) := by decide +kernel
theorem dX6_run_50 : decode cX6_run 50 = .ok (.iinc 3 1, 3) := by decide +kernel
theorem dX6_run_53 : decode cX6_run 53 = .ok (.goto (-41), 3) := by decide +kernel
theorem dX6_run_56 : decode cX6_run 56 = .ok (.return_, 1) := by decide +kernel
theorem dX6_clear_0 : decode cX6_clear 0 = .ok (.aload_n 0, 1) := by decide +kernel
theorem dX6_clear_1 : decode cX6_clear 1 = .ok (.iconst 0, 1) := by decide +kernel
theorem dX6_clear_2 : decode cX6_clear 2 = .ok (.putfield 56, 3) := by decide +kernel
theorem dX6_clear_5 : decode cX6_clear 5 = .ok (.aload_n 0, 1) := by decide +kernel
theorem dX6_clear_6 : decode cX6_clear 6 = .ok (.iconst 0, 1) := by decide +kernel
theorem dX6_clear_7 : decode cX6_clear 7 = .ok (.putfield 59, 3) := by decide +kernel
theorem dX6_clear_10 : decode cX6_clear 10 = .ok (.iconst 0, 1) := by decide +kernel
theorem dX6_clear_11 : decode cX6_clear 11 = .ok (.istore_n 1, 1) := by decide +kernel
theorem dX6_clear_12 : decode cX6_clear 12 = .ok (.iload_n 1, 1) := by decide +kernel
theorem dX6_clear_13 : decode cX6_clear 13 = .ok (.bipush 12, 2) := by decide +kernel
theorem dX6_clear_15 : decode cX6_clear 15 = .ok (.if_icmp .ge 29, 3) := by decide +kernel
theorem dX6_clear_18 : decode cX6_clear 18 = .ok (.aload_n 0, 1) := by decide +kernel
theorem dX6_clear_19 : decode cX6_clear 19 = .ok (.getfield 16, 3) := by decide +kernel
theorem dX6_clear_22 : decode cX6_clear 22 = .ok (.iload_n 1, 1) := by decide +kernel
theorem dX6_clear_23 : decode cX6_clear 23 = .ok (.aaload, 1) := by decide +kernel
theorem dX6_clear_24 : decode cX6_clear 24 = .ok (.iconst 0, 1) := by decide +kernel
theorem dX6_clear_25 : decode cX6_clear 25 = .ok (.invokestatic 62, 3) := by decide +kernel
theorem dX6_clear_28 : decode cX6_clear 28 = .ok (.aload_n 0, 1) := by decide +kernel
theorem dX6_clear_29 : decode cX6_clear 29 = .ok (.getfield 19, 3) := by decide +kernel
theorem dX6_clear_32 : decode cX6_clear 32 = .ok (.iload_n 1, 1) := by decide +kernel
theorem dX6_clear_33 : decode cX6_clear 33 = .ok (.aaload, 1) := by decide +kernel
theorem dX6_clear_34 : decode cX6_clear 34 = .ok (.iconst 0, 1) := by decide +kernel
theorem dX6_clear_35 : decode cX6_clear 35 = .ok (.invokestatic 62, 3) := by decide +kernel
theorem dX6_clear_38 : decode cX6_clear 38 = .ok (.iinc 1 1, 3) := by decide +kernel
theorem dX6_clear_41 : decode cX6_clear 41 = .ok (.goto (-29), 3) := by decide +kernel
theorem dX6_clear_44 : decode cX6_clear 44 = .ok (.return_, 1) := by decide +kernel
theorem dX6_fillPurses_0 : decode cX6_fillPurses 0 = .ok (.iconst 0, 1) := by decide +kernel
theorem dX6_fillPurses_1 : decode cX6_fillPurses 1 = .ok (.istore_n 3, 1) := by decide +kernel
theorem dX6_fillPurses_2 : decode cX6_fillPurses 2 = .ok (.iload_n 3, 1) := by decide +kernel
theorem dX6_fillPurses_3 : decode cX6_fillPurses 3 = .ok (.aload_n 1, 1) := by decide +kernel
theorem dX6_fillPurses_4 : decode cX6_fillPurses 4 = .ok (.getfield 68, 3) := by decide +kernel
theorem dX6_fillPurses_7 : decode cX6_fillPurses 7 = .ok (.if_icmp .ge 72, 3) := by decide +kernel
theorem dX6_fillPurses_10 : decode cX6_fillPurses 10 = .ok (.aload_n 1, 1) := by decide +kernel
theorem dX6_fillPurses_11 : decode cX6_fillPurses 11 = .ok (.iload_n 3, 1) := by decide +kernel
theorem dX6_fillPurses_12 : decode cX6_fillPurses 12 = .ok (.invokevirtual 71, 3) := by decide +kernel
theorem dX6_fillPurses_15 : decode cX6_fillPurses 15 = .ok (.istore 4, 2) := by decide +kernel
theorem dX6_fillPurses_17 : decode cX6_fillPurses 17 = .ok (.iconst 0, 1) := by decide +kernel
theorem dX6_fillPurses_18 : decode cX6_fillPurses 18 = .ok (.istore 5, 2) := by decide +kernel
theorem dX6_fillPurses_20 : decode cX6_fillPurses 20 = .ok (.iload 5, 2) := by decide +kernel
theorem dX6_fillPurses_22 : decode cX6_fillPurses 22 = .ok (.aload_n 1, 1) := by decide +kernel
theorem dX6_fillPurses_23 : decode cX6_fillPurses 23 = .ok (.getfield 75, 3) := by decide +kernel
theorem dX6_fillPurses_26 : decode cX6_fillPurses 26 = .ok (.if_icmp .ge 47, 3) := by decide +kernel
theorem dX6_fillPurses_29 : decode cX6_fillPurses 29 = .ok (.aload_n 0, 1) := by decide +kernel
theorem dX6_fillPurses_30 : decode cX6_fillPurses 30 = .ok (.getfield 11, 3) := by decide +kernel
theorem dX6_fillPurses_33 : decode cX6_fillPurses 33 = .ok (.iload 5, 2) := by decide +kernel
theorem dX6_fillPurses_35 : decode cX6_fillPurses 35 = .ok (.aaload, 1) := by decide +kernel
theorem dX6_fillPurses_36 : decode cX6_fillPurses 36 = .ok (.iload_n 3, 1) := by decide +kernel
theorem dX6_fillPurses_37 : decode cX6_fillPurses 37 = .ok (.aload_n 1, 1) := by decide +kernel
theorem dX6_fillPurses_38 : decode cX6_fillPurses 38 = .ok (.getfield 78, 3) := by decide +kernel
theorem dX6_fillPurses_41 : decode cX6_fillPurses 41 = .ok (.iload 5, 2) := by decide +kernel
theorem dX6_fillPurses_43 : decode cX6_fillPurses 43 = .ok (.iaload, 1) := by decide +kernel
theorem dX6_fillPurses_44 : decode cX6_fillPurses 44 = .ok (.iload_n 3, 1) := by decide +kernel
theorem dX6_fillPurses_45 : decode cX6_fillPurses 45 = .ok (.invokestatic 81, 3) := by decide +kernel
theorem dX6_fillPurses_48 : decode cX6_fillPurses 48 = .ok (.ifCond .eq 17, 3) := by decide +kernel
theorem dX6_fillPurses_51 : decode cX6_fillPurses 51 = .ok (.aload_n 1, 1) := by decide +kernel
theorem dX6_fillPurses_52 : decode cX6_fillPurses 52 = .ok (.iload 5, 2) := by decide +kernel
theorem dX6_fillPurses_54 : decode cX6_fillPurses 54 = .ok (.iload_n 3, 1) := by decide +kernel
theorem dX6_fillPurses_55 : decode cX6_fillPurses 55 = .ok (.iload 4, 2) := by decide +kernel
theorem dX6_fillPurses_57 : decode cX6_fillPurses 57 = .ok (.invokevirtual 85, 3) := by decide +kernel
theorem dX6_fillPurses_60 : decode cX6_fillPurses 60 = .ok (.iload_n 2, 1) := by decide +kernel
theorem dX6_fillPurses_61 : decode cX6_fillPurses 61 = .ok (.iadd, 1) := by decide +kernel
theorem dX6_fillPurses_62 : decode cX6_fillPurses 62 = .ok (.goto 4, 3) := by decide +kernel
theorem dX6_fillPurses_65 : decode cX6_fillPurses 65 = .ok (.iconst 0, 1) := by decide +kernel
theorem dX6_fillPurses_66 : decode cX6_fillPurses 66 = .ok (.iastore, 1) := by decide +kernel
theorem dX6_fillPurses_67 : decode cX6_fillPurses 67 = .ok (.iinc 5 1, 3) := by decide +kernel
theorem dX6_fillPurses_70 : decode cX6_fillPurses 70 = .ok (.goto (-50), 3) := by decide +kernel
theorem dX6_fillPurses_73 : decode cX6_fillPurses 73 = .ok (.iinc 3 1, 3) := by decide +kernel
theorem dX6_fillPurses_76 : decode cX6_fillPurses 76 = .ok (.goto (-74), 3) := by decide +kernel
theorem dX6_fillPurses_79 : decode cX6_fillPurses 79 = .ok (.return_, 1) := by decide +kernel
theorem dX6_choose_0 : decode cX6_choose 0 = .ok (.iconst (-1), 1) := by decide +kernel
theorem dX6_choose_1 : decode cX6_choose 1 = .ok (.istore_n 3, 1) := by decide +kernel
theorem dX6_choose_2 : decode cX6_choose 2 = .ok (.iconst 0, 1) := by decide +kernel
theorem dX6_choose_3 : decode cX6_choose 3 = .ok (.istore 4, 2) := by decide +kernel
theorem dX6_choose_5 : decode cX6_choose 5 = .ok (.iload 4, 2) := by decide +kernel
theorem dX6_choose_7 : decode cX6_choose 7 = .ok (.aload_n 1, 1) := by decide +kernel
theorem dX6_choose_8 : decode cX6_choose 8 = .ok (.getfield 42, 3) := by decide +kernel
theorem dX6_choose_11 : decode cX6_choose 11 = .ok (.if_icmp .ge 99, 3) := by decide +kernel
theorem dX6_choose_14 : decode cX6_choose 14 = .ok (.aload_n 0, 1) := by decide +kernel
theorem dX6_choose_15 : decode cX6_choose 15 = .ok (.getfield 59, 3) := by decide +kernel
theorem dX6_choose_18 : decode cX6_choose 18 = .ok (.iload 4, 2) := by decide +kernel
theorem dX6_choose_20 : decode cX6_choose 20 = .ok (.invokestatic 81, 3) := by decide +kernel
theorem dX6_choose_23 : decode cX6_choose 23 = .ok (.ifCond .ne 24, 3) := by decide +kernel
theorem dX6_choose_26 : decode cX6_choose 26 = .ok (.aload_n 0, 1) := by decide +kernel
theorem dX6_choose_27 : decode cX6_choose 27 = .ok (.aload_n 1, 1) := by decide +kernel
theorem dX6_choose_28 : decode cX6_choose 28 = .ok (.iload 4, 2) := by decide +kernel
theorem dX6_choose_30 : decode cX6_choose 30 = .ok (.invokevirtual 89, 3) := by decide +kernel
theorem dX6_choose_33 : decode cX6_choose 33 = .ok (.aload_n 1, 1) := by decide +kernel
theorem dX6_choose_34 : decode cX6_choose 34 = .ok (.getfield 92, 3) := by decide +kernel
theorem dX6_choose_37 : decode cX6_choose 37 = .ok (.iload 4, 2) := by decide +kernel
theorem dX6_choose_39 : decode cX6_choose 39 = .ok (.iaload, 1) := by decide +kernel
theorem dX6_choose_40 : decode cX6_choose 40 = .ok (.if_icmp .lt 7, 3) := by decide +kernel
theorem dX6_choose_43 : decode cX6_choose 43 = .ok (.iconst 1, 1) := by decide +kernel
theorem dX6_choose_44 : decode cX6_choose 44 = .ok (.goto 4, 3) := by decide +kernel
theorem dX6_choose_47 : decode cX6_choose 47 = .ok (.iconst 0, 1) := by decide +kernel
theorem dX6_choose_48 : decode cX6_choose 48 = .ok (.istore 5, 2) := by decide +kernel
theorem dX6_choose_50 : decode cX6_choose 50 = .ok (.iload 5, 2) := by decide +kernel
theorem dX6_choose_52 : decode cX6_choose 52 = .ok (.ifCond .eq 13, 3) := by decide +kernel
theorem dX6_choose_55 : decode cX6_choose 55 = .ok (.aload_n 0, 1) := by decide +kernel
theorem dX6_choose_56 : decode cX6_choose 56 = .ok (.aload_n 1, 1) := by decide +kernel
theorem dX6_choose_57 : decode cX6_choose 57 = .ok (.iload 4, 2) := by decide +kernel
theorem dX6_choose_59 : decode cX6_choose 59 = .ok (.invokevirtual 95, 3) := by decide +kernel
theorem dX6_choose_62 : decode cX6_choose 62 = .ok (.goto 4, 3) := by decide +kernel
theorem dX6_choose_65 : decode cX6_choose 65 = .ok (.iconst (-1), 1) := by decide +kernel
theorem dX6_choose_66 : decode cX6_choose 66 = .ok (.istore 6, 2) := by decide +kernel
theorem dX6_choose_68 : decode cX6_choose 68 = .ok (.aload_n 0, 1) := by decide +kernel
theorem dX6_choose_69 : decode cX6_choose 69 = .ok (.getfield 22, 3) := by decide +kernel
theorem dX6_choose_72 : decode cX6_choose 72 = .ok (.iload 4, 2) := by decide +kernel
theorem dX6_choose_74 : decode cX6_choose 74 = .ok (.aaload, 1) := by decide +kernel
theorem dX6_choose_75 : decode cX6_choose 75 = .ok (.iload_n 2, 1) := by decide +kernel
theorem dX6_choose_76 : decode cX6_choose 76 = .ok (.iload 6, 2) := by decide +kernel
theorem dX6_choose_78 : decode cX6_choose 78 = .ok (.iastore, 1) := by decide +kernel
theorem dX6_choose_79 : decode cX6_choose 79 = .ok (.iload 6, 2) := by decide +kernel
theorem dX6_choose_81 : decode cX6_choose 81 = .ok (.iconst (-1), 1) := by decide +kernel
theorem dX6_choose_82 : decode cX6_choose 82 = .ok (.if_icmp .eq 22, 3) := by decide +kernel
theorem dX6_choose_85 : decode cX6_choose 85 = .ok (.iload_n 3, 1) := by decide +kernel
theorem dX6_choose_86 : decode cX6_choose 86 = .ok (.ifCond .lt 15, 3) := by decide +kernel
theorem dX6_choose_89 : decode cX6_choose 89 = .ok (.aload_n 0, 1) := by decide +kernel
theorem dX6_choose_90 : decode cX6_choose 90 = .ok (.aload_n 1, 1) := by decide +kernel
theorem dX6_choose_91 : decode cX6_choose 91 = .ok (.iload 4, 2) := by decide +kernel
theorem dX6_choose_93 : decode cX6_choose 93 = .ok (.iload_n 3, 1) := by decide +kernel
theorem dX6_choose_94 : decode cX6_choose 94 = .ok (.iload_n 2, 1) := by decide +kernel
theorem dX6_choose_95 : decode cX6_choose 95 = .ok (.invokevirtual 98, 3) := by decide +kernel
theorem dX6_choose_98 : decode cX6_choose 98 = .ok (.ifCond .eq 6, 3) := by decide +kernel
theorem dX6_choose_101 : decode cX6_choose 101 = .ok (.iload 4, 2) := by decide +kernel
theorem dX6_choose_103 : decode cX6_choose 103 = .ok (.istore_n 3, 1) := by decide +kernel
theorem dX6_choose_104 : decode cX6_choose 104 = .ok (.iinc 4 1, 3) := by decide +kernel
theorem dX6_choose_107 : decode cX6_choose 107 = .ok (.goto (-102), 3) := by decide +kernel
theorem dX6_choose_110 : decode cX6_choose 110 = .ok (.iload_n 3, 1) := by decide +kernel
theorem dX6_choose_111 : decode cX6_choose 111 = .ok (.ireturn, 1) := by decide +kernel
theorem dX6_isBetter_0 : decode cX6_isBetter 0 = .ok (.aload_n 0, 1) := by decide +kernel
theorem dX6_isBetter_1 : decode cX6_isBetter 1 = .ok (.getfield 22, 3) := by decide +kernel
theorem dX6_isBetter_4 : decode cX6_isBetter 4 = .ok (.iload_n 2, 1) := by decide +kernel
theorem dX6_isBetter_5 : decode cX6_isBetter 5 = .ok (.aaload, 1) := by decide +kernel
theorem dX6_isBetter_6 : decode cX6_isBetter 6 = .ok (.iload 4, 2) := by decide +kernel
theorem dX6_isBetter_8 : decode cX6_isBetter 8 = .ok (.iaload, 1) := by decide +kernel
theorem dX6_isBetter_9 : decode cX6_isBetter 9 = .ok (.i2l, 1) := by decide +kernel
theorem dX6_isBetter_10 : decode cX6_isBetter 10 = .ok (.lstore 5, 2) := by decide +kernel
theorem dX6_isBetter_12 : decode cX6_isBetter 12 = .ok (.aload_n 0, 1) := by decide +kernel
theorem dX6_isBetter_13 : decode cX6_isBetter 13 = .ok (.getfield 22, 3) := by decide +kernel
theorem dX6_isBetter_16 : decode cX6_isBetter 16 = .ok (.iload_n 3, 1) := by decide +kernel
theorem dX6_isBetter_17 : decode cX6_isBetter 17 = .ok (.aaload, 1) := by decide +kernel
theorem dX6_isBetter_18 : decode cX6_isBetter 18 = .ok (.iload 4, 2) := by decide +kernel
theorem dX6_isBetter_20 : decode cX6_isBetter 20 = .ok (.iaload, 1) := by decide +kernel
theorem dX6_isBetter_21 : decode cX6_isBetter 21 = .ok (.i2l, 1) := by decide +kernel
theorem dX6_isBetter_22 : decode cX6_isBetter 22 = .ok (.lstore 7, 2) := by decide +kernel
theorem dX6_isBetter_24 : decode cX6_isBetter 24 = .ok (.aload_n 1, 1) := by decide +kernel
theorem dX6_isBetter_25 : decode cX6_isBetter 25 = .ok (.getfield 102, 3) := by decide +kernel
theorem dX6_isBetter_28 : decode cX6_isBetter 28 = .ok (.iconst 0, 1) := by decide +kernel
theorem dX6_isBetter_29 : decode cX6_isBetter 29 = .ok (.iaload, 1) := by decide +kernel
theorem dX6_isBetter_30 : decode cX6_isBetter 30 = .ok (.ifCond .eq 27, 3) := by decide +kernel
theorem dX6_isBetter_33 : decode cX6_isBetter 33 = .ok (.lload 5, 2) := by decide +kernel
theorem dX6_isBetter_35 : decode cX6_isBetter 35 = .ok (.aload_n 1, 1) := by decide +kernel
theorem dX6_isBetter_36 : decode cX6_isBetter 36 = .ok (.getfield 92, 3) := by decide +kernel
theorem dX6_isBetter_39 : decode cX6_isBetter 39 = .ok (.iload_n 3, 1) := by decide +kernel
theorem dX6_isBetter_40 : decode cX6_isBetter 40 = .ok (.iaload, 1) := by decide +kernel
theorem dX6_isBetter_41 : decode cX6_isBetter 41 = .ok (.i2l, 1) := by decide +kernel
theorem dX6_isBetter_42 : decode cX6_isBetter 42 = .ok (.lmul, 1) := by decide +kernel
theorem dX6_isBetter_43 : decode cX6_isBetter 43 = .ok (.lstore 5, 2) := by decide +kernel
theorem dX6_isBetter_45 : decode cX6_isBetter 45 = .ok (.lload 7, 2) := by decide +kernel
theorem dX6_isBetter_47 : decode cX6_isBetter 47 = .ok (.aload_n 1, 1) := by decide +kernel
theorem dX6_isBetter_48 : decode cX6_isBetter 48 = .ok (.getfield 92, 3) := by decide +kernel
theorem dX6_isBetter_51 : decode cX6_isBetter 51 = .ok (.iload_n 2, 1) := by decide +kernel
theorem dX6_isBetter_52 : decode cX6_isBetter 52 = .ok (.iaload, 1) := by decide +kernel
theorem dX6_isBetter_53 : decode cX6_isBetter 53 = .ok (.i2l, 1) := by decide +kernel
theorem dX6_isBetter_54 : decode cX6_isBetter 54 = .ok (.lmul, 1) := by decide +kernel
theorem dX6_isBetter_55 : decode cX6_isBetter 55 = .ok (.lstore 7, 2) := by decide +kernel
theorem dX6_isBetter_57 : decode cX6_isBetter 57 = .ok (.lload 5, 2) := by decide +kernel
theorem dX6_isBetter_59 : decode cX6_isBetter 59 = .ok (.lload 7, 2) := by decide +kernel
theorem dX6_isBetter_61 : decode cX6_isBetter 61 = .ok (.lcmp, 1) := by decide +kernel
theorem dX6_isBetter_62 : decode cX6_isBetter 62 = .ok (.ifCond .lt 26, 3) := by decide +kernel
theorem dX6_isBetter_65 : decode cX6_isBetter 65 = .ok (.lload 5, 2) := by decide +kernel
theorem dX6_isBetter_67 : decode cX6_isBetter 67 = .ok (.lload 7, 2) := by decide +kernel
theorem dX6_isBetter_69 : decode cX6_isBetter 69 = .ok (.lcmp, 1) := by decide +kernel
theorem dX6_isBetter_70 : decode cX6_isBetter 70 = .ok (.ifCond .ne 22, 3) := by decide +kernel
theorem dX6_isBetter_73 : decode cX6_isBetter 73 = .ok (.aload_n 1, 1) := by decide +kernel
theorem dX6_isBetter_74 : decode cX6_isBetter 74 = .ok (.getfield 105, 3) := by decide +kernel
theorem dX6_isBetter_77 : decode cX6_isBetter 77 = .ok (.iload_n 2, 1) := by decide +kernel
theorem dX6_isBetter_78 : decode cX6_isBetter 78 = .ok (.iaload, 1) := by decide +kernel
theorem dX6_isBetter_79 : decode cX6_isBetter 79 = .ok (.aload_n 1, 1) := by decide +kernel
theorem dX6_isBetter_80 : decode cX6_isBetter 80 = .ok (.getfield 105, 3) := by decide +kernel
theorem dX6_isBetter_83 : decode cX6_isBetter 83 = .ok (.iload_n 3, 1) := by decide +kernel
theorem dX6_isBetter_84 : decode cX6_isBetter 84 = .ok (.iaload, 1) := by decide +kernel
theorem dX6_isBetter_85 : decode cX6_isBetter 85 = .ok (.if_icmp .le 7, 3) := by decide +kernel
theorem dX6_isBetter_88 : decode cX6_isBetter 88 = .ok (.iconst 1, 1) := by decide +kernel
theorem dX6_isBetter_89 : decode cX6_isBetter 89 = .ok (.goto 4, 3) := by decide +kernel
theorem dX6_isBetter_92 : decode cX6_isBetter 92 = .ok (.iconst 0, 1) := by decide +kernel
theorem dX6_isBetter_93 : decode cX6_isBetter 93 = .ok (.ireturn, 1) := by decide +kernel
theorem dX6_weigh_0 : decode cX6_weigh 0 = .ok (.iconst 0, 1) := by decide +kernel
theorem dX6_weigh_1 : decode cX6_weigh 1 = .ok (.istore_n 3, 1) := by decide +kernel
theorem dX6_weigh_2 : decode cX6_weigh 2 = .ok (.iconst 0, 1) := by decide +kernel
theorem dX6_weigh_3 : decode cX6_weigh 3 = .ok (.istore 4, 2) := by decide +kernel
theorem dX6_weigh_5 : decode cX6_weigh 5 = .ok (.iload 4, 2) := by decide +kernel
theorem dX6_weigh_7 : decode cX6_weigh 7 = .ok (.aload_n 1, 1) := by decide +kernel
theorem dX6_weigh_8 : decode cX6_weigh 8 = .ok (.getfield 75, 3) := by decide +kernel
theorem dX6_weigh_11 : decode cX6_weigh 11 = .ok (.if_icmp .ge 83, 3) := by decide +kernel
theorem dX6_weigh_14 : decode cX6_weigh 14 = .ok (.aload_n 1, 1) := by decide +kernel
theorem dX6_weigh_15 : decode cX6_weigh 15 = .ok (.getfield 108, 3) := by decide +kernel
theorem dX6_weigh_18 : decode cX6_weigh 18 = .ok (.iload_n 2, 1) := by decide +kernel
theorem dX6_weigh_19 : decode cX6_weigh 19 = .ok (.iaload, 1) := by decide +kernel
theorem dX6_weigh_20 : decode cX6_weigh 20 = .ok (.iload 4, 2) := by decide +kernel
theorem dX6_weigh_22 : decode cX6_weigh 22 = .ok (.invokestatic 81, 3) := by decide +kernel
theorem dX6_weigh_25 : decode cX6_weigh 25 = .ok (.istore 5, 2) := by decide +kernel
theorem dX6_weigh_27 : decode cX6_weigh 27 = .ok (.aload_n 0, 1) := by decide +kernel
theorem dX6_weigh_28 : decode cX6_weigh 28 = .ok (.getfield 29, 3) := by decide +kernel
theorem dX6_weigh_31 : decode cX6_weigh 31 = .ok (.iload 4, 2) := by decide +kernel
theorem dX6_weigh_33 : decode cX6_weigh 33 = .ok (.iload 5, 2) := by decide +kernel
theorem dX6_weigh_35 : decode cX6_weigh 35 = .ok (.ifCond .eq 13, 3) := by decide +kernel
theorem dX6_weigh_38 : decode cX6_weigh 38 = .ok (.aload_n 1, 1) := by decide +kernel
theorem dX6_weigh_39 : decode cX6_weigh 39 = .ok (.getfield 111, 3) := by decide +kernel
theorem dX6_weigh_42 : decode cX6_weigh 42 = .ok (.iload 4, 2) := by decide +kernel
theorem dX6_weigh_44 : decode cX6_weigh 44 = .ok (.iaload, 1) := by decide +kernel
theorem dX6_weigh_45 : decode cX6_weigh 45 = .ok (.goto 4, 3) := by decide +kernel
theorem dX6_weigh_48 : decode cX6_weigh 48 = .ok (.iconst 0, 1) := by decide +kernel
theorem dX6_weigh_49 : decode cX6_weigh 49 = .ok (.iastore, 1) := by decide +kernel
theorem dX6_weigh_50 : decode cX6_weigh 50 = .ok (.aload_n 0, 1) := by decide +kernel
theorem dX6_weigh_51 : decode cX6_weigh 51 = .ok (.getfield 32, 3) := by decide +kernel
theorem dX6_weigh_54 : decode cX6_weigh 54 = .ok (.iload 4, 2) := by decide +kernel
theorem dX6_weigh_56 : decode cX6_weigh 56 = .ok (.iload 5, 2) := by decide +kernel
theorem dX6_weigh_58 : decode cX6_weigh 58 = .ok (.ifCond .eq 18, 3) := by decide +kernel
theorem dX6_weigh_61 : decode cX6_weigh 61 = .ok (.aload_n 0, 1) := by decide +kernel
theorem dX6_weigh_62 : decode cX6_weigh 62 = .ok (.iload 4, 2) := by decide +kernel
theorem dX6_weigh_64 : decode cX6_weigh 64 = .ok (.aload_n 1, 1) := by decide +kernel
theorem dX6_weigh_65 : decode cX6_weigh 65 = .ok (.getfield 114, 3) := by decide +kernel
theorem dX6_weigh_68 : decode cX6_weigh 68 = .ok (.iload_n 2, 1) := by decide +kernel
theorem dX6_weigh_69 : decode cX6_weigh 69 = .ok (.iaload, 1) := by decide +kernel
theorem dX6_weigh_70 : decode cX6_weigh 70 = .ok (.invokevirtual 117, 3) := by decide +kernel
theorem dX6_weigh_73 : decode cX6_weigh 73 = .ok (.goto 4, 3) := by decide +kernel
theorem dX6_weigh_76 : decode cX6_weigh 76 = .ok (.iconst 0, 1) := by decide +kernel
theorem dX6_weigh_77 : decode cX6_weigh 77 = .ok (.iastore, 1) := by decide +kernel
theorem dX6_weigh_78 : decode cX6_weigh 78 = .ok (.iload_n 3, 1) := by decide +kernel
theorem dX6_weigh_79 : decode cX6_weigh 79 = .ok (.aload_n 0, 1) := by decide +kernel
theorem dX6_weigh_80 : decode cX6_weigh 80 = .ok (.getfield 32, 3) := by decide +kernel
theorem dX6_weigh_83 : decode cX6_weigh 83 = .ok (.iload 4, 2) := by decide +kernel
theorem dX6_weigh_85 : decode cX6_weigh 85 = .ok (.iaload, 1) := by decide +kernel
theorem dX6_weigh_86 : decode cX6_weigh 86 = .ok (.iadd, 1) := by decide +kernel
theorem dX6_weigh_87 : decode cX6_weigh 87 = .ok (.istore_n 3, 1) := by decide +kernel
theorem dX6_weigh_88 : decode cX6_weigh 88 = .ok (.iinc 4 1, 3) := by decide +kernel
theorem dX6_weigh_91 : decode cX6_weigh 91 = .ok (.goto (-86), 3) := by decide +kernel
theorem dX6_weigh_94 : decode cX6_weigh 94 = .ok (.iload_n 3, 1) := by decide +kernel
theorem dX6_weigh_95 : decode cX6_weigh 95 = .ok (.ireturn, 1) := by decide +kernel
theorem dX6_leastPrice_0 : decode cX6_leastPrice 0 = .ok (.aload_n 1, 1) := by decide +kernel
theorem dX6_leastPrice_1 : decode cX6_leastPrice 1 = .ok (.getfield 92, 3) := by decide +kernel
theorem dX6_leastPrice_4 : decode cX6_leastPrice 4 = .ok (.iload_n 2, 1) := by decide +kernel
theorem dX6_leastPrice_5 : decode cX6_leastPrice 5 = .ok (.iaload, 1) := by decide +kernel
theorem dX6_leastPrice_6 : decode cX6_leastPrice 6 = .ok (.istore_n 3, 1) := by decide +kernel
theorem dX6_leastPrice_7 : decode cX6_leastPrice 7 = .ok (.aload_n 1, 1) := by decide +kernel
theorem dX6_leastPrice_8 : decode cX6_leastPrice 8 = .ok (.getfield 105, 3) := by decide +kernel
theorem dX6_leastPrice_11 : decode cX6_leastPrice 11 = .ok (.iload_n 2, 1) := by decide +kernel
theorem dX6_leastPrice_12 : decode cX6_leastPrice 12 = .ok (.iaload, 1) := by decide +kernel
theorem dX6_leastPrice_13 : decode cX6_leastPrice 13 = .ok (.istore 4, 2) := by decide +kernel
theorem dX6_leastPrice_15 : decode cX6_leastPrice 15 = .ok (.iconst 0, 1) := by decide +kernel
theorem dX6_leastPrice_16 : decode cX6_leastPrice 16 = .ok (.istore 5, 2) := by decide +kernel
theorem dX6_leastPrice_18 : decode cX6_leastPrice 18 = .ok (.iconst 0, 1) := by decide +kernel
theorem dX6_leastPrice_19 : decode cX6_leastPrice 19 = .ok (.istore 6, 2) := by decide +kernel
theorem dX6_leastPrice_21 : decode cX6_leastPrice 21 = .ok (.iload 6, 2) := by decide +kernel
theorem dX6_leastPrice_23 : decode cX6_leastPrice 23 = .ok (.bipush 24, 2) := by decide +kernel
theorem dX6_leastPrice_25 : decode cX6_leastPrice 25 = .ok (.if_icmp .gt 110, 3) := by decide +kernel
theorem dX6_leastPrice_28 : decode cX6_leastPrice 28 = .ok (.iload 4, 2) := by decide +kernel
theorem dX6_leastPrice_30 : decode cX6_leastPrice 30 = .ok (.ifCond .le 105, 3) := by decide +kernel
theorem dX6_leastPrice_33 : decode cX6_leastPrice 33 = .ok (.iload_n 3, 1) := by decide +kernel
theorem dX6_leastPrice_34 : decode cX6_leastPrice 34 = .ok (.iload 4, 2) := by decide +kernel
theorem dX6_leastPrice_36 : decode cX6_leastPrice 36 = .ok (.iadd, 1) := by decide +kernel
theorem dX6_leastPrice_37 : decode cX6_leastPrice 37 = .ok (.iconst 1, 1) := by decide +kernel
theorem dX6_leastPrice_38 : decode cX6_leastPrice 38 = .ok (.isub, 1) := by decide +kernel
theorem dX6_leastPrice_39 : decode cX6_leastPrice 39 = .ok (.iload 4, 2) := by decide +kernel
theorem dX6_leastPrice_41 : decode cX6_leastPrice 41 = .ok (.idiv, 1) := by decide +kernel
theorem dX6_leastPrice_42 : decode cX6_leastPrice 42 = .ok (.istore 5, 2) := by decide +kernel
theorem dX6_leastPrice_44 : decode cX6_leastPrice 44 = .ok (.aload_n 1, 1) := by decide +kernel
theorem dX6_leastPrice_45 : decode cX6_leastPrice 45 = .ok (.getfield 92, 3) := by decide +kernel
theorem dX6_leastPrice_48 : decode cX6_leastPrice 48 = .ok (.iload_n 2, 1) := by decide +kernel
theorem dX6_leastPrice_49 : decode cX6_leastPrice 49 = .ok (.iaload, 1) := by decide +kernel
theorem dX6_leastPrice_50 : decode cX6_leastPrice 50 = .ok (.istore_n 3, 1) := by decide +kernel
theorem dX6_leastPrice_51 : decode cX6_leastPrice 51 = .ok (.iconst 0, 1) := by decide +kernel
theorem dX6_leastPrice_52 : decode cX6_leastPrice 52 = .ok (.istore 4, 2) := by decide +kernel
theorem dX6_leastPrice_54 : decode cX6_leastPrice 54 = .ok (.iconst 0, 1) := by decide +kernel
theorem dX6_leastPrice_55 : decode cX6_leastPrice 55 = .ok (.istore 7, 2) := by decide +kernel
theorem dX6_leastPrice_57 : decode cX6_leastPrice 57 = .ok (.iload 7, 2) := by decide +kernel
theorem dX6_leastPrice_59 : decode cX6_leastPrice 59 = .ok (.aload_n 1, 1) := by decide +kernel
theorem dX6_leastPrice_60 : decode cX6_leastPrice 60 = .ok (.getfield 75, 3) := by decide +kernel
theorem dX6_leastPrice_63 : decode cX6_leastPrice 63 = .ok (.if_icmp .ge 54, 3) := by decide +kernel
theorem dX6_leastPrice_66 : decode cX6_leastPrice 66 = .ok (.aload_n 0, 1) := by decide +kernel
theorem dX6_leastPrice_67 : decode cX6_leastPrice 67 = .ok (.getfield 32, 3) := by decide +kernel
theorem dX6_leastPrice_70 : decode cX6_leastPrice 70 = .ok (.iload 7, 2) := by decide +kernel
theorem dX6_leastPrice_72 : decode cX6_leastPrice 72 = .ok (.iaload, 1) := by decide +kernel
theorem dX6_leastPrice_73 : decode cX6_leastPrice 73 = .ok (.iload 5, 2) := by decide +kernel
theorem dX6_leastPrice_75 : decode cX6_leastPrice 75 = .ok (.aload_n 0, 1) := by decide +kernel
theorem dX6_leastPrice_76 : decode cX6_leastPrice 76 = .ok (.getfield 29, 3) := by decide +kernel
theorem dX6_leastPrice_79 : decode cX6_leastPrice 79 = .ok (.iload 7, 2) := by decide +kernel
theorem dX6_leastPrice_81 : decode cX6_leastPrice 81 = .ok (.iaload, 1) := by decide +kernel
theorem dX6_leastPrice_82 : decode cX6_leastPrice 82 = .ok (.imul, 1) := by decide +kernel
theorem dX6_leastPrice_83 : decode cX6_leastPrice 83 = .ok (.if_icmp .ge 16, 3) := by decide +kernel
theorem dX6_leastPrice_86 : decode cX6_leastPrice 86 = .ok (.iload_n 3, 1) := by decide +kernel
theorem dX6_leastPrice_87 : decode cX6_leastPrice 87 = .ok (.aload_n 0, 1) := by decide +kernel
theorem dX6_leastPrice_88 : decode cX6_leastPrice 88 = .ok (.getfield 32, 3) := by decide +kernel
theorem dX6_leastPrice_91 : decode cX6_leastPrice 91 = .ok (.iload 7, 2) := by decide +kernel
theorem dX6_leastPrice_93 : decode cX6_leastPrice 93 = .ok (.iaload, 1) := by decide +kernel
theorem dX6_leastPrice_94 : decode cX6_leastPrice 94 = .ok (.isub, 1) := by decide +kernel
theorem dX6_leastPrice_95 : decode cX6_leastPrice 95 = .ok (.istore_n 3, 1) := by decide +kernel
theorem dX6_leastPrice_96 : decode cX6_leastPrice 96 = .ok (.goto 15, 3) := by decide +kernel
theorem dX6_leastPrice_99 : decode cX6_leastPrice 99 = .ok (.iload 4, 2) := by decide +kernel
theorem dX6_leastPrice_101 : decode cX6_leastPrice 101 = .ok (.aload_n 0, 1) := by decide +kernel
theorem dX6_leastPrice_102 : decode cX6_leastPrice 102 = .ok (.getfield 29, 3) := by decide +kernel
theorem dX6_leastPrice_105 : decode cX6_leastPrice 105 = .ok (.iload 7, 2) := by decide +kernel
theorem dX6_leastPrice_107 : decode cX6_leastPrice 107 = .ok (.iaload, 1) := by decide +kernel
theorem dX6_leastPrice_108 : decode cX6_leastPrice 108 = .ok (.iadd, 1) := by decide +kernel
theorem dX6_leastPrice_109 : decode cX6_leastPrice 109 = .ok (.istore 4, 2) := by decide +kernel
theorem dX6_leastPrice_111 : decode cX6_leastPrice 111 = .ok (.iinc 7 1, 3) := by decide +kernel
theorem dX6_leastPrice_114 : decode cX6_leastPrice 114 = .ok (.goto (-57), 3) := by decide +kernel
theorem dX6_leastPrice_117 : decode cX6_leastPrice 117 = .ok (.iload_n 3, 1) := by decide +kernel
theorem dX6_leastPrice_118 : decode cX6_leastPrice 118 = .ok (.iload 5, 2) := by decide +kernel
theorem dX6_leastPrice_120 : decode cX6_leastPrice 120 = .ok (.iload 4, 2) := by decide +kernel
theorem dX6_leastPrice_122 : decode cX6_leastPrice 122 = .ok (.imul, 1) := by decide +kernel
theorem dX6_leastPrice_123 : decode cX6_leastPrice 123 = .ok (.if_icmp .gt 6, 3) := by decide +kernel
theorem dX6_leastPrice_126 : decode cX6_leastPrice 126 = .ok (.iload 5, 2) := by decide +kernel
theorem dX6_leastPrice_128 : decode cX6_leastPrice 128 = .ok (.ireturn, 1) := by decide +kernel
theorem dX6_leastPrice_129 : decode cX6_leastPrice 129 = .ok (.iinc 6 1, 3) := by decide +kernel
theorem dX6_leastPrice_132 : decode cX6_leastPrice 132 = .ok (.goto (-111), 3) := by decide +kernel
theorem dX6_leastPrice_135 : decode cX6_leastPrice 135 = .ok (.iload 5, 2) := by decide +kernel
theorem dX6_leastPrice_137 : decode cX6_leastPrice 137 = .ok (.ireturn, 1) := by decide +kernel
theorem dX6_fund_0 : decode cX6_fund 0 = .ok (.aload_n 1, 1) := by decide +kernel
theorem dX6_fund_1 : decode cX6_fund 1 = .ok (.getfield 92, 3) := by decide +kernel
theorem dX6_fund_4 : decode cX6_fund 4 = .ok (.iload_n 2, 1) := by decide +kernel
theorem dX6_fund_5 : decode cX6_fund 5 = .ok (.iaload, 1) := by decide +kernel
theorem dX6_fund_6 : decode cX6_fund 6 = .ok (.ineg, 1) := by decide +kernel
theorem dX6_fund_7 : decode cX6_fund 7 = .ok (.istore 4, 2) := by decide +kernel
theorem dX6_fund_9 : decode cX6_fund 9 = .ok (.aload_n 0, 1) := by decide +kernel
theorem dX6_fund_10 : decode cX6_fund 10 = .ok (.aload_n 1, 1) := by decide +kernel
theorem dX6_fund_11 : decode cX6_fund 11 = .ok (.iload_n 2, 1) := by decide +kernel
theorem dX6_fund_12 : decode cX6_fund 12 = .ok (.invokevirtual 89, 3) := by decide +kernel
theorem dX6_fund_15 : decode cX6_fund 15 = .ok (.pop, 1) := by decide +kernel
theorem dX6_fund_16 : decode cX6_fund 16 = .ok (.iconst 0, 1) := by decide +kernel
theorem dX6_fund_17 : decode cX6_fund 17 = .ok (.istore 5, 2) := by decide +kernel
theorem dX6_fund_19 : decode cX6_fund 19 = .ok (.iload 5, 2) := by decide +kernel
theorem dX6_fund_21 : decode cX6_fund 21 = .ok (.aload_n 1, 1) := by decide +kernel
theorem dX6_fund_22 : decode cX6_fund 22 = .ok (.getfield 75, 3) := by decide +kernel
theorem dX6_fund_25 : decode cX6_fund 25 = .ok (.if_icmp .ge 33, 3) := by decide +kernel
theorem dX6_fund_28 : decode cX6_fund 28 = .ok (.iload 4, 2) := by decide +kernel
theorem dX6_fund_30 : decode cX6_fund 30 = .ok (.aload_n 0, 1) := by decide +kernel
theorem dX6_fund_31 : decode cX6_fund 31 = .ok (.getfield 32, 3) := by decide +kernel
theorem dX6_fund_34 : decode cX6_fund 34 = .ok (.iload 5, 2) := by decide +kernel
theorem dX6_fund_36 : decode cX6_fund 36 = .ok (.iaload, 1) := by decide +kernel
theorem dX6_fund_37 : decode cX6_fund 37 = .ok (.iload_n 3, 1) := by decide +kernel
theorem dX6_fund_38 : decode cX6_fund 38 = .ok (.aload_n 0, 1) := by decide +kernel
theorem dX6_fund_39 : decode cX6_fund 39 = .ok (.getfield 29, 3) := by decide +kernel
theorem dX6_fund_42 : decode cX6_fund 42 = .ok (.iload 5, 2) := by decide +kernel
theorem dX6_fund_44 : decode cX6_fund 44 = .ok (.iaload, 1) := by decide +kernel
theorem dX6_fund_45 : decode cX6_fund 45 = .ok (.imul, 1) := by decide +kernel
theorem dX6_fund_46 : decode cX6_fund 46 = .ok (.invokestatic 121, 3) := by decide +kernel
theorem dX6_fund_49 : decode cX6_fund 49 = .ok (.iadd, 1) := by decide +kernel
theorem dX6_fund_50 : decode cX6_fund 50 = .ok (.istore 4, 2) := by decide +kernel
theorem dX6_fund_52 : decode cX6_fund 52 = .ok (.iinc 5 1, 3) := by decide +kernel
theorem dX6_fund_55 : decode cX6_fund 55 = .ok (.goto (-36), 3) := by decide +kernel
theorem dX6_fund_58 : decode cX6_fund 58 = .ok (.aload_n 1, 1) := by decide +kernel
theorem dX6_fund_59 : decode cX6_fund 59 = .ok (.getfield 75, 3) := by decide +kernel
theorem dX6_fund_62 : decode cX6_fund 62 = .ok (.iconst 1, 1) := by decide +kernel
theorem dX6_fund_63 : decode cX6_fund 63 = .ok (.isub, 1) := by decide +kernel
theorem dX6_fund_64 : decode cX6_fund 64 = .ok (.istore 5, 2) := by decide +kernel
theorem dX6_fund_66 : decode cX6_fund 66 = .ok (.iload 5, 2) := by decide +kernel
theorem dX6_fund_68 : decode cX6_fund 68 = .ok (.ifCond .lt 90, 3) := by decide +kernel
theorem dX6_fund_71 : decode cX6_fund 71 = .ok (.aload_n 0, 1) := by decide +kernel
theorem dX6_fund_72 : decode cX6_fund 72 = .ok (.getfield 32, 3) := by decide +kernel
theorem dX6_fund_75 : decode cX6_fund 75 = .ok (.iload 5, 2) := by decide +kernel
theorem dX6_fund_77 : decode cX6_fund 77 = .ok (.iaload, 1) := by decide +kernel
theorem dX6_fund_78 : decode cX6_fund 78 = .ok (.iload_n 3, 1) := by decide +kernel
theorem dX6_fund_79 : decode cX6_fund 79 = .ok (.aload_n 0, 1) := by decide +kernel
theorem dX6_fund_80 : decode cX6_fund 80 = .ok (.getfield 29, 3) := by decide +kernel
theorem dX6_fund_83 : decode cX6_fund 83 = .ok (.iload 5, 2) := by decide +kernel
theorem dX6_fund_85 : decode cX6_fund 85 = .ok (.iaload, 1) := by decide +kernel
theorem dX6_fund_86 : decode cX6_fund 86 = .ok (.imul, 1) := by decide +kernel
theorem dX6_fund_87 : decode cX6_fund 87 = .ok (.invokestatic 121, 3) := by decide +kernel
theorem dX6_fund_90 : decode cX6_fund 90 = .ok (.istore 6, 2) := by decide +kernel
theorem dX6_fund_92 : decode cX6_fund 92 = .ok (.aload_n 0, 1) := by decide +kernel
theorem dX6_fund_93 : decode cX6_fund 93 = .ok (.getfield 32, 3) := by decide +kernel
theorem dX6_fund_96 : decode cX6_fund 96 = .ok (.iload 5, 2) := by decide +kernel
theorem dX6_fund_98 : decode cX6_fund 98 = .ok (.iaload, 1) := by decide +kernel
theorem dX6_fund_99 : decode cX6_fund 99 = .ok (.iload_n 3, 1) := by decide +kernel
theorem dX6_fund_100 : decode cX6_fund 100 = .ok (.iconst 1, 1) := by decide +kernel
theorem dX6_fund_101 : decode cX6_fund 101 = .ok (.isub, 1) := by decide +kernel
theorem dX6_fund_102 : decode cX6_fund 102 = .ok (.aload_n 0, 1) := by decide +kernel
theorem dX6_fund_103 : decode cX6_fund 103 = .ok (.getfield 29, 3) := by decide +kernel
theorem dX6_fund_106 : decode cX6_fund 106 = .ok (.iload 5, 2) := by decide +kernel
theorem dX6_fund_108 : decode cX6_fund 108 = .ok (.iaload, 1) := by decide +kernel
theorem dX6_fund_109 : decode cX6_fund 109 = .ok (.imul, 1) := by decide +kernel
theorem dX6_fund_110 : decode cX6_fund 110 = .ok (.invokestatic 121, 3) := by decide +kernel
theorem dX6_fund_113 : decode cX6_fund 113 = .ok (.istore 7, 2) := by decide +kernel
theorem dX6_fund_115 : decode cX6_fund 115 = .ok (.iload 4, 2) := by decide +kernel
theorem dX6_fund_117 : decode cX6_fund 117 = .ok (.iload 6, 2) := by decide +kernel
theorem dX6_fund_119 : decode cX6_fund 119 = .ok (.iload 7, 2) := by decide +kernel
theorem dX6_fund_121 : decode cX6_fund 121 = .ok (.isub, 1) := by decide +kernel
theorem dX6_fund_122 : decode cX6_fund 122 = .ok (.invokestatic 121, 3) := by decide +kernel
theorem dX6_fund_125 : decode cX6_fund 125 = .ok (.istore 8, 2) := by decide +kernel
theorem dX6_fund_127 : decode cX6_fund 127 = .ok (.iload 4, 2) := by decide +kernel
theorem dX6_fund_129 : decode cX6_fund 129 = .ok (.iload 8, 2) := by decide +kernel
theorem dX6_fund_131 : decode cX6_fund 131 = .ok (.isub, 1) := by decide +kernel
theorem dX6_fund_132 : decode cX6_fund 132 = .ok (.istore 4, 2) := by decide +kernel
theorem dX6_fund_134 : decode cX6_fund 134 = .ok (.aload_n 0, 1) := by decide +kernel
theorem dX6_fund_135 : decode cX6_fund 135 = .ok (.iload_n 2, 1) := by decide +kernel
theorem dX6_fund_136 : decode cX6_fund 136 = .ok (.iload 5, 2) := by decide +kernel
theorem dX6_fund_138 : decode cX6_fund 138 = .ok (.aload_n 1, 1) := by decide +kernel
theorem dX6_fund_139 : decode cX6_fund 139 = .ok (.getfield 114, 3) := by decide +kernel
theorem dX6_fund_142 : decode cX6_fund 142 = .ok (.iload_n 2, 1) := by decide +kernel
theorem dX6_fund_143 : decode cX6_fund 143 = .ok (.iaload, 1) := by decide +kernel
theorem dX6_fund_144 : decode cX6_fund 144 = .ok (.iload 6, 2) := by decide +kernel
theorem dX6_fund_146 : decode cX6_fund 146 = .ok (.iload 8, 2) := by decide +kernel
theorem dX6_fund_148 : decode cX6_fund 148 = .ok (.isub, 1) := by decide +kernel
theorem dX6_fund_149 : decode cX6_fund 149 = .ok (.invokevirtual 126, 3) := by decide +kernel
theorem dX6_fund_152 : decode cX6_fund 152 = .ok (.iinc 5 (-1), 3) := by decide +kernel
theorem dX6_fund_155 : decode cX6_fund 155 = .ok (.goto (-89), 3) := by decide +kernel
theorem dX6_fund_158 : decode cX6_fund 158 = .ok (.aload_n 0, 1) := by decide +kernel
theorem dX6_fund_159 : decode cX6_fund 159 = .ok (.getfield 25, 3) := by decide +kernel
theorem dX6_fund_162 : decode cX6_fund 162 = .ok (.aload_n 0, 1) := by decide +kernel
theorem dX6_fund_163 : decode cX6_fund 163 = .ok (.getfield 56, 3) := by decide +kernel
theorem dX6_fund_166 : decode cX6_fund 166 = .ok (.iload_n 2, 1) := by decide +kernel
theorem dX6_fund_167 : decode cX6_fund 167 = .ok (.iastore, 1) := by decide +kernel
theorem dX6_fund_168 : decode cX6_fund 168 = .ok (.aload_n 0, 1) := by decide +kernel
theorem dX6_fund_169 : decode cX6_fund 169 = .ok (.dup, 1) := by decide +kernel
theorem dX6_fund_170 : decode cX6_fund 170 = .ok (.getfield 56, 3) := by decide +kernel
theorem dX6_fund_173 : decode cX6_fund 173 = .ok (.iconst 1, 1) := by decide +kernel
theorem dX6_fund_174 : decode cX6_fund 174 = .ok (.iadd, 1) := by decide +kernel
theorem dX6_fund_175 : decode cX6_fund 175 = .ok (.putfield 56, 3) := by decide +kernel
theorem dX6_fund_178 : decode cX6_fund 178 = .ok (.aload_n 0, 1) := by decide +kernel
theorem dX6_fund_179 : decode cX6_fund 179 = .ok (.dup, 1) := by decide +kernel
theorem dX6_fund_180 : decode cX6_fund 180 = .ok (.getfield 59, 3) := by decide +kernel
theorem dX6_fund_183 : decode cX6_fund 183 = .ok (.iconst 1, 1) := by decide +kernel
theorem dX6_fund_184 : decode cX6_fund 184 = .ok (.iload_n 2, 1) := by decide +kernel
theorem dX6_fund_185 : decode cX6_fund 185 = .ok (.ishl, 1) := by decide +kernel
theorem dX6_fund_186 : decode cX6_fund 186 = .ok (.ior, 1) := by decide +kernel
theorem dX6_fund_187 : decode cX6_fund 187 = .ok (.putfield 59, 3) := by decide +kernel
theorem dX6_fund_190 : decode cX6_fund 190 = .ok (.return_, 1) := by decide +kernel
theorem dX6_pay_0 : decode cX6_pay 0 = .ok (.iload 4, 2) := by decide +kernel
theorem dX6_pay_2 : decode cX6_pay 2 = .ok (.istore 5, 2) := by decide +kernel
theorem dX6_pay_4 : decode cX6_pay 4 = .ok (.aload_n 0, 1) := by decide +kernel
theorem dX6_pay_5 : decode cX6_pay 5 = .ok (.getfield 16, 3) := by decide +kernel
theorem dX6_pay_8 : decode cX6_pay 8 = .ok (.iload_n 1, 1) := by decide +kernel
theorem dX6_pay_9 : decode cX6_pay 9 = .ok (.aaload, 1) := by decide +kernel
theorem dX6_pay_10 : decode cX6_pay 10 = .ok (.iload_n 2, 1) := by decide +kernel
theorem dX6_pay_11 : decode cX6_pay 11 = .ok (.iload 4, 2) := by decide +kernel
theorem dX6_pay_13 : decode cX6_pay 13 = .ok (.iastore, 1) := by decide +kernel
theorem dX6_pay_14 : decode cX6_pay 14 = .ok (.iconst 0, 1) := by decide +kernel
theorem dX6_pay_15 : decode cX6_pay 15 = .ok (.istore 6, 2) := by decide +kernel
theorem dX6_pay_17 : decode cX6_pay 17 = .ok (.iload 6, 2) := by decide +kernel
theorem dX6_pay_19 : decode cX6_pay 19 = .ok (.iconst 4, 1) := by decide +kernel
theorem dX6_pay_20 : decode cX6_pay 20 = .ok (.if_icmp .ge 69, 3) := by decide +kernel
theorem dX6_pay_23 : decode cX6_pay 23 = .ok (.iload_n 3, 1) := by decide +kernel
theorem dX6_pay_24 : decode cX6_pay 24 = .ok (.iload 6, 2) := by decide +kernel
theorem dX6_pay_26 : decode cX6_pay 26 = .ok (.invokestatic 81, 3) := by decide +kernel
theorem dX6_pay_29 : decode cX6_pay 29 = .ok (.ifCond .eq 54, 3) := by decide +kernel
theorem dX6_pay_32 : decode cX6_pay 32 = .ok (.iload 5, 2) := by decide +kernel
theorem dX6_pay_34 : decode cX6_pay 34 = .ok (.aload_n 0, 1) := by decide +kernel
theorem dX6_pay_35 : decode cX6_pay 35 = .ok (.getfield 11, 3) := by decide +kernel
theorem dX6_pay_38 : decode cX6_pay 38 = .ok (.iload_n 2, 1) := by decide +kernel
theorem dX6_pay_39 : decode cX6_pay 39 = .ok (.aaload, 1) := by decide +kernel
theorem dX6_pay_40 : decode cX6_pay 40 = .ok (.iload 6, 2) := by decide +kernel
theorem dX6_pay_42 : decode cX6_pay 42 = .ok (.iaload, 1) := by decide +kernel
theorem dX6_pay_43 : decode cX6_pay 43 = .ok (.invokestatic 121, 3) := by decide +kernel
theorem dX6_pay_46 : decode cX6_pay 46 = .ok (.istore 7, 2) := by decide +kernel
theorem dX6_pay_48 : decode cX6_pay 48 = .ok (.aload_n 0, 1) := by decide +kernel
theorem dX6_pay_49 : decode cX6_pay 49 = .ok (.getfield 11, 3) := by decide +kernel
theorem dX6_pay_52 : decode cX6_pay 52 = .ok (.iload_n 2, 1) := by decide +kernel
theorem dX6_pay_53 : decode cX6_pay 53 = .ok (.aaload, 1) := by decide +kernel
theorem dX6_pay_54 : decode cX6_pay 54 = .ok (.iload 6, 2) := by decide +kernel
theorem dX6_pay_56 : decode cX6_pay 56 = .ok (.dup2, 1) := by decide +kernel
theorem dX6_pay_57 : decode cX6_pay 57 = .ok (.iaload, 1) := by decide +kernel
theorem dX6_pay_58 : decode cX6_pay 58 = .ok (.iload 7, 2) := by decide +kernel
theorem dX6_pay_60 : decode cX6_pay 60 = .ok (.isub, 1) := by decide +kernel
theorem dX6_pay_61 : decode cX6_pay 61 = .ok (.iastore, 1) := by decide +kernel
theorem dX6_pay_62 : decode cX6_pay 62 = .ok (.aload_n 0, 1) := by decide +kernel
theorem dX6_pay_63 : decode cX6_pay 63 = .ok (.getfield 19, 3) := by decide +kernel
theorem dX6_pay_66 : decode cX6_pay 66 = .ok (.iload_n 1, 1) := by decide +kernel
theorem dX6_pay_67 : decode cX6_pay 67 = .ok (.aaload, 1) := by decide +kernel
theorem dX6_pay_68 : decode cX6_pay 68 = .ok (.iload 6, 2) := by decide +kernel
theorem dX6_pay_70 : decode cX6_pay 70 = .ok (.dup2, 1) := by decide +kernel
theorem dX6_pay_71 : decode cX6_pay 71 = .ok (.iaload, 1) := by decide +kernel
theorem dX6_pay_72 : decode cX6_pay 72 = .ok (.iload 7, 2) := by decide +kernel
theorem dX6_pay_74 : decode cX6_pay 74 = .ok (.iadd, 1) := by decide +kernel
theorem dX6_pay_75 : decode cX6_pay 75 = .ok (.iastore, 1) := by decide +kernel
theorem dX6_pay_76 : decode cX6_pay 76 = .ok (.iload 5, 2) := by decide +kernel
theorem dX6_pay_78 : decode cX6_pay 78 = .ok (.iload 7, 2) := by decide +kernel
theorem dX6_pay_80 : decode cX6_pay 80 = .ok (.isub, 1) := by decide +kernel
theorem dX6_pay_81 : decode cX6_pay 81 = .ok (.istore 5, 2) := by decide +kernel
theorem dX6_pay_83 : decode cX6_pay 83 = .ok (.iinc 6 1, 3) := by decide +kernel
theorem dX6_pay_86 : decode cX6_pay 86 = .ok (.goto (-69), 3) := by decide +kernel
theorem dX6_pay_89 : decode cX6_pay 89 = .ok (.return_, 1) := by decide +kernel
theorem dX6_means_0 : decode cX6_means 0 = .ok (.iconst 0, 1) := by decide +kernel
theorem dX6_means_1 : decode cX6_means 1 = .ok (.istore_n 3, 1) := by decide +kernel
theorem dX6_means_2 : decode cX6_means 2 = .ok (.iconst 0, 1) := by decide +kernel
theorem dX6_means_3 : decode cX6_means 3 = .ok (.istore 4, 2) := by decide +kernel
theorem dX6_means_5 : decode cX6_means 5 = .ok (.iload 4, 2) := by decide +kernel
theorem dX6_means_7 : decode cX6_means 7 = .ok (.iconst 4, 1) := by decide +kernel
theorem dX6_means_8 : decode cX6_means 8 = .ok (.if_icmp .ge 28, 3) := by decide +kernel
theorem dX6_means_11 : decode cX6_means 11 = .ok (.iload_n 3, 1) := by decide +kernel
theorem dX6_means_12 : decode cX6_means 12 = .ok (.aload_n 0, 1) := by decide +kernel
theorem dX6_means_13 : decode cX6_means 13 = .ok (.getfield 11, 3) := by decide +kernel
theorem dX6_means_16 : decode cX6_means 16 = .ok (.iload_n 1, 1) := by decide +kernel
theorem dX6_means_17 : decode cX6_means 17 = .ok (.aaload, 1) := by decide +kernel
theorem dX6_means_18 : decode cX6_means 18 = .ok (.iload 4, 2) := by decide +kernel
theorem dX6_means_20 : decode cX6_means 20 = .ok (.iaload, 1) := by decide +kernel
theorem dX6_means_21 : decode cX6_means 21 = .ok (.iload_n 2, 1) := by decide +kernel
theorem dX6_means_22 : decode cX6_means 22 = .ok (.iload 4, 2) := by decide +kernel
theorem dX6_means_24 : decode cX6_means 24 = .ok (.ishr, 1) := by decide +kernel
theorem dX6_means_25 : decode cX6_means 25 = .ok (.iconst 1, 1) := by decide +kernel
theorem dX6_means_26 : decode cX6_means 26 = .ok (.iand, 1) := by decide +kernel
theorem dX6_means_27 : decode cX6_means 27 = .ok (.imul, 1) := by decide +kernel
theorem dX6_means_28 : decode cX6_means 28 = .ok (.iadd, 1) := by decide +kernel
theorem dX6_means_29 : decode cX6_means 29 = .ok (.istore_n 3, 1) := by decide +kernel
theorem dX6_means_30 : decode cX6_means 30 = .ok (.iinc 4 1, 3) := by decide +kernel
theorem dX6_means_33 : decode cX6_means 33 = .ok (.goto (-28), 3) := by decide +kernel
theorem dX6_means_36 : decode cX6_means 36 = .ok (.iload_n 3, 1) := by decide +kernel
theorem dX6_means_37 : decode cX6_means 37 = .ok (.ireturn, 1) := by decide +kernel
theorem dX6_takenFrom_0 : decode cX6_takenFrom 0 = .ok (.iconst 0, 1) := by decide +kernel
theorem dX6_takenFrom_1 : decode cX6_takenFrom 1 = .ok (.istore_n 2, 1) := by decide +kernel
theorem dX6_takenFrom_2 : decode cX6_takenFrom 2 = .ok (.iconst 0, 1) := by decide +kernel
theorem dX6_takenFrom_3 : decode cX6_takenFrom 3 = .ok (.istore_n 3, 1) := by decide +kernel
theorem dX6_takenFrom_4 : decode cX6_takenFrom 4 = .ok (.iload_n 3, 1) := by decide +kernel
theorem dX6_takenFrom_5 : decode cX6_takenFrom 5 = .ok (.bipush 12, 2) := by decide +kernel
theorem dX6_takenFrom_7 : decode cX6_takenFrom 7 = .ok (.if_icmp .ge 20, 3) := by decide +kernel
theorem dX6_takenFrom_10 : decode cX6_takenFrom 10 = .ok (.iload_n 2, 1) := by decide +kernel
theorem dX6_takenFrom_11 : decode cX6_takenFrom 11 = .ok (.aload_n 0, 1) := by decide +kernel
theorem dX6_takenFrom_12 : decode cX6_takenFrom 12 = .ok (.getfield 19, 3) := by decide +kernel
theorem dX6_takenFrom_15 : decode cX6_takenFrom 15 = .ok (.iload_n 3, 1) := by decide +kernel
theorem dX6_takenFrom_16 : decode cX6_takenFrom 16 = .ok (.aaload, 1) := by decide +kernel
theorem dX6_takenFrom_17 : decode cX6_takenFrom 17 = .ok (.iload_n 1, 1) := by decide +kernel
theorem dX6_takenFrom_18 : decode cX6_takenFrom 18 = .ok (.iaload, 1) := by decide +kernel
theorem dX6_takenFrom_19 : decode cX6_takenFrom 19 = .ok (.iadd, 1) := by decide +kernel
theorem dX6_takenFrom_20 : decode cX6_takenFrom 20 = .ok (.istore_n 2, 1) := by decide +kernel
theorem dX6_takenFrom_21 : decode cX6_takenFrom 21 = .ok (.iinc 3 1, 3) := by decide +kernel
theorem dX6_takenFrom_24 : decode cX6_takenFrom 24 = .ok (.goto (-20), 3) := by decide +kernel
theorem dX6_takenFrom_27 : decode cX6_takenFrom 27 = .ok (.iload_n 2, 1) := by decide +kernel
theorem dX6_takenFrom_28 : decode cX6_takenFrom 28 = .ok (.ireturn, 1) := by decide +kernel
theorem dX6_overspends_0 : decode cX6_overspends 0 = .ok (.iconst 0, 1) := by decide +kernel
theorem dX6_overspends_1 : decode cX6_overspends 1 = .ok (.istore_n 2, 1) := by decide +kernel
theorem dX6_overspends_2 : decode cX6_overspends 2 = .ok (.iload_n 2, 1) := by decide +kernel
theorem dX6_overspends_3 : decode cX6_overspends 3 = .ok (.aload_n 1, 1) := by decide +kernel
theorem dX6_overspends_4 : decode cX6_overspends 4 = .ok (.getfield 68, 3) := by decide +kernel
theorem dX6_overspends_7 : decode cX6_overspends 7 = .ok (.if_icmp .ge 25, 3) := by decide +kernel
theorem dX6_overspends_10 : decode cX6_overspends 10 = .ok (.aload_n 0, 1) := by decide +kernel
theorem dX6_overspends_11 : decode cX6_overspends 11 = .ok (.iload_n 2, 1) := by decide +kernel
theorem dX6_overspends_12 : decode cX6_overspends 12 = .ok (.invokevirtual 130, 3) := by decide +kernel
theorem dX6_overspends_15 : decode cX6_overspends 15 = .ok (.aload_n 1, 1) := by decide +kernel
theorem dX6_overspends_16 : decode cX6_overspends 16 = .ok (.getfield 133, 3) := by decide +kernel
theorem dX6_overspends_19 : decode cX6_overspends 19 = .ok (.iload_n 2, 1) := by decide +kernel
theorem dX6_overspends_20 : decode cX6_overspends 20 = .ok (.iaload, 1) := by decide +kernel
theorem dX6_overspends_21 : decode cX6_overspends 21 = .ok (.if_icmp .le 5, 3) := by decide +kernel
theorem dX6_overspends_24 : decode cX6_overspends 24 = .ok (.iconst 1, 1) := by decide +kernel
theorem dX6_overspends_25 : decode cX6_overspends 25 = .ok (.ireturn, 1) := by decide +kernel
theorem dX6_overspends_26 : decode cX6_overspends 26 = .ok (.iinc 2 1, 3) := by decide +kernel
theorem dX6_overspends_29 : decode cX6_overspends 29 = .ok (.goto (-27), 3) := by decide +kernel
theorem dX6_overspends_32 : decode cX6_overspends 32 = .ok (.iconst 0, 1) := by decide +kernel
theorem dX6_overspends_33 : decode cX6_overspends 33 = .ok (.ireturn, 1) := by decide +kernel
theorem dX6_whenFunded_0 : decode cX6_whenFunded 0 = .ok (.iconst 0, 1) := by decide +kernel
theorem dX6_whenFunded_1 : decode cX6_whenFunded 1 = .ok (.istore_n 2, 1) := by decide +kernel
theorem dX6_whenFunded_2 : decode cX6_whenFunded 2 = .ok (.iload_n 2, 1) := by decide +kernel
theorem dX6_whenFunded_3 : decode cX6_whenFunded 3 = .ok (.aload_n 0, 1) := by decide +kernel
theorem dX6_whenFunded_4 : decode cX6_whenFunded 4 = .ok (.getfield 56, 3) := by decide +kernel
theorem dX6_whenFunded_7 : decode cX6_whenFunded 7 = .ok (.if_icmp .ge 21, 3) := by decide +kernel
theorem dX6_whenFunded_10 : decode cX6_whenFunded 10 = .ok (.aload_n 0, 1) := by decide +kernel
theorem dX6_whenFunded_11 : decode cX6_whenFunded 11 = .ok (.getfield 25, 3) := by decide +kernel
theorem dX6_whenFunded_14 : decode cX6_whenFunded 14 = .ok (.iload_n 2, 1) := by decide +kernel
theorem dX6_whenFunded_15 : decode cX6_whenFunded 15 = .ok (.iaload, 1) := by decide +kernel
theorem dX6_whenFunded_16 : decode cX6_whenFunded 16 = .ok (.iload_n 1, 1) := by decide +kernel
theorem dX6_whenFunded_17 : decode cX6_whenFunded 17 = .ok (.if_icmp .ne 5, 3) := by decide +kernel
theorem dX6_whenFunded_20 : decode cX6_whenFunded 20 = .ok (.iload_n 2, 1) := by decide +kernel
theorem dX6_whenFunded_21 : decode cX6_whenFunded 21 = .ok (.ireturn, 1) := by decide +kernel
theorem dX6_whenFunded_22 : decode cX6_whenFunded 22 = .ok (.iinc 2 1, 3) := by decide +kernel
theorem dX6_whenFunded_25 : decode cX6_whenFunded 25 = .ok (.goto (-23), 3) := by decide +kernel
theorem dX6_whenFunded_28 : decode cX6_whenFunded 28 = .ok (.iconst (-1), 1) := by decide +kernel
theorem dX6_whenFunded_29 : decode cX6_whenFunded 29 = .ok (.ireturn, 1) := by decide +kernel
theorem dX7_init_0 : decode cX7_init 0 = .ok (.aload_n 0, 1) := by decide +kernel
theorem dX7_init_1 : decode cX7_init 1 = .ok (.invokespecial 3, 3) := by decide +kernel
theorem dX7_init_4 : decode cX7_init 4 = .ok (.aload_n 0, 1) := by decide +kernel
theorem dX7_init_5 : decode cX7_init 5 = .ok (.sipush 1200, 3) := by decide +kernel
theorem dX7_init_8 : decode cX7_init 8 = .ok (.newarray .byte, 2) := by decide +kernel
theorem dX7_init_10 : decode cX7_init 10 = .ok (.putfield 9, 3) := by decide +kernel
theorem dX7_init_13 : decode cX7_init 13 = .ok (.return_, 1) := by decide +kernel
theorem dX7_append_0 : decode cX7_append 0 = .ok (.bipush 24, 2) := by decide +kernel
theorem dX7_append_2 : decode cX7_append 2 = .ok (.istore_n 2, 1) := by decide +kernel
theorem dX7_append_3 : decode cX7_append 3 = .ok (.iload_n 2, 1) := by decide +kernel
theorem dX7_append_4 : decode cX7_append 4 = .ok (.ifCond .lt 42, 3) := by decide +kernel
theorem dX7_append_7 : decode cX7_append 7 = .ok (.aload_n 0, 1) := by decide +kernel
theorem dX7_append_8 : decode cX7_append 8 = .ok (.getfield 15, 3) := by decide +kernel
theorem dX7_append_11 : decode cX7_append 11 = .ok (.sipush 1200, 3) := by decide +kernel
theorem dX7_append_14 : decode cX7_append 14 = .ok (.if_icmp .ge 32, 3) := by decide +kernel
theorem dX7_append_17 : decode cX7_append 17 = .ok (.aload_n 0, 1) := by decide +kernel
theorem dX7_append_18 : decode cX7_append 18 = .ok (.getfield 9, 3) := by decide +kernel
theorem dX7_append_21 : decode cX7_append 21 = .ok (.aload_n 0, 1) := by decide +kernel
theorem dX7_append_22 : decode cX7_append 22 = .ok (.getfield 15, 3) := by decide +kernel
theorem dX7_append_25 : decode cX7_append 25 = .ok (.iload_n 1, 1) := by decide +kernel
theorem dX7_append_26 : decode cX7_append 26 = .ok (.iload_n 2, 1) := by decide +kernel
theorem dX7_append_27 : decode cX7_append 27 = .ok (.ishr, 1) := by decide +kernel
theorem dX7_append_28 : decode cX7_append 28 = .ok (.i2b, 1) := by decide +kernel
theorem dX7_append_29 : decode cX7_append 29 = .ok (.bastore, 1) := by decide +kernel
theorem dX7_append_30 : decode cX7_append 30 = .ok (.aload_n 0, 1) := by decide +kernel
theorem dX7_append_31 : decode cX7_append 31 = .ok (.dup, 1) := by decide +kernel
theorem dX7_append_32 : decode cX7_append 32 = .ok (.getfield 15, 3) := by decide +kernel
theorem dX7_append_35 : decode cX7_append 35 = .ok (.iconst 1, 1) := by decide +kernel
theorem dX7_append_36 : decode cX7_append 36 = .ok (.iadd, 1) := by decide +kernel
theorem dX7_append_37 : decode cX7_append 37 = .ok (.putfield 15, 3) := by decide +kernel
theorem dX7_append_40 : decode cX7_append 40 = .ok (.iinc 2 (-8), 3) := by decide +kernel
theorem dX7_append_43 : decode cX7_append 43 = .ok (.goto (-40), 3) := by decide +kernel
theorem dX7_append_46 : decode cX7_append 46 = .ok (.return_, 1) := by decide +kernel
theorem dX7_open_0 : decode cX7_open 0 = .ok (.aload_n 0, 1) := by decide +kernel
theorem dX7_open_1 : decode cX7_open 1 = .ok (.iload_n 1, 1) := by decide +kernel
theorem dX7_open_2 : decode cX7_open 2 = .ok (.aload_n 0, 1) := by decide +kernel
theorem dX7_open_3 : decode cX7_open 3 = .ok (.getfield 15, 3) := by decide +kernel
theorem dX7_open_6 : decode cX7_open 6 = .ok (.invokestatic 19, 3) := by decide +kernel
theorem dX7_open_9 : decode cX7_open 9 = .ok (.putfield 25, 3) := by decide +kernel
theorem dX7_open_12 : decode cX7_open 12 = .ok (.aload_n 0, 1) := by decide +kernel
theorem dX7_open_13 : decode cX7_open 13 = .ok (.iconst 0, 1) := by decide +kernel
theorem dX7_open_14 : decode cX7_open 14 = .ok (.putfield 28, 3) := by decide +kernel
theorem dX7_open_17 : decode cX7_open 17 = .ok (.aload_n 0, 1) := by decide +kernel
theorem dX7_open_18 : decode cX7_open 18 = .ok (.iconst 0, 1) := by decide +kernel
theorem dX7_open_19 : decode cX7_open 19 = .ok (.putfield 31, 3) := by decide +kernel
theorem dX7_open_22 : decode cX7_open 22 = .ok (.aload_n 0, 1) := by decide +kernel
theorem dX7_open_23 : decode cX7_open 23 = .ok (.iconst 0, 1) := by decide +kernel
theorem dX7_open_24 : decode cX7_open 24 = .ok (.putfield 34, 3) := by decide +kernel
theorem dX7_open_27 : decode cX7_open 27 = .ok (.return_, 1) := by decide +kernel
theorem dX7_next_0 : decode cX7_next 0 = .ok (.aload_n 0, 1) := by decide +kernel
theorem dX7_next_1 : decode cX7_next 1 = .ok (.getfield 31, 3) := by decide +kernel
theorem dX7_next_4 : decode cX7_next 4 = .ok (.aload_n 0, 1) := by decide +kernel
theorem dX7_next_5 : decode cX7_next 5 = .ok (.getfield 25, 3) := by decide +kernel
theorem dX7_next_8 : decode cX7_next 8 = .ok (.if_icmp .ge 44, 3) := by decide +kernel
theorem dX7_next_11 : decode cX7_next 11 = .ok (.aload_n 0, 1) := by decide +kernel
theorem dX7_next_12 : decode cX7_next 12 = .ok (.getfield 9, 3) := by decide +kernel
theorem dX7_next_15 : decode cX7_next 15 = .ok (.aload_n 0, 1) := by decide +kernel
theorem dX7_next_16 : decode cX7_next 16 = .ok (.getfield 31, 3) := by decide +kernel
theorem dX7_next_19 : decode cX7_next 19 = .ok (.baload, 1) := by decide +kernel
theorem dX7_next_20 : decode cX7_next 20 = .ok (.bipush 32, 2) := by decide +kernel
theorem dX7_next_22 : decode cX7_next 22 = .ok (.if_icmp .eq 17, 3) := by decide +kernel
theorem dX7_next_25 : decode cX7_next 25 = .ok (.aload_n 0, 1) := by decide +kernel
theorem dX7_next_26 : decode cX7_next 26 = .ok (.getfield 9, 3) := by decide +kernel
theorem dX7_next_29 : decode cX7_next 29 = .ok (.aload_n 0, 1) := by decide +kernel
theorem dX7_next_30 : decode cX7_next 30 = .ok (.getfield 31, 3) := by decide +kernel
theorem dX7_next_33 : decode cX7_next 33 = .ok (.baload, 1) := by decide +kernel
theorem dX7_next_34 : decode cX7_next 34 = .ok (.bipush 10, 2) := by decide +kernel
theorem dX7_next_36 : decode cX7_next 36 = .ok (.if_icmp .ne 16, 3) := by decide +kernel
theorem dX7_next_39 : decode cX7_next 39 = .ok (.aload_n 0, 1) := by decide +kernel
theorem dX7_next_40 : decode cX7_next 40 = .ok (.dup, 1) := by decide +kernel
theorem dX7_next_41 : decode cX7_next 41 = .ok (.getfield 31, 3) := by decide +kernel
theorem dX7_next_44 : decode cX7_next 44 = .ok (.iconst 1, 1) := by decide +kernel
theorem dX7_next_45 : decode cX7_next 45 = .ok (.iadd, 1) := by decide +kernel
theorem dX7_next_46 : decode cX7_next 46 = .ok (.putfield 31, 3) := by decide +kernel
theorem dX7_next_49 : decode cX7_next 49 = .ok (.goto (-49), 3) := by decide +kernel
theorem dX7_next_52 : decode cX7_next 52 = .ok (.aload_n 0, 1) := by decide +kernel
theorem dX7_next_53 : decode cX7_next 53 = .ok (.aload_n 0, 1) := by decide +kernel
theorem dX7_next_54 : decode cX7_next 54 = .ok (.getfield 31, 3) := by decide +kernel
theorem dX7_next_57 : decode cX7_next 57 = .ok (.putfield 28, 3) := by decide +kernel
theorem dX7_next_60 : decode cX7_next 60 = .ok (.aload_n 0, 1) := by decide +kernel
theorem dX7_next_61 : decode cX7_next 61 = .ok (.getfield 28, 3) := by decide +kernel
theorem dX7_next_64 : decode cX7_next 64 = .ok (.aload_n 0, 1) := by decide +kernel
theorem dX7_next_65 : decode cX7_next 65 = .ok (.getfield 25, 3) := by decide +kernel
theorem dX7_next_68 : decode cX7_next 68 = .ok (.if_icmp .lt 11, 3) := by decide +kernel
theorem dX7_next_71 : decode cX7_next 71 = .ok (.aload_n 0, 1) := by decide +kernel
theorem dX7_next_72 : decode cX7_next 72 = .ok (.iconst 0, 1) := by decide +kernel
theorem dX7_next_73 : decode cX7_next 73 = .ok (.putfield 34, 3) := by decide +kernel
theorem dX7_next_76 : decode cX7_next 76 = .ok (.goto 163, 3) := by decide +kernel
theorem dX7_next_79 : decode cX7_next 79 = .ok (.aload_n 0, 1) := by decide +kernel
theorem dX7_next_80 : decode cX7_next 80 = .ok (.getfield 9, 3) := by decide +kernel
theorem dX7_next_83 : decode cX7_next 83 = .ok (.aload_n 0, 1) := by decide +kernel
theorem dX7_next_84 : decode cX7_next 84 = .ok (.getfield 28, 3) := by decide +kernel
theorem dX7_next_87 : decode cX7_next 87 = .ok (.baload, 1) := by decide +kernel
theorem dX7_next_88 : decode cX7_next 88 = .ok (.invokestatic 37, 3) := by decide +kernel
theorem dX7_next_91 : decode cX7_next 91 = .ok (.ifCond .eq 53, 3) := by decide +kernel
theorem dX7_next_94 : decode cX7_next 94 = .ok (.aload_n 0, 1) := by decide +kernel
theorem dX7_next_95 : decode cX7_next 95 = .ok (.getfield 31, 3) := by decide +kernel
theorem dX7_next_98 : decode cX7_next 98 = .ok (.aload_n 0, 1) := by decide +kernel
theorem dX7_next_99 : decode cX7_next 99 = .ok (.getfield 25, 3) := by decide +kernel
theorem dX7_next_102 : decode cX7_next 102 = .ok (.if_icmp .ge 31, 3) := by decide +kernel
theorem dX7_next_105 : decode cX7_next 105 = .ok (.aload_n 0, 1) := by decide +kernel
theorem dX7_next_106 : decode cX7_next 106 = .ok (.getfield 9, 3) := by decide +kernel
theorem dX7_next_109 : decode cX7_next 109 = .ok (.aload_n 0, 1) := by decide +kernel
theorem dX7_next_110 : decode cX7_next 110 = .ok (.getfield 31, 3) := by decide +kernel
theorem dX7_next_113 : decode cX7_next 113 = .ok (.baload, 1) := by decide +kernel
theorem dX7_next_114 : decode cX7_next 114 = .ok (.invokestatic 37, 3) := by decide +kernel
theorem dX7_next_117 : decode cX7_next 117 = .ok (.ifCond .eq 16, 3) := by decide +kernel
theorem dX7_next_120 : decode cX7_next 120 = .ok (.aload_n 0, 1) := by decide +kernel
theorem dX7_next_121 : decode cX7_next 121 = .ok (.dup, 1) := by decide +kernel
theorem dX7_next_122 : decode cX7_next 122 = .ok (.getfield 31, 3) := by decide +kernel
theorem dX7_next_125 : decode cX7_next 125 = .ok (.iconst 1, 1) := by decide +kernel
theorem dX7_next_126 : decode cX7_next 126 = .ok (.iadd, 1) := by decide +kernel
theorem dX7_next_127 : decode cX7_next 127 = .ok (.putfield 31, 3) := by decide +kernel
theorem dX7_next_130 : decode cX7_next 130 = .ok (.goto (-36), 3) := by decide +kernel
theorem dX7_next_133 : decode cX7_next 133 = .ok (.aload_n 0, 1) := by decide +kernel
theorem dX7_next_134 : decode cX7_next 134 = .ok (.aload_n 0, 1) := by decide +kernel
theorem dX7_next_135 : decode cX7_next 135 = .ok (.invokevirtual 41, 3) := by decide +kernel
theorem dX7_next_138 : decode cX7_next 138 = .ok (.putfield 34, 3) := by decide +kernel
theorem dX7_next_141 : decode cX7_next 141 = .ok (.goto 98, 3) := by decide +kernel
theorem dX7_next_144 : decode cX7_next 144 = .ok (.aload_n 0, 1) := by decide +kernel
theorem dX7_next_145 : decode cX7_next 145 = .ok (.getfield 9, 3) := by decide +kernel
theorem dX7_next_148 : decode cX7_next 148 = .ok (.aload_n 0, 1) := by decide +kernel
theorem dX7_next_149 : decode cX7_next 149 = .ok (.getfield 28, 3) := by decide +kernel
theorem dX7_next_152 : decode cX7_next 152 = .ok (.baload, 1) := by decide +kernel
theorem dX7_next_153 : decode cX7_next 153 = .ok (.invokestatic 45, 3) := by decide +kernel
theorem dX7_next_156 : decode cX7_next 156 = .ok (.ifCond .eq 50, 3) := by decide +kernel
theorem dX7_next_159 : decode cX7_next 159 = .ok (.aload_n 0, 1) := by decide +kernel
theorem dX7_next_160 : decode cX7_next 160 = .ok (.getfield 31, 3) := by decide +kernel
theorem dX7_next_163 : decode cX7_next 163 = .ok (.aload_n 0, 1) := by decide +kernel
theorem dX7_next_164 : decode cX7_next 164 = .ok (.getfield 25, 3) := by decide +kernel
theorem dX7_next_167 : decode cX7_next 167 = .ok (.if_icmp .ge 31, 3) := by decide +kernel
theorem dX7_next_170 : decode cX7_next 170 = .ok (.aload_n 0, 1) := by decide +kernel
theorem dX7_next_171 : decode cX7_next 171 = .ok (.getfield 9, 3) := by decide +kernel
theorem dX7_next_174 : decode cX7_next 174 = .ok (.aload_n 0, 1) := by decide +kernel
theorem dX7_next_175 : decode cX7_next 175 = .ok (.getfield 31, 3) := by decide +kernel
theorem dX7_next_178 : decode cX7_next 178 = .ok (.baload, 1) := by decide +kernel
theorem dX7_next_179 : decode cX7_next 179 = .ok (.invokestatic 45, 3) := by decide +kernel
theorem dX7_next_182 : decode cX7_next 182 = .ok (.ifCond .eq 16, 3) := by decide +kernel
theorem dX7_next_185 : decode cX7_next 185 = .ok (.aload_n 0, 1) := by decide +kernel
theorem dX7_next_186 : decode cX7_next 186 = .ok (.dup, 1) := by decide +kernel
theorem dX7_next_187 : decode cX7_next 187 = .ok (.getfield 31, 3) := by decide +kernel
theorem dX7_next_190 : decode cX7_next 190 = .ok (.iconst 1, 1) := by decide +kernel
theorem dX7_next_191 : decode cX7_next 191 = .ok (.iadd, 1) := by decide +kernel
theorem dX7_next_192 : decode cX7_next 192 = .ok (.putfield 31, 3) := by decide +kernel
theorem dX7_next_195 : decode cX7_next 195 = .ok (.goto (-36), 3) := by decide +kernel
theorem dX7_next_198 : decode cX7_next 198 = .ok (.aload_n 0, 1) := by decide +kernel
theorem dX7_next_199 : decode cX7_next 199 = .ok (.iconst 2, 1) := by decide +kernel
theorem dX7_next_200 : decode cX7_next 200 = .ok (.putfield 34, 3) := by decide +kernel
theorem dX7_next_203 : decode cX7_next 203 = .ok (.goto 36, 3) := by decide +kernel
theorem dX7_next_206 : decode cX7_next 206 = .ok (.aload_n 0, 1) := by decide +kernel
theorem dX7_next_207 : decode cX7_next 207 = .ok (.dup, 1) := by decide +kernel
theorem dX7_next_208 : decode cX7_next 208 = .ok (.getfield 31, 3) := by decide +kernel
theorem dX7_next_211 : decode cX7_next 211 = .ok (.iconst 1, 1) := by decide +kernel
theorem dX7_next_212 : decode cX7_next 212 = .ok (.iadd, 1) := by decide +kernel
theorem dX7_next_213 : decode cX7_next 213 = .ok (.putfield 31, 3) := by decide +kernel
theorem dX7_next_216 : decode cX7_next 216 = .ok (.aload_n 0, 1) := by decide +kernel
theorem dX7_next_217 : decode cX7_next 217 = .ok (.aload_n 0, 1) := by decide +kernel
theorem dX7_next_218 : decode cX7_next 218 = .ok (.getfield 9, 3) := by decide +kernel
theorem dX7_next_221 : decode cX7_next 221 = .ok (.aload_n 0, 1) := by decide +kernel
theorem dX7_next_222 : decode cX7_next 222 = .ok (.getfield 28, 3) := by decide +kernel
theorem dX7_next_225 : decode cX7_next 225 = .ok (.baload, 1) := by decide +kernel
theorem dX7_next_226 : decode cX7_next 226 = .ok (.bipush 59, 2) := by decide +kernel
theorem dX7_next_228 : decode cX7_next 228 = .ok (.if_icmp .ne 7, 3) := by decide +kernel
theorem dX7_next_231 : decode cX7_next 231 = .ok (.iconst 3, 1) := by decide +kernel
theorem dX7_next_232 : decode cX7_next 232 = .ok (.goto 4, 3) := by decide +kernel
theorem dX7_next_235 : decode cX7_next 235 = .ok (.iconst 4, 1) := by decide +kernel
theorem dX7_next_236 : decode cX7_next 236 = .ok (.putfield 34, 3) := by decide +kernel
theorem dX7_next_239 : decode cX7_next 239 = .ok (.return_, 1) := by decide +kernel
theorem dX7_isLetter_0 : decode cX7_isLetter 0 = .ok (.iload_n 0, 1) := by decide +kernel
theorem dX7_isLetter_1 : decode cX7_isLetter 1 = .ok (.bipush 97, 2) := by decide +kernel
theorem dX7_isLetter_3 : decode cX7_isLetter 3 = .ok (.if_icmp .lt 13, 3) := by decide +kernel
theorem dX7_isLetter_6 : decode cX7_isLetter 6 = .ok (.iload_n 0, 1) := by decide +kernel
theorem dX7_isLetter_7 : decode cX7_isLetter 7 = .ok (.bipush 122, 2) := by decide +kernel
theorem dX7_isLetter_9 : decode cX7_isLetter 9 = .ok (.if_icmp .gt 7, 3) := by decide +kernel
theorem dX7_isLetter_12 : decode cX7_isLetter 12 = .ok (.iconst 1, 1) := by decide +kernel
theorem dX7_isLetter_13 : decode cX7_isLetter 13 = .ok (.goto 4, 3) := by decide +kernel
theorem dX7_isLetter_16 : decode cX7_isLetter 16 = .ok (.iconst 0, 1) := by decide +kernel
theorem dX7_isLetter_17 : decode cX7_isLetter 17 = .ok (.ireturn, 1) := by decide +kernel
theorem dX7_isDigit_0 : decode cX7_isDigit 0 = .ok (.iload_n 0, 1) := by decide +kernel
theorem dX7_isDigit_1 : decode cX7_isDigit 1 = .ok (.bipush 48, 2) := by decide +kernel
theorem dX7_isDigit_3 : decode cX7_isDigit 3 = .ok (.if_icmp .lt 13, 3) := by decide +kernel
theorem dX7_isDigit_6 : decode cX7_isDigit 6 = .ok (.iload_n 0, 1) := by decide +kernel
theorem dX7_isDigit_7 : decode cX7_isDigit 7 = .ok (.bipush 57, 2) := by decide +kernel
theorem dX7_isDigit_9 : decode cX7_isDigit 9 = .ok (.if_icmp .gt 7, 3) := by decide +kernel
theorem dX7_isDigit_12 : decode cX7_isDigit 12 = .ok (.iconst 1, 1) := by decide +kernel
theorem dX7_isDigit_13 : decode cX7_isDigit 13 = .ok (.goto 4, 3) := by decide +kernel
theorem dX7_isDigit_16 : decode cX7_isDigit 16 = .ok (.iconst 0, 1) := by decide +kernel
theorem dX7_isDigit_17 : decode cX7_isDigit 17 = .ok (.ireturn, 1) := by decide +kernel
theorem dX7_wordKind_0 : decode cX7_wordKind 0 = .ok (.aload_n 0, 1) := by decide +kernel
theorem dX7_wordKind_1 : decode cX7_wordKind 1 = .ok (.ldc 48, 2) := by decide +kernel
theorem dX7_wordKind_3 : decode cX7_wordKind 3 = .ok (.invokevirtual 50, 3) := by decide +kernel
theorem dX7_wordKind_6 : decode cX7_wordKind 6 = .ok (.ifCond .eq 5, 3) := by decide +kernel
theorem dX7_wordKind_9 : decode cX7_wordKind 9 = .ok (.iconst 5, 1) := by decide +kernel
theorem dX7_wordKind_10 : decode cX7_wordKind 10 = .ok (.ireturn, 1) := by decide +kernel
theorem dX7_wordKind_11 : decode cX7_wordKind 11 = .ok (.aload_n 0, 1) := by decide +kernel
theorem dX7_wordKind_12 : decode cX7_wordKind 12 = .ok (.ldc 54, 2) := by decide +kernel
theorem dX7_wordKind_14 : decode cX7_wordKind 14 = .ok (.invokevirtual 50, 3) := by decide +kernel
theorem dX7_wordKind_17 : decode cX7_wordKind 17 = .ok (.ifCond .eq 6, 3) := by decide +kernel
theorem dX7_wordKind_20 : decode cX7_wordKind 20 = .ok (.bipush 6, 2) := by decide +kernel
theorem dX7_wordKind_22 : decode cX7_wordKind 22 = .ok (.ireturn, 1) := by decide +kernel
theorem dX7_wordKind_23 : decode cX7_wordKind 23 = .ok (.aload_n 0, 1) := by decide +kernel
theorem dX7_wordKind_24 : decode cX7_wordKind 24 = .ok (.ldc 56, 2) := by decide +kernel
theorem dX7_wordKind_26 : decode cX7_wordKind 26 = .ok (.invokevirtual 50, 3) := by decide +kernel
theorem dX7_wordKind_29 : decode cX7_wordKind 29 = .ok (.ifCond .eq 6, 3) := by decide +kernel
theorem dX7_wordKind_32 : decode cX7_wordKind 32 = .ok (.bipush 7, 2) := by decide +kernel
theorem dX7_wordKind_34 : decode cX7_wordKind 34 = .ok (.ireturn, 1) := by decide +kernel
theorem dX7_wordKind_35 : decode cX7_wordKind 35 = .ok (.aload_n 0, 1) := by decide +kernel
theorem dX7_wordKind_36 : decode cX7_wordKind 36 = .ok (.ldc 58, 2) := by decide +kernel
theorem dX7_wordKind_38 : decode cX7_wordKind 38 = .ok (.invokevirtual 50, 3) := by decide +kernel
theorem dX7_wordKind_41 : decode cX7_wordKind 41 = .ok (.ifCond .eq 6, 3) := by decide +kernel
theorem dX7_wordKind_44 : decode cX7_wordKind 44 = .ok (.bipush 8, 2) := by decide +kernel
theorem dX7_wordKind_46 : decode cX7_wordKind 46 = .ok (.ireturn, 1) := by decide +kernel
theorem dX7_wordKind_47 : decode cX7_wordKind 47 = .ok (.aload_n 0, 1) := by decide +kernel
theorem dX7_wordKind_48 : decode cX7_wordKind 48 = .ok (.ldc 60, 2) := by decide +kernel
theorem dX7_wordKind_50 : decode cX7_wordKind 50 = .ok (.invokevirtual 50, 3) := by decide +kernel
theorem dX7_wordKind_53 : decode cX7_wordKind 53 = .ok (.ifCond .eq 6, 3) := by decide +kernel
theorem dX7_wordKind_56 : decode cX7_wordKind 56 = .ok (.bipush 9, 2) := by decide +kernel
theorem dX7_wordKind_58 : decode cX7_wordKind 58 = .ok (.ireturn, 1) := by decide +kernel
theorem dX7_wordKind_59 : decode cX7_wordKind 59 = .ok (.aload_n 0, 1) := by decide +kernel
theorem dX7_wordKind_60 : decode cX7_wordKind 60 = .ok (.ldc 62, 2) := by decide +kernel
theorem dX7_wordKind_62 : decode cX7_wordKind 62 = .ok (.invokevirtual 50, 3) := by decide +kernel
theorem dX7_wordKind_65 : decode cX7_wordKind 65 = .ok (.ifCond .eq 6, 3) := by decide +kernel
theorem dX7_wordKind_68 : decode cX7_wordKind 68 = .ok (.bipush 10, 2) := by decide +kernel
theorem dX7_wordKind_70 : decode cX7_wordKind 70 = .ok (.ireturn, 1) := by decide +kernel
theorem dX7_wordKind_71 : decode cX7_wordKind 71 = .ok (.aload_n 0, 1) := by decide +kernel
theorem dX7_wordKind_72 : decode cX7_wordKind 72 = .ok (.ldc 64, 2) := by decide +kernel
theorem dX7_wordKind_74 : decode cX7_wordKind 74 = .ok (.invokevirtual 50, 3) := by decide +kernel
theorem dX7_wordKind_77 : decode cX7_wordKind 77 = .ok (.ifCond .eq 6, 3) := by decide +kernel
theorem dX7_wordKind_80 : decode cX7_wordKind 80 = .ok (.bipush 11, 2) := by decide +kernel
theorem dX7_wordKind_82 : decode cX7_wordKind 82 = .ok (.ireturn, 1) := by decide +kernel
theorem dX7_wordKind_83 : decode cX7_wordKind 83 = .ok (.aload_n 0, 1) := by decide +kernel
theorem dX7_wordKind_84 : decode cX7_wordKind 84 = .ok (.ldc 66, 2) := by decide +kernel
theorem dX7_wordKind_86 : decode cX7_wordKind 86 = .ok (.invokevirtual 50, 3) := by decide +kernel
theorem dX7_wordKind_89 : decode cX7_wordKind 89 = .ok (.ifCond .eq 6, 3) := by decide +kernel
theorem dX7_wordKind_92 : decode cX7_wordKind 92 = .ok (.bipush 12, 2) := by decide +kernel
theorem dX7_wordKind_94 : decode cX7_wordKind 94 = .ok (.ireturn, 1) := by decide +kernel
theorem dX7_wordKind_95 : decode cX7_wordKind 95 = .ok (.aload_n 0, 1) := by decide +kernel
theorem dX7_wordKind_96 : decode cX7_wordKind 96 = .ok (.ldc 68, 2) := by decide +kernel
theorem dX7_wordKind_98 : decode cX7_wordKind 98 = .ok (.invokevirtual 50, 3) := by decide +kernel
theorem dX7_wordKind_101 : decode cX7_wordKind 101 = .ok (.ifCond .eq 6, 3) := by decide +kernel
theorem dX7_wordKind_104 : decode cX7_wordKind 104 = .ok (.bipush 13, 2) := by decide +kernel
theorem dX7_wordKind_106 : decode cX7_wordKind 106 = .ok (.ireturn, 1) := by decide +kernel
theorem dX7_wordKind_107 : decode cX7_wordKind 107 = .ok (.aload_n 0, 1) := by decide +kernel
theorem dX7_wordKind_108 : decode cX7_wordKind 108 = .ok (.ldc 70, 2) := by decide +kernel
theorem dX7_wordKind_110 : decode cX7_wordKind 110 = .ok (.invokevirtual 50, 3) := by decide +kernel
theorem dX7_wordKind_113 : decode cX7_wordKind 113 = .ok (.ifCond .eq 6, 3) := by decide +kernel
theorem dX7_wordKind_116 : decode cX7_wordKind 116 = .ok (.bipush 14, 2) := by decide +kernel
theorem dX7_wordKind_118 : decode cX7_wordKind 118 = .ok (.ireturn, 1) := by decide +kernel
theorem dX7_wordKind_119 : decode cX7_wordKind 119 = .ok (.aload_n 0, 1) := by decide +kernel
theorem dX7_wordKind_120 : decode cX7_wordKind 120 = .ok (.getfield 31, 3) := by decide +kernel
theorem dX7_wordKind_123 : decode cX7_wordKind 123 = .ok (.aload_n 0, 1) := by decide +kernel
theorem dX7_wordKind_124 : decode cX7_wordKind 124 = .ok (.getfield 28, 3) := by decide +kernel
theorem dX7_wordKind_127 : decode cX7_wordKind 127 = .ok (.isub, 1) := by decide +kernel
theorem dX7_wordKind_128 : decode cX7_wordKind 128 = .ok (.bipush 6, 2) := by decide +kernel
theorem dX7_wordKind_130 : decode cX7_wordKind 130 = .ok (.if_icmp .gt 7, 3) := by decide +kernel
theorem dX7_wordKind_133 : decode cX7_wordKind 133 = .ok (.iconst 1, 1) := by decide +kernel
theorem dX7_wordKind_134 : decode cX7_wordKind 134 = .ok (.goto 4, 3) := by decide +kernel
theorem dX7_wordKind_137 : decode cX7_wordKind 137 = .ok (.iconst 4, 1) := by decide +kernel
theorem dX7_wordKind_138 : decode cX7_wordKind 138 = .ok (.ireturn, 1) := by decide +kernel
theorem dX7_isWord_0 : decode cX7_isWord 0 = .ok (.aload_n 0, 1) := by decide +kernel
theorem dX7_isWord_1 : decode cX7_isWord 1 = .ok (.getfield 31, 3) := by decide +kernel
theorem dX7_isWord_4 : decode cX7_isWord 4 = .ok (.aload_n 0, 1) := by decide +kernel
theorem dX7_isWord_5 : decode cX7_isWord 5 = .ok (.getfield 28, 3) := by decide +kernel
theorem dX7_isWord_8 : decode cX7_isWord 8 = .ok (.isub, 1) := by decide +kernel
theorem dX7_isWord_9 : decode cX7_isWord 9 = .ok (.aload_n 1, 1) := by decide +kernel
theorem dX7_isWord_10 : decode cX7_isWord 10 = .ok (.invokevirtual 72, 3) := by decide +kernel
theorem dX7_isWord_13 : decode cX7_isWord 13 = .ok (.if_icmp .eq 5, 3) := by decide +kernel
theorem dX7_isWord_16 : decode cX7_isWord 16 = .ok (.iconst 0, 1) := by decide +kernel
theorem dX7_isWord_17 : decode cX7_isWord 17 = .ok (.ireturn, 1) := by decide +kernel
theorem dX7_isWord_18 : decode cX7_isWord 18 = .ok (.iconst 0, 1) := by decide +kernel
theorem dX7_isWord_19 : decode cX7_isWord 19 = .ok (.istore_n 2, 1) := by decide +kernel
theorem dX7_isWord_20 : decode cX7_isWord 20 = .ok (.iload_n 2, 1) := by decide +kernel
theorem dX7_isWord_21 : decode cX7_isWord 21 = .ok (.aload_n 1, 1) := by decide +kernel
theorem dX7_isWord_22 : decode cX7_isWord 22 = .ok (.invokevirtual 72, 3) := by decide +kernel
theorem dX7_isWord_25 : decode cX7_isWord 25 = .ok (.if_icmp .ge 30, 3) := by decide +kernel
theorem dX7_isWord_28 : decode cX7_isWord 28 = .ok (.aload_n 0, 1) := by decide +kernel
theorem dX7_isWord_29 : decode cX7_isWord 29 = .ok (.getfield 9, 3) := by decide +kernel
theorem dX7_isWord_32 : decode cX7_isWord 32 = .ok (.aload_n 0, 1) := by decide +kernel
theorem dX7_isWord_33 : decode cX7_isWord 33 = .ok (.getfield 28, 3) := by decide +kernel
theorem dX7_isWord_36 : decode cX7_isWord 36 = .ok (.iload_n 2, 1) := by decide +kernel
theorem dX7_isWord_37 : decode cX7_isWord 37 = .ok (.iadd, 1) := by decide +kernel
theorem dX7_isWord_38 : decode cX7_isWord 38 = .ok (.baload, 1) := by decide +kernel
theorem dX7_isWord_39 : decode cX7_isWord 39 = .ok (.aload_n 1, 1) := by decide +kernel
theorem dX7_isWord_40 : decode cX7_isWord 40 = .ok (.iload_n 2, 1) := by decide +kernel
theorem dX7_isWord_41 : decode cX7_isWord 41 = .ok (.invokevirtual 76, 3) := by decide +kernel
theorem dX7_isWord_44 : decode cX7_isWord 44 = .ok (.if_icmp .eq 5, 3) := by decide +kernel
theorem dX7_isWord_47 : decode cX7_isWord 47 = .ok (.iconst 0, 1) := by decide +kernel
theorem dX7_isWord_48 : decode cX7_isWord 48 = .ok (.ireturn, 1) := by decide +kernel
theorem dX7_isWord_49 : decode cX7_isWord 49 = .ok (.iinc 2 1, 3) := by decide +kernel
theorem dX7_isWord_52 : decode cX7_isWord 52 = .ok (.goto (-32), 3) := by decide +kernel
theorem dX7_isWord_55 : decode cX7_isWord 55 = .ok (.iconst 1, 1) := by decide +kernel
theorem dX7_isWord_56 : decode cX7_isWord 56 = .ok (.ireturn, 1) := by decide +kernel
theorem dX7_setting_0 : decode cX7_setting 0 = .ok (.aload_n 0, 1) := by decide +kernel
theorem dX7_setting_1 : decode cX7_setting 1 = .ok (.getfield 34, 3) := by decide +kernel
theorem dX7_setting_4 : decode cX7_setting 4 = .ok (.bipush 11, 2) := by decide +kernel
theorem dX7_setting_6 : decode cX7_setting 6 = .ok (.isub, 1) := by decide +kernel
theorem dX7_setting_7 : decode cX7_setting 7 = .ok (.iconst 4, 1) := by decide +kernel
theorem dX7_setting_8 : decode cX7_setting 8 = .ok (.invokestatic 80, 3) := by decide +kernel
theorem dX7_setting_11 : decode cX7_setting 11 = .ok (.ifCond .eq 13, 3) := by decide +kernel
theorem dX7_setting_14 : decode cX7_setting 14 = .ok (.aload_n 0, 1) := by decide +kernel
theorem dX7_setting_15 : decode cX7_setting 15 = .ok (.getfield 34, 3) := by decide +kernel
theorem dX7_setting_18 : decode cX7_setting 18 = .ok (.bipush 11, 2) := by decide +kernel
theorem dX7_setting_20 : decode cX7_setting 20 = .ok (.isub, 1) := by decide +kernel
theorem dX7_setting_21 : decode cX7_setting 21 = .ok (.goto 4, 3) := by decide +kernel
theorem dX7_setting_24 : decode cX7_setting 24 = .ok (.iconst (-1), 1) := by decide +kernel
theorem dX7_setting_25 : decode cX7_setting 25 = .ok (.ireturn, 1) := by decide +kernel
theorem dX7_number_0 : decode cX7_number 0 = .ok (.iconst 0, 1) := by decide +kernel
theorem dX7_number_1 : decode cX7_number 1 = .ok (.istore_n 1, 1) := by decide +kernel
theorem dX7_number_2 : decode cX7_number 2 = .ok (.aload_n 0, 1) := by decide +kernel
theorem dX7_number_3 : decode cX7_number 3 = .ok (.getfield 28, 3) := by decide +kernel
theorem dX7_number_6 : decode cX7_number 6 = .ok (.istore_n 2, 1) := by decide +kernel
theorem dX7_number_7 : decode cX7_number 7 = .ok (.iload_n 2, 1) := by decide +kernel
theorem dX7_number_8 : decode cX7_number 8 = .ok (.aload_n 0, 1) := by decide +kernel
theorem dX7_number_9 : decode cX7_number 9 = .ok (.getfield 31, 3) := by decide +kernel
theorem dX7_number_12 : decode cX7_number 12 = .ok (.if_icmp .ge 29, 3) := by decide +kernel
theorem dX7_number_15 : decode cX7_number 15 = .ok (.iload_n 1, 1) := by decide +kernel
theorem dX7_number_16 : decode cX7_number 16 = .ok (.bipush 10, 2) := by decide +kernel
theorem dX7_number_18 : decode cX7_number 18 = .ok (.imul, 1) := by decide +kernel
theorem dX7_number_19 : decode cX7_number 19 = .ok (.aload_n 0, 1) := by decide +kernel
theorem dX7_number_20 : decode cX7_number 20 = .ok (.getfield 9, 3) := by decide +kernel
theorem dX7_number_23 : decode cX7_number 23 = .ok (.iload_n 2, 1) := by decide +kernel
theorem dX7_number_24 : decode cX7_number 24 = .ok (.baload, 1) := by decide +kernel
theorem dX7_number_25 : decode cX7_number 25 = .ok (.iadd, 1) := by decide +kernel
theorem dX7_number_26 : decode cX7_number 26 = .ok (.bipush 48, 2) := by decide +kernel
theorem dX7_number_28 : decode cX7_number 28 = .ok (.isub, 1) := by decide +kernel
theorem dX7_number_29 : decode cX7_number 29 = .ok (.ldc 84, 2) := by decide +kernel
theorem dX7_number_31 : decode cX7_number 31 = .ok (.invokestatic 19, 3) := by decide +kernel
theorem dX7_number_34 : decode cX7_number 34 = .ok (.istore_n 1, 1) := by decide +kernel
theorem dX7_number_35 : decode cX7_number 35 = .ok (.iinc 2 1, 3) := by decide +kernel
theorem dX7_number_38 : decode cX7_number 38 = .ok (.goto (-31), 3) := by decide +kernel
theorem dX7_number_41 : decode cX7_number 41 = .ok (.iload_n 1, 1) := by decide +kernel
theorem dX7_number_42 : decode cX7_number 42 = .ok (.ireturn, 1) := by decide +kernel
theorem dX7_letters_0 : decode cX7_letters 0 = .ok (.iconst 0, 1) := by decide +kernel
theorem dX7_letters_1 : decode cX7_letters 1 = .ok (.istore_n 1, 1) := by decide +kernel
theorem dX7_letters_2 : decode cX7_letters 2 = .ok (.aload_n 0, 1) := by decide +kernel
theorem dX7_letters_3 : decode cX7_letters 3 = .ok (.getfield 28, 3) := by decide +kernel
theorem dX7_letters_6 : decode cX7_letters 6 = .ok (.istore_n 2, 1) := by decide +kernel
theorem dX7_letters_7 : decode cX7_letters 7 = .ok (.iload_n 2, 1) := by decide +kernel
theorem dX7_letters_8 : decode cX7_letters 8 = .ok (.aload_n 0, 1) := by decide +kernel
theorem dX7_letters_9 : decode cX7_letters 9 = .ok (.getfield 28, 3) := by decide +kernel
theorem dX7_letters_12 : decode cX7_letters 12 = .ok (.bipush 6, 2) := by decide +kernel
theorem dX7_letters_14 : decode cX7_letters 14 = .ok (.iadd, 1) := by decide +kernel
theorem dX7_letters_15 : decode cX7_letters 15 = .ok (.if_icmp .ge 37, 3) := by decide +kernel
theorem dX7_letters_18 : decode cX7_letters 18 = .ok (.iload_n 1, 1) := by decide +kernel
theorem dX7_letters_19 : decode cX7_letters 19 = .ok (.iconst 5, 1) := by decide +kernel
theorem dX7_letters_20 : decode cX7_letters 20 = .ok (.ishl, 1) := by decide +kernel
theorem dX7_letters_21 : decode cX7_letters 21 = .ok (.iload_n 2, 1) := by decide +kernel
theorem dX7_letters_22 : decode cX7_letters 22 = .ok (.aload_n 0, 1) := by decide +kernel
theorem dX7_letters_23 : decode cX7_letters 23 = .ok (.getfield 31, 3) := by decide +kernel
theorem dX7_letters_26 : decode cX7_letters 26 = .ok (.if_icmp .ge 17, 3) := by decide +kernel
theorem dX7_letters_29 : decode cX7_letters 29 = .ok (.aload_n 0, 1) := by decide +kernel
theorem dX7_letters_30 : decode cX7_letters 30 = .ok (.getfield 9, 3) := by decide +kernel
theorem dX7_letters_33 : decode cX7_letters 33 = .ok (.iload_n 2, 1) := by decide +kernel
theorem dX7_letters_34 : decode cX7_letters 34 = .ok (.baload, 1) := by decide +kernel
theorem dX7_letters_35 : decode cX7_letters 35 = .ok (.bipush 97, 2) := by decide +kernel
theorem dX7_letters_37 : decode cX7_letters 37 = .ok (.isub, 1) := by decide +kernel
theorem dX7_letters_38 : decode cX7_letters 38 = .ok (.iconst 1, 1) := by decide +kernel
theorem dX7_letters_39 : decode cX7_letters 39 = .ok (.iadd, 1) := by decide +kernel
theorem dX7_letters_40 : decode cX7_letters 40 = .ok (.goto 4, 3) := by decide +kernel
theorem dX7_letters_43 : decode cX7_letters 43 = .ok (.iconst 0, 1) := by decide +kernel
theorem dX7_letters_44 : decode cX7_letters 44 = .ok (.ior, 1) := by decide +kernel
theorem dX7_letters_45 : decode cX7_letters 45 = .ok (.istore_n 1, 1) := by decide +kernel
theorem dX7_letters_46 : decode cX7_letters 46 = .ok (.iinc 2 1, 3) := by decide +kernel
theorem dX7_letters_49 : decode cX7_letters 49 = .ok (.goto (-42), 3) := by decide +kernel
theorem dX7_letters_52 : decode cX7_letters 52 = .ok (.iload_n 1, 1) := by decide +kernel
theorem dX7_letters_53 : decode cX7_letters 53 = .ok (.ireturn, 1) := by decide +kernel
theorem dX8_init_0 : decode cX8_init 0 = .ok (.aload_n 0, 1) := by decide +kernel
theorem dX8_init_1 : decode cX8_init 1 = .ok (.invokespecial 1, 3) := by decide +kernel
theorem dX8_init_4 : decode cX8_init 4 = .ok (.aload_n 0, 1) := by decide +kernel
theorem dX8_init_5 : decode cX8_init 5 = .ok (.new 7, 3) := by decide +kernel
theorem dX8_init_8 : decode cX8_init 8 = .ok (.dup, 1) := by decide +kernel
theorem dX8_init_9 : decode cX8_init 9 = .ok (.invokespecial 9, 3) := by decide +kernel
theorem dX8_init_12 : decode cX8_init 12 = .ok (.putfield 10, 3) := by decide +kernel
theorem dX8_init_15 : decode cX8_init 15 = .ok (.aload_n 0, 1) := by decide +kernel
theorem dX8_init_16 : decode cX8_init 16 = .ok (.new 16, 3) := by decide +kernel
theorem dX8_init_19 : decode cX8_init 19 = .ok (.dup, 1) := by decide +kernel
theorem dX8_init_20 : decode cX8_init 20 = .ok (.invokespecial 18, 3) := by decide +kernel
theorem dX8_init_23 : decode cX8_init 23 = .ok (.putfield 19, 3) := by decide +kernel
theorem dX8_init_26 : decode cX8_init 26 = .ok (.aload_n 0, 1) := by decide +kernel
theorem dX8_init_27 : decode cX8_init 27 = .ok (.new 23, 3) := by decide +kernel
theorem dX8_init_30 : decode cX8_init 30 = .ok (.dup, 1) := by decide +kernel
theorem dX8_init_31 : decode cX8_init 31 = .ok (.invokespecial 25, 3) := by decide +kernel
theorem dX8_init_34 : decode cX8_init 34 = .ok (.putfield 26, 3) := by decide +kernel
theorem dX8_init_37 : decode cX8_init 37 = .ok (.aload_n 0, 1) := by decide +kernel
theorem dX8_init_38 : decode cX8_init 38 = .ok (.new 30, 3) := by decide +kernel
theorem dX8_init_41 : decode cX8_init 41 = .ok (.dup, 1) := by decide +kernel
theorem dX8_init_42 : decode cX8_init 42 = .ok (.invokespecial 32, 3) := by decide +kernel
theorem dX8_init_45 : decode cX8_init 45 = .ok (.putfield 33, 3) := by decide +kernel
theorem dX8_init_48 : decode cX8_init 48 = .ok (.aload_n 0, 1) := by decide +kernel
theorem dX8_init_49 : decode cX8_init 49 = .ok (.new 30, 3) := by decide +kernel
theorem dX8_init_52 : decode cX8_init 52 = .ok (.dup, 1) := by decide +kernel
theorem dX8_init_53 : decode cX8_init 53 = .ok (.invokespecial 32, 3) := by decide +kernel
theorem dX8_init_56 : decode cX8_init 56 = .ok (.putfield 37, 3) := by decide +kernel
theorem dX8_init_59 : decode cX8_init 59 = .ok (.aload_n 0, 1) := by decide +kernel
theorem dX8_init_60 : decode cX8_init 60 = .ok (.new 40, 3) := by decide +kernel
theorem dX8_init_63 : decode cX8_init 63 = .ok (.dup, 1) := by decide +kernel
theorem dX8_init_64 : decode cX8_init 64 = .ok (.invokespecial 42, 3) := by decide +kernel
theorem dX8_init_67 : decode cX8_init 67 = .ok (.putfield 43, 3) := by decide +kernel
theorem dX8_init_70 : decode cX8_init 70 = .ok (.aload_n 0, 1) := by decide +kernel
theorem dX8_init_71 : decode cX8_init 71 = .ok (.new 40, 3) := by decide +kernel
theorem dX8_init_74 : decode cX8_init 74 = .ok (.dup, 1) := by decide +kernel
theorem dX8_init_75 : decode cX8_init 75 = .ok (.invokespecial 42, 3) := by decide +kernel
theorem dX8_init_78 : decode cX8_init 78 = .ok (.putfield 47, 3) := by decide +kernel
theorem dX8_init_81 : decode cX8_init 81 = .ok (.aload_n 0, 1) := by decide +kernel
theorem dX8_init_82 : decode cX8_init 82 = .ok (.new 50, 3) := by decide +kernel
theorem dX8_init_85 : decode cX8_init 85 = .ok (.dup, 1) := by decide +kernel
theorem dX8_init_86 : decode cX8_init 86 = .ok (.invokespecial 52, 3) := by decide +kernel
theorem dX8_init_89 : decode cX8_init 89 = .ok (.putfield 53, 3) := by decide +kernel
theorem dX8_init_92 : decode cX8_init 92 = .ok (.aload_n 0, 1) := by decide +kernel
theorem dX8_init_93 : decode cX8_init 93 = .ok (.new 57, 3) := by decide +kernel
theorem dX8_init_96 : decode cX8_init 96 = .ok (.dup, 1) := by decide +kernel
theorem dX8_init_97 : decode cX8_init 97 = .ok (.invokespecial 59, 3) := by decide +kernel
theorem dX8_init_100 : decode cX8_init 100 = .ok (.putfield 60, 3) := by decide +kernel
theorem dX8_init_103 : decode cX8_init 103 = .ok (.aload_n 0, 1) := by decide +kernel
theorem dX8_init_104 : decode cX8_init 104 = .ok (.new 57, 3) := by decide +kernel
theorem dX8_init_107 : decode cX8_init 107 = .ok (.dup, 1) := by decide +kernel
theorem dX8_init_108 : decode cX8_init 108 = .ok (.invokespecial 59, 3) := by decide +kernel
theorem dX8_init_111 : decode cX8_init 111 = .ok (.putfield 64, 3) := by decide +kernel
theorem dX8_init_114 : decode cX8_init 114 = .ok (.aload_n 0, 1) := by decide +kernel
theorem dX8_init_115 : decode cX8_init 115 = .ok (.iconst (-1), 1) := by decide +kernel
theorem dX8_init_116 : decode cX8_init 116 = .ok (.putfield 67, 3) := by decide +kernel
theorem dX8_init_119 : decode cX8_init 119 = .ok (.return_, 1) := by decide +kernel
theorem dX8_feed_0 : decode cX8_feed 0 = .ok (.aload_n 0, 1) := by decide +kernel
theorem dX8_feed_1 : decode cX8_feed 1 = .ok (.getfield 10, 3) := by decide +kernel
theorem dX8_feed_4 : decode cX8_feed 4 = .ok (.getfield 71, 3) := by decide +kernel
theorem dX8_feed_7 : decode cX8_feed 7 = .ok (.bipush 20, 2) := by decide +kernel
theorem dX8_feed_9 : decode cX8_feed 9 = .ok (.iadd, 1) := by decide +kernel
theorem dX8_feed_10 : decode cX8_feed 10 = .ok (.sipush 1200, 3) := by decide +kernel
theorem dX8_feed_13 : decode cX8_feed 13 = .ok (.if_icmp .le 6, 3) := by decide +kernel
theorem dX8_feed_16 : decode cX8_feed 16 = .ok (.bipush (-3), 2) := by decide +kernel
theorem dX8_feed_18 : decode cX8_feed 18 = .ok (.ireturn, 1) := by decide +kernel
theorem dX8_feed_19 : decode cX8_feed 19 = .ok (.aload_n 0, 1) := by decide +kernel
theorem dX8_feed_20 : decode cX8_feed 20 = .ok (.getfield 10, 3) := by decide +kernel
theorem dX8_feed_23 : decode cX8_feed 23 = .ok (.iload_n 1, 1) := by decide +kernel
theorem dX8_feed_24 : decode cX8_feed 24 = .ok (.invokevirtual 74, 3) := by decide +kernel
theorem dX8_feed_27 : decode cX8_feed 27 = .ok (.aload_n 0, 1) := by decide +kernel
theorem dX8_feed_28 : decode cX8_feed 28 = .ok (.getfield 10, 3) := by decide +kernel
theorem dX8_feed_31 : decode cX8_feed 31 = .ok (.iload_n 2, 1) := by decide +kernel
theorem dX8_feed_32 : decode cX8_feed 32 = .ok (.invokevirtual 74, 3) := by decide +kernel
theorem dX8_feed_35 : decode cX8_feed 35 = .ok (.aload_n 0, 1) := by decide +kernel
theorem dX8_feed_36 : decode cX8_feed 36 = .ok (.getfield 10, 3) := by decide +kernel
theorem dX8_feed_39 : decode cX8_feed 39 = .ok (.iload_n 3, 1) := by decide +kernel
theorem dX8_feed_40 : decode cX8_feed 40 = .ok (.invokevirtual 74, 3) := by decide +kernel
theorem dX8_feed_43 : decode cX8_feed 43 = .ok (.aload_n 0, 1) := by decide +kernel
theorem dX8_feed_44 : decode cX8_feed 44 = .ok (.getfield 10, 3) := by decide +kernel
theorem dX8_feed_47 : decode cX8_feed 47 = .ok (.iload 4, 2) := by decide +kernel
theorem dX8_feed_49 : decode cX8_feed 49 = .ok (.invokevirtual 74, 3) := by decide +kernel
theorem dX8_feed_52 : decode cX8_feed 52 = .ok (.aload_n 0, 1) := by decide +kernel
theorem dX8_feed_53 : decode cX8_feed 53 = .ok (.getfield 10, 3) := by decide +kernel
theorem dX8_feed_56 : decode cX8_feed 56 = .ok (.iload 5, 2) := by decide +kernel
theorem dX8_feed_58 : decode cX8_feed 58 = .ok (.invokevirtual 74, 3) := by decide +kernel
theorem dX8_feed_61 : decode cX8_feed 61 = .ok (.aload_n 0, 1) := by decide +kernel
theorem dX8_feed_62 : decode cX8_feed 62 = .ok (.getfield 10, 3) := by decide +kernel
theorem dX8_feed_65 : decode cX8_feed 65 = .ok (.getfield 71, 3) := by decide +kernel
theorem dX8_feed_68 : decode cX8_feed 68 = .ok (.ireturn, 1) := by decide +kernel
theorem dX8_load_0 : decode cX8_load 0 = .ok (.iload_n 1, 1) := by decide +kernel
theorem dX8_load_1 : decode cX8_load 1 = .ok (.ifCond .lt 14, 3) := by decide +kernel
theorem dX8_load_4 : decode cX8_load 4 = .ok (.iload_n 1, 1) := by decide +kernel
theorem dX8_load_5 : decode cX8_load 5 = .ok (.aload_n 0, 1) := by decide +kernel
theorem dX8_load_6 : decode cX8_load 6 = .ok (.getfield 10, 3) := by decide +kernel
theorem dX8_load_9 : decode cX8_load 9 = .ok (.getfield 71, 3) := by decide +kernel
theorem dX8_load_12 : decode cX8_load 12 = .ok (.if_icmp .le 6, 3) := by decide +kernel
theorem dX8_load_15 : decode cX8_load 15 = .ok (.bipush (-2), 2) := by decide +kernel
theorem dX8_load_17 : decode cX8_load 17 = .ok (.ireturn, 1) := by decide +kernel
theorem dX8_load_18 : decode cX8_load 18 = .ok (.aload_n 0, 1) := by decide +kernel
theorem dX8_load_19 : decode cX8_load 19 = .ok (.getfield 10, 3) := by decide +kernel
theorem dX8_load_22 : decode cX8_load 22 = .ok (.iload_n 1, 1) := by decide +kernel
theorem dX8_load_23 : decode cX8_load 23 = .ok (.invokevirtual 78, 3) := by decide +kernel
theorem dX8_load_26 : decode cX8_load 26 = .ok (.aload_n 0, 1) := by decide +kernel
theorem dX8_load_27 : decode cX8_load 27 = .ok (.getfield 19, 3) := by decide +kernel
theorem dX8_load_30 : decode cX8_load 30 = .ok (.aload_n 0, 1) := by decide +kernel
theorem dX8_load_31 : decode cX8_load 31 = .ok (.getfield 10, 3) := by decide +kernel
theorem dX8_load_34 : decode cX8_load 34 = .ok (.aload_n 0, 1) := by decide +kernel
theorem dX8_load_35 : decode cX8_load 35 = .ok (.getfield 64, 3) := by decide +kernel
theorem dX8_load_38 : decode cX8_load 38 = .ok (.invokevirtual 81, 3) := by decide +kernel
theorem dX8_load_41 : decode cX8_load 41 = .ok (.istore_n 2, 1) := by decide +kernel
theorem dX8_load_42 : decode cX8_load 42 = .ok (.aload_n 0, 1) := by decide +kernel
theorem dX8_load_43 : decode cX8_load 43 = .ok (.getfield 10, 3) := by decide +kernel
theorem dX8_load_46 : decode cX8_load 46 = .ok (.iconst 0, 1) := by decide +kernel
theorem dX8_load_47 : decode cX8_load 47 = .ok (.putfield 71, 3) := by decide +kernel
theorem dX8_load_50 : decode cX8_load 50 = .ok (.iload_n 2, 1) := by decide +kernel
theorem dX8_load_51 : decode cX8_load 51 = .ok (.ifCond .ge 16, 3) := by decide +kernel
theorem dX8_load_54 : decode cX8_load 54 = .ok (.aload_n 0, 1) := by decide +kernel
theorem dX8_load_55 : decode cX8_load 55 = .ok (.aload_n 0, 1) := by decide +kernel
theorem dX8_load_56 : decode cX8_load 56 = .ok (.getfield 10, 3) := by decide +kernel
theorem dX8_load_59 : decode cX8_load 59 = .ok (.getfield 85, 3) := by decide +kernel
theorem dX8_load_62 : decode cX8_load 62 = .ok (.putfield 67, 3) := by decide +kernel
theorem dX8_load_65 : decode cX8_load 65 = .ok (.iload_n 2, 1) := by decide +kernel
theorem dX8_load_66 : decode cX8_load 66 = .ok (.ireturn, 1) := by decide +kernel
theorem dX8_load_67 : decode cX8_load 67 = .ok (.aload_n 0, 1) := by decide +kernel
theorem dX8_load_68 : decode cX8_load 68 = .ok (.iconst (-1), 1) := by decide +kernel
theorem dX8_load_69 : decode cX8_load 69 = .ok (.putfield 67, 3) := by decide +kernel
theorem dX8_load_72 : decode cX8_load 72 = .ok (.aload_n 0, 1) := by decide +kernel
theorem dX8_load_73 : decode cX8_load 73 = .ok (.getfield 64, 3) := by decide +kernel
theorem dX8_load_76 : decode cX8_load 76 = .ok (.astore_n 3, 1) := by decide +kernel
theorem dX8_load_77 : decode cX8_load 77 = .ok (.aload_n 0, 1) := by decide +kernel
theorem dX8_load_78 : decode cX8_load 78 = .ok (.aload_n 0, 1) := by decide +kernel
theorem dX8_load_79 : decode cX8_load 79 = .ok (.getfield 60, 3) := by decide +kernel
theorem dX8_load_82 : decode cX8_load 82 = .ok (.putfield 64, 3) := by decide +kernel
theorem dX8_load_85 : decode cX8_load 85 = .ok (.aload_n 0, 1) := by decide +kernel
theorem dX8_load_86 : decode cX8_load 86 = .ok (.aload_n 3, 1) := by decide +kernel
theorem dX8_load_87 : decode cX8_load 87 = .ok (.putfield 60, 3) := by decide +kernel
theorem dX8_load_90 : decode cX8_load 90 = .ok (.aload_n 0, 1) := by decide +kernel
theorem dX8_load_91 : decode cX8_load 91 = .ok (.getfield 26, 3) := by decide +kernel
theorem dX8_load_94 : decode cX8_load 94 = .ok (.iconst 0, 1) := by decide +kernel
theorem dX8_load_95 : decode cX8_load 95 = .ok (.putfield 88, 3) := by decide +kernel
theorem dX8_load_98 : decode cX8_load 98 = .ok (.aload_n 0, 1) := by decide +kernel
theorem dX8_load_99 : decode cX8_load 99 = .ok (.invokevirtual 91, 3) := by decide +kernel
theorem dX8_load_102 : decode cX8_load 102 = .ok (.iload_n 2, 1) := by decide +kernel
theorem dX8_load_103 : decode cX8_load 103 = .ok (.ireturn, 1) := by decide +kernel
theorem dX8_errorPosition_0 : decode cX8_errorPosition 0 = .ok (.aload_n 0, 1) := by decide +kernel
theorem dX8_errorPosition_1 : decode cX8_errorPosition 1 = .ok (.getfield 67, 3) := by decide +kernel
theorem dX8_errorPosition_4 : decode cX8_errorPosition 4 = .ok (.ireturn, 1) := by decide +kernel
theorem dX8_districtCount_0 : decode cX8_districtCount 0 = .ok (.aload_n 0, 1) := by decide +kernel
theorem dX8_districtCount_1 : decode cX8_districtCount 1 = .ok (.getfield 60, 3) := by decide +kernel
theorem dX8_districtCount_4 : decode cX8_districtCount 4 = .ok (.getfield 94, 3) := by decide +kernel
theorem dX8_districtCount_7 : decode cX8_districtCount 7 = .ok (.ireturn, 1) := by decide +kernel
theorem dX8_projectCount_0 : decode cX8_projectCount 0 = .ok (.aload_n 0, 1) := by decide +kernel
theorem dX8_projectCount_1 : decode cX8_projectCount 1 = .ok (.getfield 60, 3) := by decide +kernel
theorem dX8_projectCount_4 : decode cX8_projectCount 4 = .ok (.getfield 97, 3) := by decide +kernel
theorem dX8_projectCount_7 : decode cX8_projectCount 7 = .ok (.ireturn, 1) := by decide +kernel
theorem dX8_voterCount_0 : decode cX8_voterCount 0 = .ok (.aload_n 0, 1) := by decide +kernel
theorem dX8_voterCount_1 : decode cX8_voterCount 1 = .ok (.getfield 60, 3) := by decide +kernel
theorem dX8_voterCount_4 : decode cX8_voterCount 4 = .ok (.getfield 100, 3) := by decide +kernel
theorem dX8_voterCount_7 : decode cX8_voterCount 7 = .ok (.ireturn, 1) := by decide +kernel
theorem dX8_undoCount_0 : decode cX8_undoCount 0 = .ok (.aload_n 0, 1) := by decide +kernel
theorem dX8_undoCount_1 : decode cX8_undoCount 1 = .ok (.getfield 26, 3) := by decide +kernel
theorem dX8_undoCount_4 : decode cX8_undoCount 4 = .ok (.getfield 88, 3) := by decide +kernel
theorem dX8_undoCount_7 : decode cX8_undoCount 7 = .ok (.ireturn, 1) := by decide +kernel
theorem dX8_districtNamed_0 : decode cX8_districtNamed 0 = .ok (.aload_n 0, 1) := by decide +kernel
theorem dX8_districtNamed_1 : decode cX8_districtNamed 1 = .ok (.getfield 60, 3) := by decide +kernel
theorem dX8_districtNamed_4 : decode cX8_districtNamed 4 = .ok (.getfield 103, 3) := by decide +kernel
theorem dX8_districtNamed_7 : decode cX8_districtNamed 7 = .ok (.aload_n 0, 1) := by decide +kernel
theorem dX8_districtNamed_8 : decode cX8_districtNamed 8 = .ok (.getfield 60, 3) := by decide +kernel
theorem dX8_districtNamed_11 : decode cX8_districtNamed 11 = .ok (.getfield 94, 3) := by decide +kernel
theorem dX8_districtNamed_14 : decode cX8_districtNamed 14 = .ok (.iload_n 1, 1) := by decide +kernel
theorem dX8_districtNamed_15 : decode cX8_districtNamed 15 = .ok (.invokestatic 107, 3) := by decide +kernel
theorem dX8_districtNamed_18 : decode cX8_districtNamed 18 = .ok (.ireturn, 1) := by decide +kernel
theorem dX8_projectNamed_0 : decode cX8_projectNamed 0 = .ok (.aload_n 0, 1) := by decide +kernel
theorem dX8_projectNamed_1 : decode cX8_projectNamed 1 = .ok (.getfield 60, 3) := by decide +kernel
theorem dX8_projectNamed_4 : decode cX8_projectNamed 4 = .ok (.getfield 111, 3) := by decide +kernel
theorem dX8_projectNamed_7 : decode cX8_projectNamed 7 = .ok (.aload_n 0, 1) := by decide +kernel
theorem dX8_projectNamed_8 : decode cX8_projectNamed 8 = .ok (.getfield 60, 3) := by decide +kernel
theorem dX8_projectNamed_11 : decode cX8_projectNamed 11 = .ok (.getfield 97, 3) := by decide +kernel
theorem dX8_projectNamed_14 : decode cX8_projectNamed 14 = .ok (.iload_n 1, 1) := by decide +kernel
theorem dX8_projectNamed_15 : decode cX8_projectNamed 15 = .ok (.invokestatic 107, 3) := by decide +kernel
theorem dX8_projectNamed_18 : decode cX8_projectNamed 18 = .ok (.ireturn, 1) := by decide +kernel
theorem dX8_budgetOf_0 : decode cX8_budgetOf 0 = .ok (.iload_n 1, 1) := by decide +kernel
theorem dX8_budgetOf_1 : decode cX8_budgetOf 1 = .ok (.aload_n 0, 1) := by decide +kernel
theorem dX8_budgetOf_2 : decode cX8_budgetOf 2 = .ok (.getfield 60, 3) := by decide +kernel
theorem dX8_budgetOf_5 : decode cX8_budgetOf 5 = .ok (.getfield 94, 3) := by decide +kernel
theorem dX8_budgetOf_8 : decode cX8_budgetOf 8 = .ok (.invokestatic 114, 3) := by decide +kernel
theorem dX8_budgetOf_11 : decode cX8_budgetOf 11 = .ok (.aload_n 0, 1) := by decide +kernel
theorem dX8_budgetOf_12 : decode cX8_budgetOf 12 = .ok (.getfield 60, 3) := by decide +kernel
theorem dX8_budgetOf_15 : decode cX8_budgetOf 15 = .ok (.getfield 118, 3) := by decide +kernel
theorem dX8_budgetOf_18 : decode cX8_budgetOf 18 = .ok (.iload_n 1, 1) := by decide +kernel
theorem dX8_budgetOf_19 : decode cX8_budgetOf 19 = .ok (.iaload, 1) := by decide +kernel
theorem dX8_budgetOf_20 : decode cX8_budgetOf 20 = .ok (.ireturn, 1) := by decide +kernel
theorem dX8_costOf_0 : decode cX8_costOf 0 = .ok (.iload_n 1, 1) := by decide +kernel
theorem dX8_costOf_1 : decode cX8_costOf 1 = .ok (.aload_n 0, 1) := by decide +kernel
theorem dX8_costOf_2 : decode cX8_costOf 2 = .ok (.getfield 60, 3) := by decide +kernel
theorem dX8_costOf_5 : decode cX8_costOf 5 = .ok (.getfield 97, 3) := by decide +kernel
theorem dX8_costOf_8 : decode cX8_costOf 8 = .ok (.invokestatic 114, 3) := by decide +kernel
theorem dX8_costOf_11 : decode cX8_costOf 11 = .ok (.aload_n 0, 1) := by decide +kernel
theorem dX8_costOf_12 : decode cX8_costOf 12 = .ok (.getfield 60, 3) := by decide +kernel
theorem dX8_costOf_15 : decode cX8_costOf 15 = .ok (.getfield 121, 3) := by decide +kernel
theorem dX8_costOf_18 : decode cX8_costOf 18 = .ok (.iload_n 1, 1) := by decide +kernel
theorem dX8_costOf_19 : decode cX8_costOf 19 = .ok (.iaload, 1) := by decide +kernel
theorem dX8_costOf_20 : decode cX8_costOf 20 = .ok (.ireturn, 1) := by decide +kernel
theorem dX8_districtsOf_0 : decode cX8_districtsOf 0 = .ok (.iload_n 1, 1) := by decide +kernel
theorem dX8_districtsOf_1 : decode cX8_districtsOf 1 = .ok (.aload_n 0, 1) := by decide +kernel
theorem dX8_districtsOf_2 : decode cX8_districtsOf 2 = .ok (.getfield 60, 3) := by decide +kernel
theorem dX8_districtsOf_5 : decode cX8_districtsOf 5 = .ok (.getfield 97, 3) := by decide +kernel
theorem dX8_districtsOf_8 : decode cX8_districtsOf 8 = .ok (.invokestatic 114, 3) := by decide +kernel
theorem dX8_districtsOf_11 : decode cX8_districtsOf 11 = .ok (.aload_n 0, 1) := by decide +kernel
theorem dX8_districtsOf_12 : decode cX8_districtsOf 12 = .ok (.getfield 60, 3) := by decide +kernel
theorem dX8_districtsOf_15 : decode cX8_districtsOf 15 = .ok (.getfield 124, 3) := by decide +kernel
theorem dX8_districtsOf_18 : decode cX8_districtsOf 18 = .ok (.iload_n 1, 1) := by decide +kernel
theorem dX8_districtsOf_19 : decode cX8_districtsOf 19 = .ok (.iaload, 1) := by decide +kernel
theorem dX8_districtsOf_20 : decode cX8_districtsOf 20 = .ok (.ireturn, 1) := by decide +kernel
theorem dX8_memberships_0 : decode cX8_memberships 0 = .ok (.iload_n 1, 1) := by decide +kernel
theorem dX8_memberships_1 : decode cX8_memberships 1 = .ok (.aload_n 0, 1) := by decide +kernel
theorem dX8_memberships_2 : decode cX8_memberships 2 = .ok (.getfield 60, 3) := by decide +kernel
