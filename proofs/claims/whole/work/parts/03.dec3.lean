theorem dX9_allMeans_31 : decode cX9_allMeans 31 = .ok (.iconst 0, 1) := by decide +kernel
theorem dX9_allMeans_32 : decode cX9_allMeans 32 = .ok (.iadd, 1) := by decide +kernel
theorem dX9_allMeans_33 : decode cX9_allMeans 33 = .ok (.istore_n 2, 1) := by decide +kernel
theorem dX9_allMeans_34 : decode cX9_allMeans 34 = .ok (.iinc 3 1, 3) := by decide +kernel
theorem dX9_allMeans_37 : decode cX9_allMeans 37 = .ok (.goto (-33), 3) := by decide +kernel
theorem dX9_allMeans_40 : decode cX9_allMeans 40 = .ok (.iload_n 2, 1) := by decide +kernel
theorem dX9_allMeans_41 : decode cX9_allMeans 41 = .ok (.ireturn, 1) := by decide +kernel
theorem dX9_shareOf_0 : decode cX9_shareOf 0 = .ok (.aload_n 0, 1) := by decide +kernel
theorem dX9_shareOf_1 : decode cX9_shareOf 1 = .ok (.iload_n 1, 1) := by decide +kernel
theorem dX9_shareOf_2 : decode cX9_shareOf 2 = .ok (.iload_n 2, 1) := by decide +kernel
theorem dX9_shareOf_3 : decode cX9_shareOf 3 = .ok (.invokevirtual 255, 3) := by decide +kernel
theorem dX9_shareOf_6 : decode cX9_shareOf 6 = .ok (.istore 4, 2) := by decide +kernel
theorem dX9_shareOf_8 : decode cX9_shareOf 8 = .ok (.iload 4, 2) := by decide +kernel
theorem dX9_shareOf_10 : decode cX9_shareOf 10 = .ok (.iload_n 3, 1) := by decide +kernel
theorem dX9_shareOf_11 : decode cX9_shareOf 11 = .ok (.aload_n 0, 1) := by decide +kernel
theorem dX9_shareOf_12 : decode cX9_shareOf 12 = .ok (.getfield 7, 3) := by decide +kernel
theorem dX9_shareOf_15 : decode cX9_shareOf 15 = .ok (.bipush 20, 2) := by decide +kernel
theorem dX9_shareOf_17 : decode cX9_shareOf 17 = .ok (.iload_n 1, 1) := by decide +kernel
theorem dX9_shareOf_18 : decode cX9_shareOf 18 = .ok (.iadd, 1) := by decide +kernel
theorem dX9_shareOf_19 : decode cX9_shareOf 19 = .ok (.iaload, 1) := by decide +kernel
theorem dX9_shareOf_20 : decode cX9_shareOf 20 = .ok (.imul, 1) := by decide +kernel
theorem dX9_shareOf_21 : decode cX9_shareOf 21 = .ok (.if_icmp .ge 8, 3) := by decide +kernel
theorem dX9_shareOf_24 : decode cX9_shareOf 24 = .ok (.iload 4, 2) := by decide +kernel
theorem dX9_shareOf_26 : decode cX9_shareOf 26 = .ok (.goto 14, 3) := by decide +kernel
theorem dX9_shareOf_29 : decode cX9_shareOf 29 = .ok (.iload_n 3, 1) := by decide +kernel
theorem dX9_shareOf_30 : decode cX9_shareOf 30 = .ok (.aload_n 0, 1) := by decide +kernel
theorem dX9_shareOf_31 : decode cX9_shareOf 31 = .ok (.getfield 7, 3) := by decide +kernel
theorem dX9_shareOf_34 : decode cX9_shareOf 34 = .ok (.bipush 20, 2) := by decide +kernel
theorem dX9_shareOf_36 : decode cX9_shareOf 36 = .ok (.iload_n 1, 1) := by decide +kernel
theorem dX9_shareOf_37 : decode cX9_shareOf 37 = .ok (.iadd, 1) := by decide +kernel
theorem dX9_shareOf_38 : decode cX9_shareOf 38 = .ok (.iaload, 1) := by decide +kernel
theorem dX9_shareOf_39 : decode cX9_shareOf 39 = .ok (.imul, 1) := by decide +kernel
theorem dX9_shareOf_40 : decode cX9_shareOf 40 = .ok (.ireturn, 1) := by decide +kernel
theorem dX9_sharesAt_0 : decode cX9_sharesAt 0 = .ok (.iconst 0, 1) := by decide +kernel
theorem dX9_sharesAt_1 : decode cX9_sharesAt 1 = .ok (.istore_n 3, 1) := by decide +kernel
theorem dX9_sharesAt_2 : decode cX9_sharesAt 2 = .ok (.iconst 0, 1) := by decide +kernel
theorem dX9_sharesAt_3 : decode cX9_sharesAt 3 = .ok (.istore 4, 2) := by decide +kernel
theorem dX9_sharesAt_5 : decode cX9_sharesAt 5 = .ok (.iload 4, 2) := by decide +kernel
theorem dX9_sharesAt_7 : decode cX9_sharesAt 7 = .ok (.aload_n 0, 1) := by decide +kernel
theorem dX9_sharesAt_8 : decode cX9_sharesAt 8 = .ok (.getfield 229, 3) := by decide +kernel
theorem dX9_sharesAt_11 : decode cX9_sharesAt 11 = .ok (.if_icmp .ge 34, 3) := by decide +kernel
theorem dX9_sharesAt_14 : decode cX9_sharesAt 14 = .ok (.iload_n 3, 1) := by decide +kernel
theorem dX9_sharesAt_15 : decode cX9_sharesAt 15 = .ok (.aload_n 0, 1) := by decide +kernel
theorem dX9_sharesAt_16 : decode cX9_sharesAt 16 = .ok (.iload 4, 2) := by decide +kernel
theorem dX9_sharesAt_18 : decode cX9_sharesAt 18 = .ok (.iload_n 1, 1) := by decide +kernel
theorem dX9_sharesAt_19 : decode cX9_sharesAt 19 = .ok (.invokevirtual 246, 3) := by decide +kernel
theorem dX9_sharesAt_22 : decode cX9_sharesAt 22 = .ok (.ifCond .eq 14, 3) := by decide +kernel
theorem dX9_sharesAt_25 : decode cX9_sharesAt 25 = .ok (.aload_n 0, 1) := by decide +kernel
theorem dX9_sharesAt_26 : decode cX9_sharesAt 26 = .ok (.iload 4, 2) := by decide +kernel
theorem dX9_sharesAt_28 : decode cX9_sharesAt 28 = .ok (.iload_n 1, 1) := by decide +kernel
theorem dX9_sharesAt_29 : decode cX9_sharesAt 29 = .ok (.iload_n 2, 1) := by decide +kernel
theorem dX9_sharesAt_30 : decode cX9_sharesAt 30 = .ok (.invokevirtual 258, 3) := by decide +kernel
theorem dX9_sharesAt_33 : decode cX9_sharesAt 33 = .ok (.goto 4, 3) := by decide +kernel
theorem dX9_sharesAt_36 : decode cX9_sharesAt 36 = .ok (.iconst 0, 1) := by decide +kernel
theorem dX9_sharesAt_37 : decode cX9_sharesAt 37 = .ok (.iadd, 1) := by decide +kernel
theorem dX9_sharesAt_38 : decode cX9_sharesAt 38 = .ok (.istore_n 3, 1) := by decide +kernel
theorem dX9_sharesAt_39 : decode cX9_sharesAt 39 = .ok (.iinc 4 1, 3) := by decide +kernel
theorem dX9_sharesAt_42 : decode cX9_sharesAt 42 = .ok (.goto (-37), 3) := by decide +kernel
theorem dX9_sharesAt_45 : decode cX9_sharesAt 45 = .ok (.iload_n 3, 1) := by decide +kernel
theorem dX9_sharesAt_46 : decode cX9_sharesAt 46 = .ok (.ireturn, 1) := by decide +kernel
theorem dX9_priceNow_0 : decode cX9_priceNow 0 = .ok (.aload_n 0, 1) := by decide +kernel
theorem dX9_priceNow_1 : decode cX9_priceNow 1 = .ok (.iload_n 1, 1) := by decide +kernel
theorem dX9_priceNow_2 : decode cX9_priceNow 2 = .ok (.invokevirtual 262, 3) := by decide +kernel
theorem dX9_priceNow_5 : decode cX9_priceNow 5 = .ok (.aload_n 0, 1) := by decide +kernel
theorem dX9_priceNow_6 : decode cX9_priceNow 6 = .ok (.getfield 7, 3) := by decide +kernel
theorem dX9_priceNow_9 : decode cX9_priceNow 9 = .ok (.bipush 8, 2) := by decide +kernel
theorem dX9_priceNow_11 : decode cX9_priceNow 11 = .ok (.iload_n 1, 1) := by decide +kernel
theorem dX9_priceNow_12 : decode cX9_priceNow 12 = .ok (.iadd, 1) := by decide +kernel
theorem dX9_priceNow_13 : decode cX9_priceNow 13 = .ok (.iaload, 1) := by decide +kernel
theorem dX9_priceNow_14 : decode cX9_priceNow 14 = .ok (.if_icmp .ge 5, 3) := by decide +kernel
theorem dX9_priceNow_17 : decode cX9_priceNow 17 = .ok (.iconst (-1), 1) := by decide +kernel
theorem dX9_priceNow_18 : decode cX9_priceNow 18 = .ok (.ireturn, 1) := by decide +kernel
theorem dX9_priceNow_19 : decode cX9_priceNow 19 = .ok (.iconst 1, 1) := by decide +kernel
theorem dX9_priceNow_20 : decode cX9_priceNow 20 = .ok (.istore_n 2, 1) := by decide +kernel
theorem dX9_priceNow_21 : decode cX9_priceNow 21 = .ok (.ldc 170, 2) := by decide +kernel
theorem dX9_priceNow_23 : decode cX9_priceNow 23 = .ok (.istore_n 3, 1) := by decide +kernel
theorem dX9_priceNow_24 : decode cX9_priceNow 24 = .ok (.iload_n 2, 1) := by decide +kernel
theorem dX9_priceNow_25 : decode cX9_priceNow 25 = .ok (.iload_n 3, 1) := by decide +kernel
theorem dX9_priceNow_26 : decode cX9_priceNow 26 = .ok (.if_icmp .ge 43, 3) := by decide +kernel
theorem dX9_priceNow_29 : decode cX9_priceNow 29 = .ok (.iload_n 2, 1) := by decide +kernel
theorem dX9_priceNow_30 : decode cX9_priceNow 30 = .ok (.iload_n 3, 1) := by decide +kernel
theorem dX9_priceNow_31 : decode cX9_priceNow 31 = .ok (.iadd, 1) := by decide +kernel
theorem dX9_priceNow_32 : decode cX9_priceNow 32 = .ok (.iconst 2, 1) := by decide +kernel
theorem dX9_priceNow_33 : decode cX9_priceNow 33 = .ok (.idiv, 1) := by decide +kernel
theorem dX9_priceNow_34 : decode cX9_priceNow 34 = .ok (.istore 4, 2) := by decide +kernel
theorem dX9_priceNow_36 : decode cX9_priceNow 36 = .ok (.aload_n 0, 1) := by decide +kernel
theorem dX9_priceNow_37 : decode cX9_priceNow 37 = .ok (.iload_n 1, 1) := by decide +kernel
theorem dX9_priceNow_38 : decode cX9_priceNow 38 = .ok (.iload 4, 2) := by decide +kernel
theorem dX9_priceNow_40 : decode cX9_priceNow 40 = .ok (.invokevirtual 265, 3) := by decide +kernel
theorem dX9_priceNow_43 : decode cX9_priceNow 43 = .ok (.aload_n 0, 1) := by decide +kernel
theorem dX9_priceNow_44 : decode cX9_priceNow 44 = .ok (.getfield 7, 3) := by decide +kernel
theorem dX9_priceNow_47 : decode cX9_priceNow 47 = .ok (.bipush 8, 2) := by decide +kernel
theorem dX9_priceNow_49 : decode cX9_priceNow 49 = .ok (.iload_n 1, 1) := by decide +kernel
theorem dX9_priceNow_50 : decode cX9_priceNow 50 = .ok (.iadd, 1) := by decide +kernel
theorem dX9_priceNow_51 : decode cX9_priceNow 51 = .ok (.iaload, 1) := by decide +kernel
theorem dX9_priceNow_52 : decode cX9_priceNow 52 = .ok (.if_icmp .lt 9, 3) := by decide +kernel
theorem dX9_priceNow_55 : decode cX9_priceNow 55 = .ok (.iload 4, 2) := by decide +kernel
theorem dX9_priceNow_57 : decode cX9_priceNow 57 = .ok (.istore_n 3, 1) := by decide +kernel
theorem dX9_priceNow_58 : decode cX9_priceNow 58 = .ok (.goto 8, 3) := by decide +kernel
theorem dX9_priceNow_61 : decode cX9_priceNow 61 = .ok (.iload 4, 2) := by decide +kernel
theorem dX9_priceNow_63 : decode cX9_priceNow 63 = .ok (.iconst 1, 1) := by decide +kernel
theorem dX9_priceNow_64 : decode cX9_priceNow 64 = .ok (.iadd, 1) := by decide +kernel
theorem dX9_priceNow_65 : decode cX9_priceNow 65 = .ok (.istore_n 2, 1) := by decide +kernel
theorem dX9_priceNow_66 : decode cX9_priceNow 66 = .ok (.goto (-42), 3) := by decide +kernel
theorem dX9_priceNow_69 : decode cX9_priceNow 69 = .ok (.iload_n 2, 1) := by decide +kernel
theorem dX9_priceNow_70 : decode cX9_priceNow 70 = .ok (.ireturn, 1) := by decide +kernel
theorem dX9_firstPrice_0 : decode cX9_firstPrice 0 = .ok (.aload_n 0, 1) := by decide +kernel
theorem dX9_firstPrice_1 : decode cX9_firstPrice 1 = .ok (.aload_n 0, 1) := by decide +kernel
theorem dX9_firstPrice_2 : decode cX9_firstPrice 2 = .ok (.iload_n 1, 1) := by decide +kernel
theorem dX9_firstPrice_3 : decode cX9_firstPrice 3 = .ok (.invokevirtual 240, 3) := by decide +kernel
theorem dX9_firstPrice_6 : decode cX9_firstPrice 6 = .ok (.invokevirtual 236, 3) := by decide +kernel
theorem dX9_firstPrice_9 : decode cX9_firstPrice 9 = .ok (.ifCond .eq 5, 3) := by decide +kernel
theorem dX9_firstPrice_12 : decode cX9_firstPrice 12 = .ok (.iconst 0, 1) := by decide +kernel
theorem dX9_firstPrice_13 : decode cX9_firstPrice 13 = .ok (.ireturn, 1) := by decide +kernel
theorem dX9_firstPrice_14 : decode cX9_firstPrice 14 = .ok (.aload_n 0, 1) := by decide +kernel
theorem dX9_firstPrice_15 : decode cX9_firstPrice 15 = .ok (.iconst 0, 1) := by decide +kernel
theorem dX9_firstPrice_16 : decode cX9_firstPrice 16 = .ok (.invokevirtual 268, 3) := by decide +kernel
theorem dX9_firstPrice_19 : decode cX9_firstPrice 19 = .ok (.aload_n 0, 1) := by decide +kernel
theorem dX9_firstPrice_20 : decode cX9_firstPrice 20 = .ok (.iload_n 1, 1) := by decide +kernel
theorem dX9_firstPrice_21 : decode cX9_firstPrice 21 = .ok (.invokevirtual 271, 3) := by decide +kernel
theorem dX9_firstPrice_24 : decode cX9_firstPrice 24 = .ok (.ireturn, 1) := by decide +kernel
theorem dX9_comesAhead_0 : decode cX9_comesAhead 0 = .ok (.iload_n 2, 1) := by decide +kernel
theorem dX9_comesAhead_1 : decode cX9_comesAhead 1 = .ok (.i2l, 1) := by decide +kernel
theorem dX9_comesAhead_2 : decode cX9_comesAhead 2 = .ok (.lstore 5, 2) := by decide +kernel
theorem dX9_comesAhead_4 : decode cX9_comesAhead 4 = .ok (.iload 4, 2) := by decide +kernel
theorem dX9_comesAhead_6 : decode cX9_comesAhead 6 = .ok (.i2l, 1) := by decide +kernel
theorem dX9_comesAhead_7 : decode cX9_comesAhead 7 = .ok (.lstore 7, 2) := by decide +kernel
theorem dX9_comesAhead_9 : decode cX9_comesAhead 9 = .ok (.aload_n 0, 1) := by decide +kernel
theorem dX9_comesAhead_10 : decode cX9_comesAhead 10 = .ok (.getfield 7, 3) := by decide +kernel
theorem dX9_comesAhead_13 : decode cX9_comesAhead 13 = .ok (.iconst 0, 1) := by decide +kernel
theorem dX9_comesAhead_14 : decode cX9_comesAhead 14 = .ok (.iaload, 1) := by decide +kernel
theorem dX9_comesAhead_15 : decode cX9_comesAhead 15 = .ok (.iconst 1, 1) := by decide +kernel
theorem dX9_comesAhead_16 : decode cX9_comesAhead 16 = .ok (.if_icmp .ne 34, 3) := by decide +kernel
theorem dX9_comesAhead_19 : decode cX9_comesAhead 19 = .ok (.iload_n 2, 1) := by decide +kernel
theorem dX9_comesAhead_20 : decode cX9_comesAhead 20 = .ok (.i2l, 1) := by decide +kernel
theorem dX9_comesAhead_21 : decode cX9_comesAhead 21 = .ok (.aload_n 0, 1) := by decide +kernel
theorem dX9_comesAhead_22 : decode cX9_comesAhead 22 = .ok (.getfield 7, 3) := by decide +kernel
theorem dX9_comesAhead_25 : decode cX9_comesAhead 25 = .ok (.bipush 8, 2) := by decide +kernel
theorem dX9_comesAhead_27 : decode cX9_comesAhead 27 = .ok (.iload_n 3, 1) := by decide +kernel
theorem dX9_comesAhead_28 : decode cX9_comesAhead 28 = .ok (.iadd, 1) := by decide +kernel
theorem dX9_comesAhead_29 : decode cX9_comesAhead 29 = .ok (.iaload, 1) := by decide +kernel
theorem dX9_comesAhead_30 : decode cX9_comesAhead 30 = .ok (.i2l, 1) := by decide +kernel
theorem dX9_comesAhead_31 : decode cX9_comesAhead 31 = .ok (.lmul, 1) := by decide +kernel
theorem dX9_comesAhead_32 : decode cX9_comesAhead 32 = .ok (.lstore 5, 2) := by decide +kernel
theorem dX9_comesAhead_34 : decode cX9_comesAhead 34 = .ok (.iload 4, 2) := by decide +kernel
theorem dX9_comesAhead_36 : decode cX9_comesAhead 36 = .ok (.i2l, 1) := by decide +kernel
theorem dX9_comesAhead_37 : decode cX9_comesAhead 37 = .ok (.aload_n 0, 1) := by decide +kernel
theorem dX9_comesAhead_38 : decode cX9_comesAhead 38 = .ok (.getfield 7, 3) := by decide +kernel
theorem dX9_comesAhead_41 : decode cX9_comesAhead 41 = .ok (.bipush 8, 2) := by decide +kernel
theorem dX9_comesAhead_43 : decode cX9_comesAhead 43 = .ok (.iload_n 1, 1) := by decide +kernel
theorem dX9_comesAhead_44 : decode cX9_comesAhead 44 = .ok (.iadd, 1) := by decide +kernel
theorem dX9_comesAhead_45 : decode cX9_comesAhead 45 = .ok (.iaload, 1) := by decide +kernel
theorem dX9_comesAhead_46 : decode cX9_comesAhead 46 = .ok (.i2l, 1) := by decide +kernel
theorem dX9_comesAhead_47 : decode cX9_comesAhead 47 = .ok (.lmul, 1) := by decide +kernel
theorem dX9_comesAhead_48 : decode cX9_comesAhead 48 = .ok (.lstore 7, 2) := by decide +kernel
theorem dX9_comesAhead_50 : decode cX9_comesAhead 50 = .ok (.lload 5, 2) := by decide +kernel
theorem dX9_comesAhead_52 : decode cX9_comesAhead 52 = .ok (.lload 7, 2) := by decide +kernel
theorem dX9_comesAhead_54 : decode cX9_comesAhead 54 = .ok (.lcmp, 1) := by decide +kernel
theorem dX9_comesAhead_55 : decode cX9_comesAhead 55 = .ok (.ifCond .lt 24, 3) := by decide +kernel
theorem dX9_comesAhead_58 : decode cX9_comesAhead 58 = .ok (.lload 5, 2) := by decide +kernel
theorem dX9_comesAhead_60 : decode cX9_comesAhead 60 = .ok (.lload 7, 2) := by decide +kernel
theorem dX9_comesAhead_62 : decode cX9_comesAhead 62 = .ok (.lcmp, 1) := by decide +kernel
theorem dX9_comesAhead_63 : decode cX9_comesAhead 63 = .ok (.ifCond .ne 20, 3) := by decide +kernel
theorem dX9_comesAhead_66 : decode cX9_comesAhead 66 = .ok (.aload_n 0, 1) := by decide +kernel
theorem dX9_comesAhead_67 : decode cX9_comesAhead 67 = .ok (.iload_n 1, 1) := by decide +kernel
theorem dX9_comesAhead_68 : decode cX9_comesAhead 68 = .ok (.invokevirtual 249, 3) := by decide +kernel
theorem dX9_comesAhead_71 : decode cX9_comesAhead 71 = .ok (.aload_n 0, 1) := by decide +kernel
theorem dX9_comesAhead_72 : decode cX9_comesAhead 72 = .ok (.iload_n 3, 1) := by decide +kernel
theorem dX9_comesAhead_73 : decode cX9_comesAhead 73 = .ok (.invokevirtual 249, 3) := by decide +kernel
theorem dX9_comesAhead_76 : decode cX9_comesAhead 76 = .ok (.if_icmp .le 7, 3) := by decide +kernel
theorem dX9_comesAhead_79 : decode cX9_comesAhead 79 = .ok (.iconst 1, 1) := by decide +kernel
theorem dX9_comesAhead_80 : decode cX9_comesAhead 80 = .ok (.goto 4, 3) := by decide +kernel
theorem dX9_comesAhead_83 : decode cX9_comesAhead 83 = .ok (.iconst 0, 1) := by decide +kernel
theorem dX9_comesAhead_84 : decode cX9_comesAhead 84 = .ok (.ireturn, 1) := by decide +kernel
theorem dX9_take_0 : decode cX9_take 0 = .ok (.iload_n 3, 1) := by decide +kernel
theorem dX9_take_1 : decode cX9_take 1 = .ok (.istore 4, 2) := by decide +kernel
theorem dX9_take_3 : decode cX9_take 3 = .ok (.iconst 0, 1) := by decide +kernel
theorem dX9_take_4 : decode cX9_take 4 = .ok (.istore 5, 2) := by decide +kernel
theorem dX9_take_6 : decode cX9_take 6 = .ok (.iload 5, 2) := by decide +kernel
theorem dX9_take_8 : decode cX9_take 8 = .ok (.aload_n 0, 1) := by decide +kernel
theorem dX9_take_9 : decode cX9_take 9 = .ok (.getfield 223, 3) := by decide +kernel
theorem dX9_take_12 : decode cX9_take 12 = .ok (.if_icmp .ge 111, 3) := by decide +kernel
theorem dX9_take_15 : decode cX9_take 15 = .ok (.aload_n 0, 1) := by decide +kernel
theorem dX9_take_16 : decode cX9_take 16 = .ok (.getfield 25, 3) := by decide +kernel
theorem dX9_take_19 : decode cX9_take 19 = .ok (.iload_n 2, 1) := by decide +kernel
theorem dX9_take_20 : decode cX9_take 20 = .ok (.iaload, 1) := by decide +kernel
theorem dX9_take_21 : decode cX9_take 21 = .ok (.iload 5, 2) := by decide +kernel
theorem dX9_take_23 : decode cX9_take 23 = .ok (.invokestatic 163, 3) := by decide +kernel
theorem dX9_take_26 : decode cX9_take 26 = .ok (.ifCond .ne 6, 3) := by decide +kernel
theorem dX9_take_29 : decode cX9_take 29 = .ok (.goto 88, 3) := by decide +kernel
theorem dX9_take_32 : decode cX9_take 32 = .ok (.aload_n 0, 1) := by decide +kernel
theorem dX9_take_33 : decode cX9_take 33 = .ok (.getfield 45, 3) := by decide +kernel
theorem dX9_take_36 : decode cX9_take 36 = .ok (.iconst 4, 1) := by decide +kernel
theorem dX9_take_37 : decode cX9_take 37 = .ok (.iload_n 1, 1) := by decide +kernel
theorem dX9_take_38 : decode cX9_take 38 = .ok (.imul, 1) := by decide +kernel
theorem dX9_take_39 : decode cX9_take 39 = .ok (.iload 5, 2) := by decide +kernel
theorem dX9_take_41 : decode cX9_take 41 = .ok (.iadd, 1) := by decide +kernel
theorem dX9_take_42 : decode cX9_take 42 = .ok (.iaload, 1) := by decide +kernel
theorem dX9_take_43 : decode cX9_take 43 = .ok (.iload 4, 2) := by decide +kernel
theorem dX9_take_45 : decode cX9_take 45 = .ok (.if_icmp .ge 17, 3) := by decide +kernel
theorem dX9_take_48 : decode cX9_take 48 = .ok (.aload_n 0, 1) := by decide +kernel
theorem dX9_take_49 : decode cX9_take 49 = .ok (.getfield 45, 3) := by decide +kernel
theorem dX9_take_52 : decode cX9_take 52 = .ok (.iconst 4, 1) := by decide +kernel
theorem dX9_take_53 : decode cX9_take 53 = .ok (.iload_n 1, 1) := by decide +kernel
theorem dX9_take_54 : decode cX9_take 54 = .ok (.imul, 1) := by decide +kernel
theorem dX9_take_55 : decode cX9_take 55 = .ok (.iload 5, 2) := by decide +kernel
theorem dX9_take_57 : decode cX9_take 57 = .ok (.iadd, 1) := by decide +kernel
theorem dX9_take_58 : decode cX9_take 58 = .ok (.iaload, 1) := by decide +kernel
theorem dX9_take_59 : decode cX9_take 59 = .ok (.goto 5, 3) := by decide +kernel
theorem dX9_take_62 : decode cX9_take 62 = .ok (.iload 4, 2) := by decide +kernel
theorem dX9_take_64 : decode cX9_take 64 = .ok (.istore 6, 2) := by decide +kernel
theorem dX9_take_66 : decode cX9_take 66 = .ok (.aload_n 0, 1) := by decide +kernel
theorem dX9_take_67 : decode cX9_take 67 = .ok (.getfield 45, 3) := by decide +kernel
theorem dX9_take_70 : decode cX9_take 70 = .ok (.iconst 4, 1) := by decide +kernel
theorem dX9_take_71 : decode cX9_take 71 = .ok (.iload_n 1, 1) := by decide +kernel
theorem dX9_take_72 : decode cX9_take 72 = .ok (.imul, 1) := by decide +kernel
theorem dX9_take_73 : decode cX9_take 73 = .ok (.iload 5, 2) := by decide +kernel
theorem dX9_take_75 : decode cX9_take 75 = .ok (.iadd, 1) := by decide +kernel
theorem dX9_take_76 : decode cX9_take 76 = .ok (.dup2, 1) := by decide +kernel
theorem dX9_take_77 : decode cX9_take 77 = .ok (.iaload, 1) := by decide +kernel
theorem dX9_take_78 : decode cX9_take 78 = .ok (.iload 6, 2) := by decide +kernel
theorem dX9_take_80 : decode cX9_take 80 = .ok (.isub, 1) := by decide +kernel
theorem dX9_take_81 : decode cX9_take 81 = .ok (.iastore, 1) := by decide +kernel
theorem dX9_take_82 : decode cX9_take 82 = .ok (.aload_n 0, 1) := by decide +kernel
theorem dX9_take_83 : decode cX9_take 83 = .ok (.getfield 57, 3) := by decide +kernel
theorem dX9_take_86 : decode cX9_take 86 = .ok (.iconst 4, 1) := by decide +kernel
theorem dX9_take_87 : decode cX9_take 87 = .ok (.iload_n 2, 1) := by decide +kernel
theorem dX9_take_88 : decode cX9_take 88 = .ok (.imul, 1) := by decide +kernel
theorem dX9_take_89 : decode cX9_take 89 = .ok (.iload 5, 2) := by decide +kernel
theorem dX9_take_91 : decode cX9_take 91 = .ok (.iadd, 1) := by decide +kernel
theorem dX9_take_92 : decode cX9_take 92 = .ok (.dup2, 1) := by decide +kernel
theorem dX9_take_93 : decode cX9_take 93 = .ok (.iaload, 1) := by decide +kernel
theorem dX9_take_94 : decode cX9_take 94 = .ok (.iload 6, 2) := by decide +kernel
theorem dX9_take_96 : decode cX9_take 96 = .ok (.iadd, 1) := by decide +kernel
theorem dX9_take_97 : decode cX9_take 97 = .ok (.iastore, 1) := by decide +kernel
theorem dX9_take_98 : decode cX9_take 98 = .ok (.aload_n 0, 1) := by decide +kernel
theorem dX9_take_99 : decode cX9_take 99 = .ok (.getfield 60, 3) := by decide +kernel
theorem dX9_take_102 : decode cX9_take 102 = .ok (.iload 5, 2) := by decide +kernel
theorem dX9_take_104 : decode cX9_take 104 = .ok (.dup2, 1) := by decide +kernel
theorem dX9_take_105 : decode cX9_take 105 = .ok (.iaload, 1) := by decide +kernel
theorem dX9_take_106 : decode cX9_take 106 = .ok (.iload 6, 2) := by decide +kernel
theorem dX9_take_108 : decode cX9_take 108 = .ok (.iadd, 1) := by decide +kernel
theorem dX9_take_109 : decode cX9_take 109 = .ok (.iastore, 1) := by decide +kernel
theorem dX9_take_110 : decode cX9_take 110 = .ok (.iload 4, 2) := by decide +kernel
theorem dX9_take_112 : decode cX9_take 112 = .ok (.iload 6, 2) := by decide +kernel
theorem dX9_take_114 : decode cX9_take 114 = .ok (.isub, 1) := by decide +kernel
theorem dX9_take_115 : decode cX9_take 115 = .ok (.istore 4, 2) := by decide +kernel
theorem dX9_take_117 : decode cX9_take 117 = .ok (.iinc 5 1, 3) := by decide +kernel
theorem dX9_take_120 : decode cX9_take 120 = .ok (.goto (-114), 3) := by decide +kernel
theorem dX9_take_123 : decode cX9_take 123 = .ok (.return_, 1) := by decide +kernel
theorem dX9_note_0 : decode cX9_note 0 = .ok (.aload_n 0, 1) := by decide +kernel
theorem dX9_note_1 : decode cX9_note 1 = .ok (.dup, 1) := by decide +kernel
theorem dX9_note_2 : decode cX9_note 2 = .ok (.getfield 274, 3) := by decide +kernel
theorem dX9_note_5 : decode cX9_note 5 = .ok (.iconst 1, 1) := by decide +kernel
theorem dX9_note_6 : decode cX9_note 6 = .ok (.iload_n 1, 1) := by decide +kernel
theorem dX9_note_7 : decode cX9_note 7 = .ok (.ishl, 1) := by decide +kernel
theorem dX9_note_8 : decode cX9_note 8 = .ok (.ior, 1) := by decide +kernel
theorem dX9_note_9 : decode cX9_note 9 = .ok (.putfield 274, 3) := by decide +kernel
theorem dX9_note_12 : decode cX9_note 12 = .ok (.aload_n 0, 1) := by decide +kernel
theorem dX9_note_13 : decode cX9_note 13 = .ok (.getfield 48, 3) := by decide +kernel
theorem dX9_note_16 : decode cX9_note 16 = .ok (.aload_n 0, 1) := by decide +kernel
theorem dX9_note_17 : decode cX9_note 17 = .ok (.getfield 277, 3) := by decide +kernel
theorem dX9_note_20 : decode cX9_note 20 = .ok (.iload_n 1, 1) := by decide +kernel
theorem dX9_note_21 : decode cX9_note 21 = .ok (.iastore, 1) := by decide +kernel
theorem dX9_note_22 : decode cX9_note 22 = .ok (.aload_n 0, 1) := by decide +kernel
theorem dX9_note_23 : decode cX9_note 23 = .ok (.dup, 1) := by decide +kernel
theorem dX9_note_24 : decode cX9_note 24 = .ok (.getfield 277, 3) := by decide +kernel
theorem dX9_note_27 : decode cX9_note 27 = .ok (.iconst 1, 1) := by decide +kernel
theorem dX9_note_28 : decode cX9_note 28 = .ok (.iadd, 1) := by decide +kernel
theorem dX9_note_29 : decode cX9_note 29 = .ok (.putfield 277, 3) := by decide +kernel
theorem dX9_note_32 : decode cX9_note 32 = .ok (.return_, 1) := by decide +kernel
theorem dX9_fund_0 : decode cX9_fund 0 = .ok (.aload_n 0, 1) := by decide +kernel
theorem dX9_fund_1 : decode cX9_fund 1 = .ok (.iload_n 1, 1) := by decide +kernel
theorem dX9_fund_2 : decode cX9_fund 2 = .ok (.invokevirtual 280, 3) := by decide +kernel
theorem dX9_fund_5 : decode cX9_fund 5 = .ok (.aload_n 0, 1) := by decide +kernel
theorem dX9_fund_6 : decode cX9_fund 6 = .ok (.getfield 51, 3) := by decide +kernel
theorem dX9_fund_9 : decode cX9_fund 9 = .ok (.iload_n 1, 1) := by decide +kernel
theorem dX9_fund_10 : decode cX9_fund 10 = .ok (.iload_n 2, 1) := by decide +kernel
theorem dX9_fund_11 : decode cX9_fund 11 = .ok (.iastore, 1) := by decide +kernel
theorem dX9_fund_12 : decode cX9_fund 12 = .ok (.aload_n 0, 1) := by decide +kernel
theorem dX9_fund_13 : decode cX9_fund 13 = .ok (.iload_n 1, 1) := by decide +kernel
theorem dX9_fund_14 : decode cX9_fund 14 = .ok (.iload_n 2, 1) := by decide +kernel
theorem dX9_fund_15 : decode cX9_fund 15 = .ok (.invokevirtual 265, 3) := by decide +kernel
theorem dX9_fund_18 : decode cX9_fund 18 = .ok (.aload_n 0, 1) := by decide +kernel
theorem dX9_fund_19 : decode cX9_fund 19 = .ok (.getfield 7, 3) := by decide +kernel
theorem dX9_fund_22 : decode cX9_fund 22 = .ok (.bipush 8, 2) := by decide +kernel
theorem dX9_fund_24 : decode cX9_fund 24 = .ok (.iload_n 1, 1) := by decide +kernel
theorem dX9_fund_25 : decode cX9_fund 25 = .ok (.iadd, 1) := by decide +kernel
theorem dX9_fund_26 : decode cX9_fund 26 = .ok (.iaload, 1) := by decide +kernel
theorem dX9_fund_27 : decode cX9_fund 27 = .ok (.isub, 1) := by decide +kernel
theorem dX9_fund_28 : decode cX9_fund 28 = .ok (.istore_n 3, 1) := by decide +kernel
theorem dX9_fund_29 : decode cX9_fund 29 = .ok (.aload_n 0, 1) := by decide +kernel
theorem dX9_fund_30 : decode cX9_fund 30 = .ok (.getfield 229, 3) := by decide +kernel
theorem dX9_fund_33 : decode cX9_fund 33 = .ok (.iconst 1, 1) := by decide +kernel
theorem dX9_fund_34 : decode cX9_fund 34 = .ok (.isub, 1) := by decide +kernel
theorem dX9_fund_35 : decode cX9_fund 35 = .ok (.istore 4, 2) := by decide +kernel
theorem dX9_fund_37 : decode cX9_fund 37 = .ok (.iload 4, 2) := by decide +kernel
theorem dX9_fund_39 : decode cX9_fund 39 = .ok (.ifCond .lt 83, 3) := by decide +kernel
theorem dX9_fund_42 : decode cX9_fund 42 = .ok (.aload_n 0, 1) := by decide +kernel
theorem dX9_fund_43 : decode cX9_fund 43 = .ok (.iload 4, 2) := by decide +kernel
theorem dX9_fund_45 : decode cX9_fund 45 = .ok (.iload_n 1, 1) := by decide +kernel
theorem dX9_fund_46 : decode cX9_fund 46 = .ok (.invokevirtual 246, 3) := by decide +kernel
theorem dX9_fund_49 : decode cX9_fund 49 = .ok (.ifCond .ne 6, 3) := by decide +kernel
theorem dX9_fund_52 : decode cX9_fund 52 = .ok (.goto 64, 3) := by decide +kernel
theorem dX9_fund_55 : decode cX9_fund 55 = .ok (.aload_n 0, 1) := by decide +kernel
theorem dX9_fund_56 : decode cX9_fund 56 = .ok (.iload 4, 2) := by decide +kernel
theorem dX9_fund_58 : decode cX9_fund 58 = .ok (.iload_n 1, 1) := by decide +kernel
theorem dX9_fund_59 : decode cX9_fund 59 = .ok (.iload_n 2, 1) := by decide +kernel
theorem dX9_fund_60 : decode cX9_fund 60 = .ok (.invokevirtual 258, 3) := by decide +kernel
theorem dX9_fund_63 : decode cX9_fund 63 = .ok (.istore 5, 2) := by decide +kernel
theorem dX9_fund_65 : decode cX9_fund 65 = .ok (.iload 5, 2) := by decide +kernel
theorem dX9_fund_67 : decode cX9_fund 67 = .ok (.aload_n 0, 1) := by decide +kernel
theorem dX9_fund_68 : decode cX9_fund 68 = .ok (.iload 4, 2) := by decide +kernel
theorem dX9_fund_70 : decode cX9_fund 70 = .ok (.iload_n 1, 1) := by decide +kernel
theorem dX9_fund_71 : decode cX9_fund 71 = .ok (.iload_n 2, 1) := by decide +kernel
theorem dX9_fund_72 : decode cX9_fund 72 = .ok (.iconst 1, 1) := by decide +kernel
theorem dX9_fund_73 : decode cX9_fund 73 = .ok (.isub, 1) := by decide +kernel
theorem dX9_fund_74 : decode cX9_fund 74 = .ok (.invokevirtual 258, 3) := by decide +kernel
theorem dX9_fund_77 : decode cX9_fund 77 = .ok (.isub, 1) := by decide +kernel
theorem dX9_fund_78 : decode cX9_fund 78 = .ok (.istore 6, 2) := by decide +kernel
theorem dX9_fund_80 : decode cX9_fund 80 = .ok (.iload 6, 2) := by decide +kernel
theorem dX9_fund_82 : decode cX9_fund 82 = .ok (.iload_n 3, 1) := by decide +kernel
theorem dX9_fund_83 : decode cX9_fund 83 = .ok (.if_icmp .ge 8, 3) := by decide +kernel
theorem dX9_fund_86 : decode cX9_fund 86 = .ok (.iload 6, 2) := by decide +kernel
theorem dX9_fund_88 : decode cX9_fund 88 = .ok (.goto 4, 3) := by decide +kernel
theorem dX9_fund_91 : decode cX9_fund 91 = .ok (.iload_n 3, 1) := by decide +kernel
theorem dX9_fund_92 : decode cX9_fund 92 = .ok (.istore 6, 2) := by decide +kernel
theorem dX9_fund_94 : decode cX9_fund 94 = .ok (.iload_n 3, 1) := by decide +kernel
theorem dX9_fund_95 : decode cX9_fund 95 = .ok (.iload 6, 2) := by decide +kernel
theorem dX9_fund_97 : decode cX9_fund 97 = .ok (.isub, 1) := by decide +kernel
theorem dX9_fund_98 : decode cX9_fund 98 = .ok (.istore_n 3, 1) := by decide +kernel
theorem dX9_fund_99 : decode cX9_fund 99 = .ok (.aload_n 0, 1) := by decide +kernel
theorem dX9_fund_100 : decode cX9_fund 100 = .ok (.getfield 54, 3) := by decide +kernel
theorem dX9_fund_103 : decode cX9_fund 103 = .ok (.bipush 24, 2) := by decide +kernel
theorem dX9_fund_105 : decode cX9_fund 105 = .ok (.iload_n 1, 1) := by decide +kernel
theorem dX9_fund_106 : decode cX9_fund 106 = .ok (.imul, 1) := by decide +kernel
theorem dX9_fund_107 : decode cX9_fund 107 = .ok (.iload 4, 2) := by decide +kernel
theorem dX9_fund_109 : decode cX9_fund 109 = .ok (.iadd, 1) := by decide +kernel
theorem dX9_fund_110 : decode cX9_fund 110 = .ok (.iload 5, 2) := by decide +kernel
theorem dX9_fund_112 : decode cX9_fund 112 = .ok (.iload 6, 2) := by decide +kernel
theorem dX9_fund_114 : decode cX9_fund 114 = .ok (.isub, 1) := by decide +kernel
theorem dX9_fund_115 : decode cX9_fund 115 = .ok (.iastore, 1) := by decide +kernel
theorem dX9_fund_116 : decode cX9_fund 116 = .ok (.iinc 4 (-1), 3) := by decide +kernel
theorem dX9_fund_119 : decode cX9_fund 119 = .ok (.goto (-82), 3) := by decide +kernel
theorem dX9_fund_122 : decode cX9_fund 122 = .ok (.iconst 0, 1) := by decide +kernel
theorem dX9_fund_123 : decode cX9_fund 123 = .ok (.istore 4, 2) := by decide +kernel
theorem dX9_fund_125 : decode cX9_fund 125 = .ok (.iload 4, 2) := by decide +kernel
theorem dX9_fund_127 : decode cX9_fund 127 = .ok (.aload_n 0, 1) := by decide +kernel
theorem dX9_fund_128 : decode cX9_fund 128 = .ok (.getfield 229, 3) := by decide +kernel
theorem dX9_fund_131 : decode cX9_fund 131 = .ok (.if_icmp .ge 28, 3) := by decide +kernel
theorem dX9_fund_134 : decode cX9_fund 134 = .ok (.aload_n 0, 1) := by decide +kernel
theorem dX9_fund_135 : decode cX9_fund 135 = .ok (.iload 4, 2) := by decide +kernel
theorem dX9_fund_137 : decode cX9_fund 137 = .ok (.iload_n 1, 1) := by decide +kernel
theorem dX9_fund_138 : decode cX9_fund 138 = .ok (.aload_n 0, 1) := by decide +kernel
theorem dX9_fund_139 : decode cX9_fund 139 = .ok (.getfield 54, 3) := by decide +kernel
theorem dX9_fund_142 : decode cX9_fund 142 = .ok (.bipush 24, 2) := by decide +kernel
theorem dX9_fund_144 : decode cX9_fund 144 = .ok (.iload_n 1, 1) := by decide +kernel
theorem dX9_fund_145 : decode cX9_fund 145 = .ok (.imul, 1) := by decide +kernel
theorem dX9_fund_146 : decode cX9_fund 146 = .ok (.iload 4, 2) := by decide +kernel
theorem dX9_fund_148 : decode cX9_fund 148 = .ok (.iadd, 1) := by decide +kernel
theorem dX9_fund_149 : decode cX9_fund 149 = .ok (.iaload, 1) := by decide +kernel
theorem dX9_fund_150 : decode cX9_fund 150 = .ok (.invokevirtual 283, 3) := by decide +kernel
theorem dX9_fund_153 : decode cX9_fund 153 = .ok (.iinc 4 1, 3) := by decide +kernel
theorem dX9_fund_156 : decode cX9_fund 156 = .ok (.goto (-31), 3) := by decide +kernel
theorem dX9_fund_159 : decode cX9_fund 159 = .ok (.return_, 1) := by decide +kernel
theorem dX9_clearResult_0 : decode cX9_clearResult 0 = .ok (.aload_n 0, 1) := by decide +kernel
theorem dX9_clearResult_1 : decode cX9_clearResult 1 = .ok (.iconst 0, 1) := by decide +kernel
theorem dX9_clearResult_2 : decode cX9_clearResult 2 = .ok (.putfield 274, 3) := by decide +kernel
theorem dX9_clearResult_5 : decode cX9_clearResult 5 = .ok (.aload_n 0, 1) := by decide +kernel
theorem dX9_clearResult_6 : decode cX9_clearResult 6 = .ok (.iconst 0, 1) := by decide +kernel
theorem dX9_clearResult_7 : decode cX9_clearResult 7 = .ok (.putfield 277, 3) := by decide +kernel
theorem dX9_clearResult_10 : decode cX9_clearResult 10 = .ok (.iconst 0, 1) := by decide +kernel
theorem dX9_clearResult_11 : decode cX9_clearResult 11 = .ok (.istore_n 1, 1) := by decide +kernel
theorem dX9_clearResult_12 : decode cX9_clearResult 12 = .ok (.iload_n 1, 1) := by decide +kernel
theorem dX9_clearResult_13 : decode cX9_clearResult 13 = .ok (.bipush 12, 2) := by decide +kernel
theorem dX9_clearResult_15 : decode cX9_clearResult 15 = .ok (.if_icmp .ge 16, 3) := by decide +kernel
theorem dX9_clearResult_18 : decode cX9_clearResult 18 = .ok (.aload_n 0, 1) := by decide +kernel
theorem dX9_clearResult_19 : decode cX9_clearResult 19 = .ok (.getfield 51, 3) := by decide +kernel
theorem dX9_clearResult_22 : decode cX9_clearResult 22 = .ok (.iload_n 1, 1) := by decide +kernel
theorem dX9_clearResult_23 : decode cX9_clearResult 23 = .ok (.iconst (-1), 1) := by decide +kernel
theorem dX9_clearResult_24 : decode cX9_clearResult 24 = .ok (.iastore, 1) := by decide +kernel
theorem dX9_clearResult_25 : decode cX9_clearResult 25 = .ok (.iinc 1 1, 3) := by decide +kernel
theorem dX9_clearResult_28 : decode cX9_clearResult 28 = .ok (.goto (-16), 3) := by decide +kernel
theorem dX9_clearResult_31 : decode cX9_clearResult 31 = .ok (.iconst 0, 1) := by decide +kernel
theorem dX9_clearResult_32 : decode cX9_clearResult 32 = .ok (.istore_n 1, 1) := by decide +kernel
theorem dX9_clearResult_33 : decode cX9_clearResult 33 = .ok (.iload_n 1, 1) := by decide +kernel
theorem dX9_clearResult_34 : decode cX9_clearResult 34 = .ok (.sipush 288, 3) := by decide +kernel
theorem dX9_clearResult_37 : decode cX9_clearResult 37 = .ok (.if_icmp .ge 16, 3) := by decide +kernel
theorem dX9_clearResult_40 : decode cX9_clearResult 40 = .ok (.aload_n 0, 1) := by decide +kernel
theorem dX9_clearResult_41 : decode cX9_clearResult 41 = .ok (.getfield 54, 3) := by decide +kernel
theorem dX9_clearResult_44 : decode cX9_clearResult 44 = .ok (.iload_n 1, 1) := by decide +kernel
theorem dX9_clearResult_45 : decode cX9_clearResult 45 = .ok (.iconst 0, 1) := by decide +kernel
theorem dX9_clearResult_46 : decode cX9_clearResult 46 = .ok (.iastore, 1) := by decide +kernel
theorem dX9_clearResult_47 : decode cX9_clearResult 47 = .ok (.iinc 1 1, 3) := by decide +kernel
theorem dX9_clearResult_50 : decode cX9_clearResult 50 = .ok (.goto (-17), 3) := by decide +kernel
theorem dX9_clearResult_53 : decode cX9_clearResult 53 = .ok (.iconst 0, 1) := by decide +kernel
theorem dX9_clearResult_54 : decode cX9_clearResult 54 = .ok (.istore_n 1, 1) := by decide +kernel
theorem dX9_clearResult_55 : decode cX9_clearResult 55 = .ok (.iload_n 1, 1) := by decide +kernel
theorem dX9_clearResult_56 : decode cX9_clearResult 56 = .ok (.bipush 48, 2) := by decide +kernel
theorem dX9_clearResult_58 : decode cX9_clearResult 58 = .ok (.if_icmp .ge 16, 3) := by decide +kernel
theorem dX9_clearResult_61 : decode cX9_clearResult 61 = .ok (.aload_n 0, 1) := by decide +kernel
theorem dX9_clearResult_62 : decode cX9_clearResult 62 = .ok (.getfield 57, 3) := by decide +kernel
theorem dX9_clearResult_65 : decode cX9_clearResult 65 = .ok (.iload_n 1, 1) := by decide +kernel
theorem dX9_clearResult_66 : decode cX9_clearResult 66 = .ok (.iconst 0, 1) := by decide +kernel
theorem dX9_clearResult_67 : decode cX9_clearResult 67 = .ok (.iastore, 1) := by decide +kernel
theorem dX9_clearResult_68 : decode cX9_clearResult 68 = .ok (.iinc 1 1, 3) := by decide +kernel
theorem dX9_clearResult_71 : decode cX9_clearResult 71 = .ok (.goto (-16), 3) := by decide +kernel
theorem dX9_clearResult_74 : decode cX9_clearResult 74 = .ok (.iconst 0, 1) := by decide +kernel
theorem dX9_clearResult_75 : decode cX9_clearResult 75 = .ok (.istore_n 1, 1) := by decide +kernel
theorem dX9_clearResult_76 : decode cX9_clearResult 76 = .ok (.iload_n 1, 1) := by decide +kernel
theorem dX9_clearResult_77 : decode cX9_clearResult 77 = .ok (.iconst 4, 1) := by decide +kernel
theorem dX9_clearResult_78 : decode cX9_clearResult 78 = .ok (.if_icmp .ge 16, 3) := by decide +kernel
theorem dX9_clearResult_81 : decode cX9_clearResult 81 = .ok (.aload_n 0, 1) := by decide +kernel
theorem dX9_clearResult_82 : decode cX9_clearResult 82 = .ok (.getfield 60, 3) := by decide +kernel
theorem dX9_clearResult_85 : decode cX9_clearResult 85 = .ok (.iload_n 1, 1) := by decide +kernel
theorem dX9_clearResult_86 : decode cX9_clearResult 86 = .ok (.iconst 0, 1) := by decide +kernel
theorem dX9_clearResult_87 : decode cX9_clearResult 87 = .ok (.iastore, 1) := by decide +kernel
theorem dX9_clearResult_88 : decode cX9_clearResult 88 = .ok (.iinc 1 1, 3) := by decide +kernel
theorem dX9_clearResult_91 : decode cX9_clearResult 91 = .ok (.goto (-15), 3) := by decide +kernel
theorem dX9_clearResult_94 : decode cX9_clearResult 94 = .ok (.return_, 1) := by decide +kernel
theorem dX9_rounds_0 : decode cX9_rounds 0 = .ok (.aload_n 0, 1) := by decide +kernel
theorem dX9_rounds_1 : decode cX9_rounds 1 = .ok (.invokevirtual 287, 3) := by decide +kernel
theorem dX9_rounds_4 : decode cX9_rounds 4 = .ok (.aload_n 0, 1) := by decide +kernel
theorem dX9_rounds_5 : decode cX9_rounds 5 = .ok (.iload_n 1, 1) := by decide +kernel
theorem dX9_rounds_6 : decode cX9_rounds 6 = .ok (.invokevirtual 268, 3) := by decide +kernel
theorem dX9_rounds_9 : decode cX9_rounds 9 = .ok (.iconst 0, 1) := by decide +kernel
theorem dX9_rounds_10 : decode cX9_rounds 10 = .ok (.istore_n 2, 1) := by decide +kernel
theorem dX9_rounds_11 : decode cX9_rounds 11 = .ok (.iload_n 2, 1) := by decide +kernel
theorem dX9_rounds_12 : decode cX9_rounds 12 = .ok (.ifCond .lt 104, 3) := by decide +kernel
theorem dX9_rounds_15 : decode cX9_rounds 15 = .ok (.aload_n 0, 1) := by decide +kernel
theorem dX9_rounds_16 : decode cX9_rounds 16 = .ok (.getfield 277, 3) := by decide +kernel
theorem dX9_rounds_19 : decode cX9_rounds 19 = .ok (.aload_n 0, 1) := by decide +kernel
theorem dX9_rounds_20 : decode cX9_rounds 20 = .ok (.getfield 63, 3) := by decide +kernel
theorem dX9_rounds_23 : decode cX9_rounds 23 = .ok (.if_icmp .ge 93, 3) := by decide +kernel
theorem dX9_rounds_26 : decode cX9_rounds 26 = .ok (.iconst (-1), 1) := by decide +kernel
theorem dX9_rounds_27 : decode cX9_rounds 27 = .ok (.istore_n 2, 1) := by decide +kernel
theorem dX9_rounds_28 : decode cX9_rounds 28 = .ok (.iconst 0, 1) := by decide +kernel
theorem dX9_rounds_29 : decode cX9_rounds 29 = .ok (.istore_n 3, 1) := by decide +kernel
theorem dX9_rounds_30 : decode cX9_rounds 30 = .ok (.iconst 0, 1) := by decide +kernel
theorem dX9_rounds_31 : decode cX9_rounds 31 = .ok (.istore 4, 2) := by decide +kernel
theorem dX9_rounds_33 : decode cX9_rounds 33 = .ok (.iload 4, 2) := by decide +kernel
theorem dX9_rounds_35 : decode cX9_rounds 35 = .ok (.aload_n 0, 1) := by decide +kernel
theorem dX9_rounds_36 : decode cX9_rounds 36 = .ok (.getfield 226, 3) := by decide +kernel
theorem dX9_rounds_39 : decode cX9_rounds 39 = .ok (.if_icmp .ge 64, 3) := by decide +kernel
theorem dX9_rounds_42 : decode cX9_rounds 42 = .ok (.aload_n 0, 1) := by decide +kernel
theorem dX9_rounds_43 : decode cX9_rounds 43 = .ok (.getfield 274, 3) := by decide +kernel
theorem dX9_rounds_46 : decode cX9_rounds 46 = .ok (.iload 4, 2) := by decide +kernel
theorem dX9_rounds_48 : decode cX9_rounds 48 = .ok (.invokestatic 163, 3) := by decide +kernel
theorem dX9_rounds_51 : decode cX9_rounds 51 = .ok (.ifCond .eq 7, 3) := by decide +kernel
theorem dX9_rounds_54 : decode cX9_rounds 54 = .ok (.iconst (-1), 1) := by decide +kernel
theorem dX9_rounds_55 : decode cX9_rounds 55 = .ok (.goto 9, 3) := by decide +kernel
theorem dX9_rounds_58 : decode cX9_rounds 58 = .ok (.aload_n 0, 1) := by decide +kernel
theorem dX9_rounds_59 : decode cX9_rounds 59 = .ok (.iload 4, 2) := by decide +kernel
theorem dX9_rounds_61 : decode cX9_rounds 61 = .ok (.invokevirtual 271, 3) := by decide +kernel
theorem dX9_rounds_64 : decode cX9_rounds 64 = .ok (.istore 5, 2) := by decide +kernel
theorem dX9_rounds_66 : decode cX9_rounds 66 = .ok (.iload 5, 2) := by decide +kernel
theorem dX9_rounds_68 : decode cX9_rounds 68 = .ok (.ifCond .lt 29, 3) := by decide +kernel
theorem dX9_rounds_71 : decode cX9_rounds 71 = .ok (.iload_n 2, 1) := by decide +kernel
theorem dX9_rounds_72 : decode cX9_rounds 72 = .ok (.ifCond .lt 19, 3) := by decide +kernel
theorem dX9_rounds_75 : decode cX9_rounds 75 = .ok (.aload_n 0, 1) := by decide +kernel
theorem dX9_rounds_76 : decode cX9_rounds 76 = .ok (.iload 4, 2) := by decide +kernel
theorem dX9_rounds_78 : decode cX9_rounds 78 = .ok (.iload 5, 2) := by decide +kernel
theorem dX9_rounds_80 : decode cX9_rounds 80 = .ok (.iload_n 2, 1) := by decide +kernel
theorem dX9_rounds_81 : decode cX9_rounds 81 = .ok (.iload_n 3, 1) := by decide +kernel
theorem dX9_rounds_82 : decode cX9_rounds 82 = .ok (.invokevirtual 290, 3) := by decide +kernel
theorem dX9_rounds_85 : decode cX9_rounds 85 = .ok (.ifCond .ne 6, 3) := by decide +kernel
theorem dX9_rounds_88 : decode cX9_rounds 88 = .ok (.goto 9, 3) := by decide +kernel
theorem dX9_rounds_91 : decode cX9_rounds 91 = .ok (.iload 4, 2) := by decide +kernel
theorem dX9_rounds_93 : decode cX9_rounds 93 = .ok (.istore_n 2, 1) := by decide +kernel
theorem dX9_rounds_94 : decode cX9_rounds 94 = .ok (.iload 5, 2) := by decide +kernel
theorem dX9_rounds_96 : decode cX9_rounds 96 = .ok (.istore_n 3, 1) := by decide +kernel
theorem dX9_rounds_97 : decode cX9_rounds 97 = .ok (.iinc 4 1, 3) := by decide +kernel
theorem dX9_rounds_100 : decode cX9_rounds 100 = .ok (.goto (-67), 3) := by decide +kernel
theorem dX9_rounds_103 : decode cX9_rounds 103 = .ok (.iload_n 2, 1) := by decide +kernel
theorem dX9_rounds_104 : decode cX9_rounds 104 = .ok (.ifCond .lt 9, 3) := by decide +kernel
theorem dX9_rounds_107 : decode cX9_rounds 107 = .ok (.aload_n 0, 1) := by decide +kernel
theorem dX9_rounds_108 : decode cX9_rounds 108 = .ok (.iload_n 2, 1) := by decide +kernel
theorem dX9_rounds_109 : decode cX9_rounds 109 = .ok (.iload_n 3, 1) := by decide +kernel
theorem dX9_rounds_110 : decode cX9_rounds 110 = .ok (.invokevirtual 294, 3) := by decide +kernel
theorem dX9_rounds_113 : decode cX9_rounds 113 = .ok (.goto (-102), 3) := by decide +kernel
theorem dX9_rounds_116 : decode cX9_rounds 116 = .ok (.return_, 1) := by decide +kernel
theorem dX9_isAhead_0 : decode cX9_isAhead 0 = .ok (.aload_n 0, 1) := by decide +kernel
theorem dX9_isAhead_1 : decode cX9_isAhead 1 = .ok (.iload_n 1, 1) := by decide +kernel
theorem dX9_isAhead_2 : decode cX9_isAhead 2 = .ok (.invokevirtual 249, 3) := by decide +kernel
theorem dX9_isAhead_5 : decode cX9_isAhead 5 = .ok (.i2l, 1) := by decide +kernel
theorem dX9_isAhead_6 : decode cX9_isAhead 6 = .ok (.lstore_n 3, 1) := by decide +kernel
theorem dX9_isAhead_7 : decode cX9_isAhead 7 = .ok (.aload_n 0, 1) := by decide +kernel
theorem dX9_isAhead_8 : decode cX9_isAhead 8 = .ok (.iload_n 2, 1) := by decide +kernel
theorem dX9_isAhead_9 : decode cX9_isAhead 9 = .ok (.invokevirtual 249, 3) := by decide +kernel
theorem dX9_isAhead_12 : decode cX9_isAhead 12 = .ok (.i2l, 1) := by decide +kernel
theorem dX9_isAhead_13 : decode cX9_isAhead 13 = .ok (.lstore 5, 2) := by decide +kernel
theorem dX9_isAhead_15 : decode cX9_isAhead 15 = .ok (.aload_n 0, 1) := by decide +kernel
theorem dX9_isAhead_16 : decode cX9_isAhead 16 = .ok (.getfield 7, 3) := by decide +kernel
theorem dX9_isAhead_19 : decode cX9_isAhead 19 = .ok (.iconst 3, 1) := by decide +kernel
theorem dX9_isAhead_20 : decode cX9_isAhead 20 = .ok (.iaload, 1) := by decide +kernel
theorem dX9_isAhead_21 : decode cX9_isAhead 21 = .ok (.iconst 1, 1) := by decide +kernel
theorem dX9_isAhead_22 : decode cX9_isAhead 22 = .ok (.if_icmp .ne 31, 3) := by decide +kernel
theorem dX9_isAhead_25 : decode cX9_isAhead 25 = .ok (.lload_n 3, 1) := by decide +kernel
theorem dX9_isAhead_26 : decode cX9_isAhead 26 = .ok (.aload_n 0, 1) := by decide +kernel
theorem dX9_isAhead_27 : decode cX9_isAhead 27 = .ok (.getfield 7, 3) := by decide +kernel
theorem dX9_isAhead_30 : decode cX9_isAhead 30 = .ok (.bipush 8, 2) := by decide +kernel
theorem dX9_isAhead_32 : decode cX9_isAhead 32 = .ok (.iload_n 2, 1) := by decide +kernel
theorem dX9_isAhead_33 : decode cX9_isAhead 33 = .ok (.iadd, 1) := by decide +kernel
theorem dX9_isAhead_34 : decode cX9_isAhead 34 = .ok (.iaload, 1) := by decide +kernel
theorem dX9_isAhead_35 : decode cX9_isAhead 35 = .ok (.i2l, 1) := by decide +kernel
theorem dX9_isAhead_36 : decode cX9_isAhead 36 = .ok (.lmul, 1) := by decide +kernel
theorem dX9_isAhead_37 : decode cX9_isAhead 37 = .ok (.lstore_n 3, 1) := by decide +kernel
theorem dX9_isAhead_38 : decode cX9_isAhead 38 = .ok (.lload 5, 2) := by decide +kernel
theorem dX9_isAhead_40 : decode cX9_isAhead 40 = .ok (.aload_n 0, 1) := by decide +kernel
theorem dX9_isAhead_41 : decode cX9_isAhead 41 = .ok (.getfield 7, 3) := by decide +kernel
theorem dX9_isAhead_44 : decode cX9_isAhead 44 = .ok (.bipush 8, 2) := by decide +kernel
theorem dX9_isAhead_46 : decode cX9_isAhead 46 = .ok (.iload_n 1, 1) := by decide +kernel
theorem dX9_isAhead_47 : decode cX9_isAhead 47 = .ok (.iadd, 1) := by decide +kernel
theorem dX9_isAhead_48 : decode cX9_isAhead 48 = .ok (.iaload, 1) := by decide +kernel
theorem dX9_isAhead_49 : decode cX9_isAhead 49 = .ok (.i2l, 1) := by decide +kernel
theorem dX9_isAhead_50 : decode cX9_isAhead 50 = .ok (.lmul, 1) := by decide +kernel
theorem dX9_isAhead_51 : decode cX9_isAhead 51 = .ok (.lstore 5, 2) := by decide +kernel
theorem dX9_isAhead_53 : decode cX9_isAhead 53 = .ok (.lload_n 3, 1) := by decide +kernel
theorem dX9_isAhead_54 : decode cX9_isAhead 54 = .ok (.lload 5, 2) := by decide +kernel
theorem dX9_isAhead_56 : decode cX9_isAhead 56 = .ok (.lcmp, 1) := by decide +kernel
theorem dX9_isAhead_57 : decode cX9_isAhead 57 = .ok (.ifCond .eq 16, 3) := by decide +kernel
theorem dX9_isAhead_60 : decode cX9_isAhead 60 = .ok (.lload_n 3, 1) := by decide +kernel
theorem dX9_isAhead_61 : decode cX9_isAhead 61 = .ok (.lload 5, 2) := by decide +kernel
theorem dX9_isAhead_63 : decode cX9_isAhead 63 = .ok (.lcmp, 1) := by decide +kernel
theorem dX9_isAhead_64 : decode cX9_isAhead 64 = .ok (.ifCond .le 7, 3) := by decide +kernel
theorem dX9_isAhead_67 : decode cX9_isAhead 67 = .ok (.iconst 1, 1) := by decide +kernel
theorem dX9_isAhead_68 : decode cX9_isAhead 68 = .ok (.goto 4, 3) := by decide +kernel
theorem dX9_isAhead_71 : decode cX9_isAhead 71 = .ok (.iconst 0, 1) := by decide +kernel
theorem dX9_isAhead_72 : decode cX9_isAhead 72 = .ok (.ireturn, 1) := by decide +kernel
theorem dX9_isAhead_73 : decode cX9_isAhead 73 = .ok (.aload_n 0, 1) := by decide +kernel
theorem dX9_isAhead_74 : decode cX9_isAhead 74 = .ok (.getfield 7, 3) := by decide +kernel
theorem dX9_isAhead_77 : decode cX9_isAhead 77 = .ok (.bipush 8, 2) := by decide +kernel
theorem dX9_isAhead_79 : decode cX9_isAhead 79 = .ok (.iload_n 1, 1) := by decide +kernel
theorem dX9_isAhead_80 : decode cX9_isAhead 80 = .ok (.iadd, 1) := by decide +kernel
theorem dX9_isAhead_81 : decode cX9_isAhead 81 = .ok (.iaload, 1) := by decide +kernel
theorem dX9_isAhead_82 : decode cX9_isAhead 82 = .ok (.aload_n 0, 1) := by decide +kernel
theorem dX9_isAhead_83 : decode cX9_isAhead 83 = .ok (.getfield 7, 3) := by decide +kernel
theorem dX9_isAhead_86 : decode cX9_isAhead 86 = .ok (.bipush 8, 2) := by decide +kernel
theorem dX9_isAhead_88 : decode cX9_isAhead 88 = .ok (.iload_n 2, 1) := by decide +kernel
theorem dX9_isAhead_89 : decode cX9_isAhead 89 = .ok (.iadd, 1) := by decide +kernel
theorem dX9_isAhead_90 : decode cX9_isAhead 90 = .ok (.iaload, 1) := by decide +kernel
theorem dX9_isAhead_91 : decode cX9_isAhead 91 = .ok (.if_icmp .eq 32, 3) := by decide +kernel
theorem dX9_isAhead_94 : decode cX9_isAhead 94 = .ok (.aload_n 0, 1) := by decide +kernel
theorem dX9_isAhead_95 : decode cX9_isAhead 95 = .ok (.getfield 7, 3) := by decide +kernel
theorem dX9_isAhead_98 : decode cX9_isAhead 98 = .ok (.bipush 8, 2) := by decide +kernel
theorem dX9_isAhead_100 : decode cX9_isAhead 100 = .ok (.iload_n 1, 1) := by decide +kernel
theorem dX9_isAhead_101 : decode cX9_isAhead 101 = .ok (.iadd, 1) := by decide +kernel
theorem dX9_isAhead_102 : decode cX9_isAhead 102 = .ok (.iaload, 1) := by decide +kernel
theorem dX9_isAhead_103 : decode cX9_isAhead 103 = .ok (.aload_n 0, 1) := by decide +kernel
theorem dX9_isAhead_104 : decode cX9_isAhead 104 = .ok (.getfield 7, 3) := by decide +kernel
theorem dX9_isAhead_107 : decode cX9_isAhead 107 = .ok (.bipush 8, 2) := by decide +kernel
theorem dX9_isAhead_109 : decode cX9_isAhead 109 = .ok (.iload_n 2, 1) := by decide +kernel
theorem dX9_isAhead_110 : decode cX9_isAhead 110 = .ok (.iadd, 1) := by decide +kernel
theorem dX9_isAhead_111 : decode cX9_isAhead 111 = .ok (.iaload, 1) := by decide +kernel
theorem dX9_isAhead_112 : decode cX9_isAhead 112 = .ok (.if_icmp .ge 7, 3) := by decide +kernel
theorem dX9_isAhead_115 : decode cX9_isAhead 115 = .ok (.iconst 1, 1) := by decide +kernel
theorem dX9_isAhead_116 : decode cX9_isAhead 116 = .ok (.goto 17, 3) := by decide +kernel
theorem dX9_isAhead_119 : decode cX9_isAhead 119 = .ok (.iconst 0, 1) := by decide +kernel
theorem dX9_isAhead_120 : decode cX9_isAhead 120 = .ok (.goto 13, 3) := by decide +kernel
theorem dX9_isAhead_123 : decode cX9_isAhead 123 = .ok (.iload_n 1, 1) := by decide +kernel
theorem dX9_isAhead_124 : decode cX9_isAhead 124 = .ok (.iload_n 2, 1) := by decide +kernel
theorem dX9_isAhead_125 : decode cX9_isAhead 125 = .ok (.if_icmp .ge 7, 3) := by decide +kernel
theorem dX9_isAhead_128 : decode cX9_isAhead 128 = .ok (.iconst 1, 1) := by decide +kernel
theorem dX9_isAhead_129 : decode cX9_isAhead 129 = .ok (.goto 4, 3) := by decide +kernel
theorem dX9_isAhead_132 : decode cX9_isAhead 132 = .ok (.iconst 0, 1) := by decide +kernel
theorem dX9_isAhead_133 : decode cX9_isAhead 133 = .ok (.ireturn, 1) := by decide +kernel
theorem dX9_greedily_0 : decode cX9_greedily 0 = .ok (.aload_n 0, 1) := by decide +kernel
theorem dX9_greedily_1 : decode cX9_greedily 1 = .ok (.getfield 274, 3) := by decide +kernel
theorem dX9_greedily_4 : decode cX9_greedily 4 = .ok (.istore_n 1, 1) := by decide +kernel
theorem dX9_greedily_5 : decode cX9_greedily 5 = .ok (.iconst 0, 1) := by decide +kernel
theorem dX9_greedily_6 : decode cX9_greedily 6 = .ok (.istore_n 2, 1) := by decide +kernel
theorem dX9_greedily_7 : decode cX9_greedily 7 = .ok (.iload_n 2, 1) := by decide +kernel
theorem dX9_greedily_8 : decode cX9_greedily 8 = .ok (.ifCond .lt 269, 3) := by decide +kernel
theorem dX9_greedily_11 : decode cX9_greedily 11 = .ok (.iconst (-1), 1) := by decide +kernel
theorem dX9_greedily_12 : decode cX9_greedily 12 = .ok (.istore_n 2, 1) := by decide +kernel
theorem dX9_greedily_13 : decode cX9_greedily 13 = .ok (.iconst 0, 1) := by decide +kernel
theorem dX9_greedily_14 : decode cX9_greedily 14 = .ok (.istore_n 3, 1) := by decide +kernel
theorem dX9_greedily_15 : decode cX9_greedily 15 = .ok (.iload_n 3, 1) := by decide +kernel
theorem dX9_greedily_16 : decode cX9_greedily 16 = .ok (.aload_n 0, 1) := by decide +kernel
theorem dX9_greedily_17 : decode cX9_greedily 17 = .ok (.getfield 226, 3) := by decide +kernel
theorem dX9_greedily_20 : decode cX9_greedily 20 = .ok (.if_icmp .ge 40, 3) := by decide +kernel
theorem dX9_greedily_23 : decode cX9_greedily 23 = .ok (.iload_n 1, 1) := by decide +kernel
theorem dX9_greedily_24 : decode cX9_greedily 24 = .ok (.iload_n 3, 1) := by decide +kernel
theorem dX9_greedily_25 : decode cX9_greedily 25 = .ok (.invokestatic 163, 3) := by decide +kernel
theorem dX9_greedily_28 : decode cX9_greedily 28 = .ok (.ifCond .ne 26, 3) := by decide +kernel
theorem dX9_greedily_31 : decode cX9_greedily 31 = .ok (.aload_n 0, 1) := by decide +kernel
theorem dX9_greedily_32 : decode cX9_greedily 32 = .ok (.iload_n 3, 1) := by decide +kernel
theorem dX9_greedily_33 : decode cX9_greedily 33 = .ok (.invokevirtual 249, 3) := by decide +kernel
theorem dX9_greedily_36 : decode cX9_greedily 36 = .ok (.ifCond .le 18, 3) := by decide +kernel
theorem dX9_greedily_39 : decode cX9_greedily 39 = .ok (.iload_n 2, 1) := by decide +kernel
theorem dX9_greedily_40 : decode cX9_greedily 40 = .ok (.ifCond .lt 12, 3) := by decide +kernel
theorem dX9_greedily_43 : decode cX9_greedily 43 = .ok (.aload_n 0, 1) := by decide +kernel
theorem dX9_greedily_44 : decode cX9_greedily 44 = .ok (.iload_n 3, 1) := by decide +kernel
theorem dX9_greedily_45 : decode cX9_greedily 45 = .ok (.iload_n 2, 1) := by decide +kernel
theorem dX9_greedily_46 : decode cX9_greedily 46 = .ok (.invokevirtual 298, 3) := by decide +kernel
theorem dX9_greedily_49 : decode cX9_greedily 49 = .ok (.ifCond .eq 5, 3) := by decide +kernel
theorem dX9_greedily_52 : decode cX9_greedily 52 = .ok (.iload_n 3, 1) := by decide +kernel
theorem dX9_greedily_53 : decode cX9_greedily 53 = .ok (.istore_n 2, 1) := by decide +kernel
theorem dX9_greedily_54 : decode cX9_greedily 54 = .ok (.iinc 3 1, 3) := by decide +kernel
theorem dX9_greedily_57 : decode cX9_greedily 57 = .ok (.goto (-42), 3) := by decide +kernel
theorem dX9_greedily_60 : decode cX9_greedily 60 = .ok (.iload_n 2, 1) := by decide +kernel
theorem dX9_greedily_61 : decode cX9_greedily 61 = .ok (.ifCond .ge 4, 3) := by decide +kernel
theorem dX9_greedily_64 : decode cX9_greedily 64 = .ok (.return_, 1) := by decide +kernel
theorem dX9_greedily_65 : decode cX9_greedily 65 = .ok (.iload_n 1, 1) := by decide +kernel
theorem dX9_greedily_66 : decode cX9_greedily 66 = .ok (.iconst 1, 1) := by decide +kernel
theorem dX9_greedily_67 : decode cX9_greedily 67 = .ok (.iload_n 2, 1) := by decide +kernel
theorem dX9_greedily_68 : decode cX9_greedily 68 = .ok (.ishl, 1) := by decide +kernel
theorem dX9_greedily_69 : decode cX9_greedily 69 = .ok (.ior, 1) := by decide +kernel
theorem dX9_greedily_70 : decode cX9_greedily 70 = .ok (.istore_n 1, 1) := by decide +kernel
theorem dX9_greedily_71 : decode cX9_greedily 71 = .ok (.iconst 0, 1) := by decide +kernel
theorem dX9_greedily_72 : decode cX9_greedily 72 = .ok (.istore_n 3, 1) := by decide +kernel
theorem dX9_greedily_73 : decode cX9_greedily 73 = .ok (.iconst 0, 1) := by decide +kernel
theorem dX9_greedily_74 : decode cX9_greedily 74 = .ok (.istore 4, 2) := by decide +kernel
theorem dX9_greedily_76 : decode cX9_greedily 76 = .ok (.iload 4, 2) := by decide +kernel
theorem dX9_greedily_78 : decode cX9_greedily 78 = .ok (.aload_n 0, 1) := by decide +kernel
theorem dX9_greedily_79 : decode cX9_greedily 79 = .ok (.getfield 223, 3) := by decide +kernel
theorem dX9_greedily_82 : decode cX9_greedily 82 = .ok (.if_icmp .ge 47, 3) := by decide +kernel
theorem dX9_greedily_85 : decode cX9_greedily 85 = .ok (.iload_n 3, 1) := by decide +kernel
theorem dX9_greedily_86 : decode cX9_greedily 86 = .ok (.aload_n 0, 1) := by decide +kernel
theorem dX9_greedily_87 : decode cX9_greedily 87 = .ok (.getfield 25, 3) := by decide +kernel
theorem dX9_greedily_90 : decode cX9_greedily 90 = .ok (.iload_n 2, 1) := by decide +kernel
theorem dX9_greedily_91 : decode cX9_greedily 91 = .ok (.iaload, 1) := by decide +kernel
theorem dX9_greedily_92 : decode cX9_greedily 92 = .ok (.iload 4, 2) := by decide +kernel
theorem dX9_greedily_94 : decode cX9_greedily 94 = .ok (.invokestatic 163, 3) := by decide +kernel
theorem dX9_greedily_97 : decode cX9_greedily 97 = .ok (.ifCond .eq 23, 3) := by decide +kernel
theorem dX9_greedily_100 : decode cX9_greedily 100 = .ok (.aload_n 0, 1) := by decide +kernel
theorem dX9_greedily_101 : decode cX9_greedily 101 = .ok (.getfield 7, 3) := by decide +kernel
theorem dX9_greedily_104 : decode cX9_greedily 104 = .ok (.iconst 4, 1) := by decide +kernel
theorem dX9_greedily_105 : decode cX9_greedily 105 = .ok (.iload 4, 2) := by decide +kernel
theorem dX9_greedily_107 : decode cX9_greedily 107 = .ok (.iadd, 1) := by decide +kernel
theorem dX9_greedily_108 : decode cX9_greedily 108 = .ok (.iaload, 1) := by decide +kernel
theorem dX9_greedily_109 : decode cX9_greedily 109 = .ok (.aload_n 0, 1) := by decide +kernel
theorem dX9_greedily_110 : decode cX9_greedily 110 = .ok (.getfield 60, 3) := by decide +kernel
theorem dX9_greedily_113 : decode cX9_greedily 113 = .ok (.iload 4, 2) := by decide +kernel
theorem dX9_greedily_115 : decode cX9_greedily 115 = .ok (.iaload, 1) := by decide +kernel
theorem dX9_greedily_116 : decode cX9_greedily 116 = .ok (.isub, 1) := by decide +kernel
theorem dX9_greedily_117 : decode cX9_greedily 117 = .ok (.goto 4, 3) := by decide +kernel
theorem dX9_greedily_120 : decode cX9_greedily 120 = .ok (.iconst 0, 1) := by decide +kernel
theorem dX9_greedily_121 : decode cX9_greedily 121 = .ok (.iadd, 1) := by decide +kernel
theorem dX9_greedily_122 : decode cX9_greedily 122 = .ok (.istore_n 3, 1) := by decide +kernel
theorem dX9_greedily_123 : decode cX9_greedily 123 = .ok (.iinc 4 1, 3) := by decide +kernel
theorem dX9_greedily_126 : decode cX9_greedily 126 = .ok (.goto (-50), 3) := by decide +kernel
theorem dX9_greedily_129 : decode cX9_greedily 129 = .ok (.iload_n 3, 1) := by decide +kernel
theorem dX9_greedily_130 : decode cX9_greedily 130 = .ok (.aload_n 0, 1) := by decide +kernel
theorem dX9_greedily_131 : decode cX9_greedily 131 = .ok (.getfield 7, 3) := by decide +kernel
theorem dX9_greedily_134 : decode cX9_greedily 134 = .ok (.bipush 8, 2) := by decide +kernel
theorem dX9_greedily_136 : decode cX9_greedily 136 = .ok (.iload_n 2, 1) := by decide +kernel
theorem dX9_greedily_137 : decode cX9_greedily 137 = .ok (.iadd, 1) := by decide +kernel
theorem dX9_greedily_138 : decode cX9_greedily 138 = .ok (.iaload, 1) := by decide +kernel
theorem dX9_greedily_139 : decode cX9_greedily 139 = .ok (.if_icmp .ge 6, 3) := by decide +kernel
theorem dX9_greedily_142 : decode cX9_greedily 142 = .ok (.goto (-135), 3) := by decide +kernel
theorem dX9_greedily_145 : decode cX9_greedily 145 = .ok (.aload_n 0, 1) := by decide +kernel
theorem dX9_greedily_146 : decode cX9_greedily 146 = .ok (.iload_n 2, 1) := by decide +kernel
theorem dX9_greedily_147 : decode cX9_greedily 147 = .ok (.invokevirtual 280, 3) := by decide +kernel
theorem dX9_greedily_150 : decode cX9_greedily 150 = .ok (.aload_n 0, 1) := by decide +kernel
theorem dX9_greedily_151 : decode cX9_greedily 151 = .ok (.getfield 7, 3) := by decide +kernel
theorem dX9_greedily_154 : decode cX9_greedily 154 = .ok (.bipush 8, 2) := by decide +kernel
theorem dX9_greedily_156 : decode cX9_greedily 156 = .ok (.iload_n 2, 1) := by decide +kernel
theorem dX9_greedily_157 : decode cX9_greedily 157 = .ok (.iadd, 1) := by decide +kernel
theorem dX9_greedily_158 : decode cX9_greedily 158 = .ok (.iaload, 1) := by decide +kernel
theorem dX9_greedily_159 : decode cX9_greedily 159 = .ok (.istore 4, 2) := by decide +kernel
theorem dX9_greedily_161 : decode cX9_greedily 161 = .ok (.iconst 0, 1) := by decide +kernel
theorem dX9_greedily_162 : decode cX9_greedily 162 = .ok (.istore 5, 2) := by decide +kernel
theorem dX9_greedily_164 : decode cX9_greedily 164 = .ok (.iload 5, 2) := by decide +kernel
theorem dX9_greedily_166 : decode cX9_greedily 166 = .ok (.aload_n 0, 1) := by decide +kernel
theorem dX9_greedily_167 : decode cX9_greedily 167 = .ok (.getfield 223, 3) := by decide +kernel
theorem dX9_greedily_170 : decode cX9_greedily 170 = .ok (.if_icmp .ge 104, 3) := by decide +kernel
theorem dX9_greedily_173 : decode cX9_greedily 173 = .ok (.aload_n 0, 1) := by decide +kernel
theorem dX9_greedily_174 : decode cX9_greedily 174 = .ok (.getfield 25, 3) := by decide +kernel
theorem dX9_greedily_177 : decode cX9_greedily 177 = .ok (.iload_n 2, 1) := by decide +kernel
theorem dX9_greedily_178 : decode cX9_greedily 178 = .ok (.iaload, 1) := by decide +kernel
theorem dX9_greedily_179 : decode cX9_greedily 179 = .ok (.iload 5, 2) := by decide +kernel
theorem dX9_greedily_181 : decode cX9_greedily 181 = .ok (.invokestatic 163, 3) := by decide +kernel
theorem dX9_greedily_184 : decode cX9_greedily 184 = .ok (.ifCond .ne 6, 3) := by decide +kernel
theorem dX9_greedily_187 : decode cX9_greedily 187 = .ok (.goto 81, 3) := by decide +kernel
theorem dX9_greedily_190 : decode cX9_greedily 190 = .ok (.aload_n 0, 1) := by decide +kernel
theorem dX9_greedily_191 : decode cX9_greedily 191 = .ok (.getfield 7, 3) := by decide +kernel
theorem dX9_greedily_194 : decode cX9_greedily 194 = .ok (.iconst 4, 1) := by decide +kernel
theorem dX9_greedily_195 : decode cX9_greedily 195 = .ok (.iload 5, 2) := by decide +kernel
theorem dX9_greedily_197 : decode cX9_greedily 197 = .ok (.iadd, 1) := by decide +kernel
theorem dX9_greedily_198 : decode cX9_greedily 198 = .ok (.iaload, 1) := by decide +kernel
theorem dX9_greedily_199 : decode cX9_greedily 199 = .ok (.aload_n 0, 1) := by decide +kernel
theorem dX9_greedily_200 : decode cX9_greedily 200 = .ok (.getfield 60, 3) := by decide +kernel
theorem dX9_greedily_203 : decode cX9_greedily 203 = .ok (.iload 5, 2) := by decide +kernel
theorem dX9_greedily_205 : decode cX9_greedily 205 = .ok (.iaload, 1) := by decide +kernel
theorem dX9_greedily_206 : decode cX9_greedily 206 = .ok (.isub, 1) := by decide +kernel
theorem dX9_greedily_207 : decode cX9_greedily 207 = .ok (.iload 4, 2) := by decide +kernel
theorem dX9_greedily_209 : decode cX9_greedily 209 = .ok (.if_icmp .ge 23, 3) := by decide +kernel
theorem dX9_greedily_212 : decode cX9_greedily 212 = .ok (.aload_n 0, 1) := by decide +kernel
theorem dX9_greedily_213 : decode cX9_greedily 213 = .ok (.getfield 7, 3) := by decide +kernel
theorem dX9_greedily_216 : decode cX9_greedily 216 = .ok (.iconst 4, 1) := by decide +kernel
theorem dX9_greedily_217 : decode cX9_greedily 217 = .ok (.iload 5, 2) := by decide +kernel
theorem dX9_greedily_219 : decode cX9_greedily 219 = .ok (.iadd, 1) := by decide +kernel
theorem dX9_greedily_220 : decode cX9_greedily 220 = .ok (.iaload, 1) := by decide +kernel
theorem dX9_greedily_221 : decode cX9_greedily 221 = .ok (.aload_n 0, 1) := by decide +kernel
theorem dX9_greedily_222 : decode cX9_greedily 222 = .ok (.getfield 60, 3) := by decide +kernel
theorem dX9_greedily_225 : decode cX9_greedily 225 = .ok (.iload 5, 2) := by decide +kernel
theorem dX9_greedily_227 : decode cX9_greedily 227 = .ok (.iaload, 1) := by decide +kernel
theorem dX9_greedily_228 : decode cX9_greedily 228 = .ok (.isub, 1) := by decide +kernel
theorem dX9_greedily_229 : decode cX9_greedily 229 = .ok (.goto 5, 3) := by decide +kernel
theorem dX9_greedily_232 : decode cX9_greedily 232 = .ok (.iload 4, 2) := by decide +kernel
theorem dX9_greedily_234 : decode cX9_greedily 234 = .ok (.istore 6, 2) := by decide +kernel
theorem dX9_greedily_236 : decode cX9_greedily 236 = .ok (.aload_n 0, 1) := by decide +kernel
theorem dX9_greedily_237 : decode cX9_greedily 237 = .ok (.getfield 57, 3) := by decide +kernel
theorem dX9_greedily_240 : decode cX9_greedily 240 = .ok (.iconst 4, 1) := by decide +kernel
theorem dX9_greedily_241 : decode cX9_greedily 241 = .ok (.iload_n 2, 1) := by decide +kernel
theorem dX9_greedily_242 : decode cX9_greedily 242 = .ok (.imul, 1) := by decide +kernel
theorem dX9_greedily_243 : decode cX9_greedily 243 = .ok (.iload 5, 2) := by decide +kernel
theorem dX9_greedily_245 : decode cX9_greedily 245 = .ok (.iadd, 1) := by decide +kernel
theorem dX9_greedily_246 : decode cX9_greedily 246 = .ok (.iload 6, 2) := by decide +kernel
theorem dX9_greedily_248 : decode cX9_greedily 248 = .ok (.iastore, 1) := by decide +kernel
theorem dX9_greedily_249 : decode cX9_greedily 249 = .ok (.aload_n 0, 1) := by decide +kernel
theorem dX9_greedily_250 : decode cX9_greedily 250 = .ok (.getfield 60, 3) := by decide +kernel
theorem dX9_greedily_253 : decode cX9_greedily 253 = .ok (.iload 5, 2) := by decide +kernel
theorem dX9_greedily_255 : decode cX9_greedily 255 = .ok (.dup2, 1) := by decide +kernel
theorem dX9_greedily_256 : decode cX9_greedily 256 = .ok (.iaload, 1) := by decide +kernel
theorem dX9_greedily_257 : decode cX9_greedily 257 = .ok (.iload 6, 2) := by decide +kernel
theorem dX9_greedily_259 : decode cX9_greedily 259 = .ok (.iadd, 1) := by decide +kernel
theorem dX9_greedily_260 : decode cX9_greedily 260 = .ok (.iastore, 1) := by decide +kernel
theorem dX9_greedily_261 : decode cX9_greedily 261 = .ok (.iload 4, 2) := by decide +kernel
theorem dX9_greedily_263 : decode cX9_greedily 263 = .ok (.iload 6, 2) := by decide +kernel
theorem dX9_greedily_265 : decode cX9_greedily 265 = .ok (.isub, 1) := by decide +kernel
theorem dX9_greedily_266 : decode cX9_greedily 266 = .ok (.istore 4, 2) := by decide +kernel
theorem dX9_greedily_268 : decode cX9_greedily 268 = .ok (.iinc 5 1, 3) := by decide +kernel
theorem dX9_greedily_271 : decode cX9_greedily 271 = .ok (.goto (-107), 3) := by decide +kernel
theorem dX9_greedily_274 : decode cX9_greedily 274 = .ok (.goto (-267), 3) := by decide +kernel
theorem dX9_greedily_277 : decode cX9_greedily 277 = .ok (.return_, 1) := by decide +kernel
theorem dX9_allFunded_0 : decode cX9_allFunded 0 = .ok (.iconst 0, 1) := by decide +kernel
theorem dX9_allFunded_1 : decode cX9_allFunded 1 = .ok (.istore_n 1, 1) := by decide +kernel
theorem dX9_allFunded_2 : decode cX9_allFunded 2 = .ok (.iload_n 1, 1) := by decide +kernel
theorem dX9_allFunded_3 : decode cX9_allFunded 3 = .ok (.aload_n 0, 1) := by decide +kernel
theorem dX9_allFunded_4 : decode cX9_allFunded 4 = .ok (.getfield 226, 3) := by decide +kernel
theorem dX9_allFunded_7 : decode cX9_allFunded 7 = .ok (.if_icmp .ge 30, 3) := by decide +kernel
theorem dX9_allFunded_10 : decode cX9_allFunded 10 = .ok (.aload_n 0, 1) := by decide +kernel
theorem dX9_allFunded_11 : decode cX9_allFunded 11 = .ok (.iload_n 1, 1) := by decide +kernel
theorem dX9_allFunded_12 : decode cX9_allFunded 12 = .ok (.invokevirtual 249, 3) := by decide +kernel
theorem dX9_allFunded_15 : decode cX9_allFunded 15 = .ok (.ifCond .le 16, 3) := by decide +kernel
theorem dX9_allFunded_18 : decode cX9_allFunded 18 = .ok (.aload_n 0, 1) := by decide +kernel
theorem dX9_allFunded_19 : decode cX9_allFunded 19 = .ok (.getfield 274, 3) := by decide +kernel
theorem dX9_allFunded_22 : decode cX9_allFunded 22 = .ok (.iload_n 1, 1) := by decide +kernel
theorem dX9_allFunded_23 : decode cX9_allFunded 23 = .ok (.invokestatic 163, 3) := by decide +kernel
theorem dX9_allFunded_26 : decode cX9_allFunded 26 = .ok (.ifCond .ne 5, 3) := by decide +kernel
theorem dX9_allFunded_29 : decode cX9_allFunded 29 = .ok (.iconst 0, 1) := by decide +kernel
theorem dX9_allFunded_30 : decode cX9_allFunded 30 = .ok (.ireturn, 1) := by decide +kernel
theorem dX9_allFunded_31 : decode cX9_allFunded 31 = .ok (.iinc 1 1, 3) := by decide +kernel
theorem dX9_allFunded_34 : decode cX9_allFunded 34 = .ok (.goto (-32), 3) := by decide +kernel
theorem dX9_allFunded_37 : decode cX9_allFunded 37 = .ok (.iconst 1, 1) := by decide +kernel
theorem dX9_allFunded_38 : decode cX9_allFunded 38 = .ok (.ireturn, 1) := by decide +kernel
theorem dX9_isOverpaid_0 : decode cX9_isOverpaid 0 = .ok (.iconst 0, 1) := by decide +kernel
theorem dX9_isOverpaid_1 : decode cX9_isOverpaid 1 = .ok (.istore_n 1, 1) := by decide +kernel
theorem dX9_isOverpaid_2 : decode cX9_isOverpaid 2 = .ok (.iload_n 1, 1) := by decide +kernel
theorem dX9_isOverpaid_3 : decode cX9_isOverpaid 3 = .ok (.aload_n 0, 1) := by decide +kernel
theorem dX9_isOverpaid_4 : decode cX9_isOverpaid 4 = .ok (.getfield 223, 3) := by decide +kernel
theorem dX9_isOverpaid_7 : decode cX9_isOverpaid 7 = .ok (.if_icmp .ge 28, 3) := by decide +kernel
theorem dX9_isOverpaid_10 : decode cX9_isOverpaid 10 = .ok (.aload_n 0, 1) := by decide +kernel
theorem dX9_isOverpaid_11 : decode cX9_isOverpaid 11 = .ok (.getfield 60, 3) := by decide +kernel
theorem dX9_isOverpaid_14 : decode cX9_isOverpaid 14 = .ok (.iload_n 1, 1) := by decide +kernel
theorem dX9_isOverpaid_15 : decode cX9_isOverpaid 15 = .ok (.iaload, 1) := by decide +kernel
theorem dX9_isOverpaid_16 : decode cX9_isOverpaid 16 = .ok (.aload_n 0, 1) := by decide +kernel
theorem dX9_isOverpaid_17 : decode cX9_isOverpaid 17 = .ok (.getfield 7, 3) := by decide +kernel
theorem dX9_isOverpaid_20 : decode cX9_isOverpaid 20 = .ok (.iconst 4, 1) := by decide +kernel
theorem dX9_isOverpaid_21 : decode cX9_isOverpaid 21 = .ok (.iload_n 1, 1) := by decide +kernel
theorem dX9_isOverpaid_22 : decode cX9_isOverpaid 22 = .ok (.iadd, 1) := by decide +kernel
theorem dX9_isOverpaid_23 : decode cX9_isOverpaid 23 = .ok (.iaload, 1) := by decide +kernel
theorem dX9_isOverpaid_24 : decode cX9_isOverpaid 24 = .ok (.if_icmp .le 5, 3) := by decide +kernel
theorem dX9_isOverpaid_27 : decode cX9_isOverpaid 27 = .ok (.iconst 1, 1) := by decide +kernel
theorem dX9_isOverpaid_28 : decode cX9_isOverpaid 28 = .ok (.ireturn, 1) := by decide +kernel
theorem dX9_isOverpaid_29 : decode cX9_isOverpaid 29 = .ok (.iinc 1 1, 3) := by decide +kernel
theorem dX9_isOverpaid_32 : decode cX9_isOverpaid 32 = .ok (.goto (-30), 3) := by decide +kernel
theorem dX9_isOverpaid_35 : decode cX9_isOverpaid 35 = .ok (.iconst 0, 1) := by decide +kernel
theorem dX9_isOverpaid_36 : decode cX9_isOverpaid 36 = .ok (.ireturn, 1) := by decide +kernel
theorem dX9_equal_0 : decode cX9_equal 0 = .ok (.aload_n 0, 1) := by decide +kernel
theorem dX9_equal_1 : decode cX9_equal 1 = .ok (.iconst 0, 1) := by decide +kernel
theorem dX9_equal_2 : decode cX9_equal 2 = .ok (.invokevirtual 301, 3) := by decide +kernel
theorem dX9_equal_5 : decode cX9_equal 5 = .ok (.aload_n 0, 1) := by decide +kernel
theorem dX9_equal_6 : decode cX9_equal 6 = .ok (.aload_n 0, 1) := by decide +kernel
theorem dX9_equal_7 : decode cX9_equal 7 = .ok (.getfield 274, 3) := by decide +kernel
theorem dX9_equal_10 : decode cX9_equal 10 = .ok (.putfield 304, 3) := by decide +kernel
theorem dX9_equal_13 : decode cX9_equal 13 = .ok (.aload_n 0, 1) := by decide +kernel
theorem dX9_equal_14 : decode cX9_equal 14 = .ok (.iconst 0, 1) := by decide +kernel
theorem dX9_equal_15 : decode cX9_equal 15 = .ok (.putfield 307, 3) := by decide +kernel
theorem dX9_equal_18 : decode cX9_equal 18 = .ok (.aload_n 0, 1) := by decide +kernel
theorem dX9_equal_19 : decode cX9_equal 19 = .ok (.getfield 7, 3) := by decide +kernel
theorem dX9_equal_22 : decode cX9_equal 22 = .ok (.iconst 1, 1) := by decide +kernel
theorem dX9_equal_23 : decode cX9_equal 23 = .ok (.iaload, 1) := by decide +kernel
theorem dX9_equal_24 : decode cX9_equal 24 = .ok (.iconst 1, 1) := by decide +kernel
theorem dX9_equal_25 : decode cX9_equal 25 = .ok (.if_icmp .ne 7, 3) := by decide +kernel
theorem dX9_equal_28 : decode cX9_equal 28 = .ok (.aload_n 0, 1) := by decide +kernel
theorem dX9_equal_29 : decode cX9_equal 29 = .ok (.invokevirtual 310, 3) := by decide +kernel
theorem dX9_equal_32 : decode cX9_equal 32 = .ok (.aload_n 0, 1) := by decide +kernel
theorem dX9_equal_33 : decode cX9_equal 33 = .ok (.getfield 7, 3) := by decide +kernel
theorem dX9_equal_36 : decode cX9_equal 36 = .ok (.iconst 1, 1) := by decide +kernel
theorem dX9_equal_37 : decode cX9_equal 37 = .ok (.iaload, 1) := by decide +kernel
theorem dX9_equal_38 : decode cX9_equal 38 = .ok (.iconst 2, 1) := by decide +kernel
theorem dX9_equal_39 : decode cX9_equal 39 = .ok (.if_icmp .eq 4, 3) := by decide +kernel
theorem dX9_equal_42 : decode cX9_equal 42 = .ok (.return_, 1) := by decide +kernel
theorem dX9_equal_43 : decode cX9_equal 43 = .ok (.aload_n 0, 1) := by decide +kernel
theorem dX9_equal_44 : decode cX9_equal 44 = .ok (.invokevirtual 313, 3) := by decide +kernel
theorem dX9_equal_47 : decode cX9_equal 47 = .ok (.ifCond .ne 7, 3) := by decide +kernel
theorem dX9_equal_50 : decode cX9_equal 50 = .ok (.iconst 1, 1) := by decide +kernel
theorem dX9_equal_51 : decode cX9_equal 51 = .ok (.goto 4, 3) := by decide +kernel
theorem dX9_equal_54 : decode cX9_equal 54 = .ok (.iconst 0, 1) := by decide +kernel
theorem dX9_equal_55 : decode cX9_equal 55 = .ok (.istore_n 1, 1) := by decide +kernel
theorem dX9_equal_56 : decode cX9_equal 56 = .ok (.iload_n 1, 1) := by decide +kernel
theorem dX9_equal_57 : decode cX9_equal 57 = .ok (.ifCond .eq 78, 3) := by decide +kernel
theorem dX9_equal_60 : decode cX9_equal 60 = .ok (.aload_n 0, 1) := by decide +kernel
theorem dX9_equal_61 : decode cX9_equal 61 = .ok (.getfield 307, 3) := by decide +kernel
theorem dX9_equal_64 : decode cX9_equal 64 = .ok (.bipush 60, 2) := by decide +kernel
theorem dX9_equal_66 : decode cX9_equal 66 = .ok (.if_icmp .ge 69, 3) := by decide +kernel
theorem dX9_equal_69 : decode cX9_equal 69 = .ok (.aload_n 0, 1) := by decide +kernel
theorem dX9_equal_70 : decode cX9_equal 70 = .ok (.aload_n 0, 1) := by decide +kernel
theorem dX9_equal_71 : decode cX9_equal 71 = .ok (.getfield 307, 3) := by decide +kernel
theorem dX9_equal_74 : decode cX9_equal 74 = .ok (.iconst 1, 1) := by decide +kernel
theorem dX9_equal_75 : decode cX9_equal 75 = .ok (.iadd, 1) := by decide +kernel
theorem dX9_equal_76 : decode cX9_equal 76 = .ok (.aload_n 0, 1) := by decide +kernel
theorem dX9_equal_77 : decode cX9_equal 77 = .ok (.getfield 7, 3) := by decide +kernel
theorem dX9_equal_80 : decode cX9_equal 80 = .ok (.iconst 2, 1) := by decide +kernel
theorem dX9_equal_81 : decode cX9_equal 81 = .ok (.iaload, 1) := by decide +kernel
theorem dX9_equal_82 : decode cX9_equal 82 = .ok (.imul, 1) := by decide +kernel
theorem dX9_equal_83 : decode cX9_equal 83 = .ok (.invokevirtual 301, 3) := by decide +kernel
theorem dX9_equal_86 : decode cX9_equal 86 = .ok (.aload_n 0, 1) := by decide +kernel
theorem dX9_equal_87 : decode cX9_equal 87 = .ok (.invokevirtual 316, 3) := by decide +kernel
theorem dX9_equal_90 : decode cX9_equal 90 = .ok (.ifCond .eq 19, 3) := by decide +kernel
theorem dX9_equal_93 : decode cX9_equal 93 = .ok (.aload_n 0, 1) := by decide +kernel
theorem dX9_equal_94 : decode cX9_equal 94 = .ok (.aload_n 0, 1) := by decide +kernel
theorem dX9_equal_95 : decode cX9_equal 95 = .ok (.getfield 307, 3) := by decide +kernel
theorem dX9_equal_98 : decode cX9_equal 98 = .ok (.aload_n 0, 1) := by decide +kernel
theorem dX9_equal_99 : decode cX9_equal 99 = .ok (.getfield 7, 3) := by decide +kernel
theorem dX9_equal_102 : decode cX9_equal 102 = .ok (.iconst 2, 1) := by decide +kernel
theorem dX9_equal_103 : decode cX9_equal 103 = .ok (.iaload, 1) := by decide +kernel
theorem dX9_equal_104 : decode cX9_equal 104 = .ok (.imul, 1) := by decide +kernel
theorem dX9_equal_105 : decode cX9_equal 105 = .ok (.invokevirtual 301, 3) := by decide +kernel
theorem dX9_equal_108 : decode cX9_equal 108 = .ok (.return_, 1) := by decide +kernel
theorem dX9_equal_109 : decode cX9_equal 109 = .ok (.aload_n 0, 1) := by decide +kernel
theorem dX9_equal_110 : decode cX9_equal 110 = .ok (.dup, 1) := by decide +kernel
theorem dX9_equal_111 : decode cX9_equal 111 = .ok (.getfield 307, 3) := by decide +kernel
theorem dX9_equal_114 : decode cX9_equal 114 = .ok (.iconst 1, 1) := by decide +kernel
theorem dX9_equal_115 : decode cX9_equal 115 = .ok (.iadd, 1) := by decide +kernel
theorem dX9_equal_116 : decode cX9_equal 116 = .ok (.putfield 307, 3) := by decide +kernel
theorem dX9_equal_119 : decode cX9_equal 119 = .ok (.aload_n 0, 1) := by decide +kernel
theorem dX9_equal_120 : decode cX9_equal 120 = .ok (.invokevirtual 313, 3) := by decide +kernel
theorem dX9_equal_123 : decode cX9_equal 123 = .ok (.ifCond .ne 7, 3) := by decide +kernel
theorem dX9_equal_126 : decode cX9_equal 126 = .ok (.iconst 1, 1) := by decide +kernel
theorem dX9_equal_127 : decode cX9_equal 127 = .ok (.goto 4, 3) := by decide +kernel
theorem dX9_equal_130 : decode cX9_equal 130 = .ok (.iconst 0, 1) := by decide +kernel
theorem dX9_equal_131 : decode cX9_equal 131 = .ok (.istore_n 1, 1) := by decide +kernel
theorem dX9_equal_132 : decode cX9_equal 132 = .ok (.goto (-76), 3) := by decide +kernel
theorem dX9_equal_135 : decode cX9_equal 135 = .ok (.return_, 1) := by decide +kernel
theorem dX9_isPayable_0 : decode cX9_isPayable 0 = .ok (.iconst 0, 1) := by decide +kernel
theorem dX9_isPayable_1 : decode cX9_isPayable 1 = .ok (.istore_n 2, 1) := by decide +kernel
theorem dX9_isPayable_2 : decode cX9_isPayable 2 = .ok (.iload_n 2, 1) := by decide +kernel
theorem dX9_isPayable_3 : decode cX9_isPayable 3 = .ok (.iconst 1, 1) := by decide +kernel
theorem dX9_isPayable_4 : decode cX9_isPayable 4 = .ok (.aload_n 0, 1) := by decide +kernel
theorem dX9_isPayable_5 : decode cX9_isPayable 5 = .ok (.getfield 223, 3) := by decide +kernel
theorem dX9_isPayable_8 : decode cX9_isPayable 8 = .ok (.ishl, 1) := by decide +kernel
theorem dX9_isPayable_9 : decode cX9_isPayable 9 = .ok (.if_icmp .ge 125, 3) := by decide +kernel
theorem dX9_isPayable_12 : decode cX9_isPayable 12 = .ok (.iconst 0, 1) := by decide +kernel
theorem dX9_isPayable_13 : decode cX9_isPayable 13 = .ok (.istore_n 3, 1) := by decide +kernel
theorem dX9_isPayable_14 : decode cX9_isPayable 14 = .ok (.iconst 0, 1) := by decide +kernel
theorem dX9_isPayable_15 : decode cX9_isPayable 15 = .ok (.istore 4, 2) := by decide +kernel
theorem dX9_isPayable_17 : decode cX9_isPayable 17 = .ok (.iconst 0, 1) := by decide +kernel
theorem dX9_isPayable_18 : decode cX9_isPayable 18 = .ok (.istore 5, 2) := by decide +kernel
theorem dX9_isPayable_20 : decode cX9_isPayable 20 = .ok (.iload 5, 2) := by decide +kernel
theorem dX9_isPayable_22 : decode cX9_isPayable 22 = .ok (.aload_n 0, 1) := by decide +kernel
theorem dX9_isPayable_23 : decode cX9_isPayable 23 = .ok (.getfield 226, 3) := by decide +kernel
theorem dX9_isPayable_26 : decode cX9_isPayable 26 = .ok (.if_icmp .ge 49, 3) := by decide +kernel
theorem dX9_isPayable_29 : decode cX9_isPayable 29 = .ok (.iload_n 3, 1) := by decide +kernel
theorem dX9_isPayable_30 : decode cX9_isPayable 30 = .ok (.iload_n 1, 1) := by decide +kernel
theorem dX9_isPayable_31 : decode cX9_isPayable 31 = .ok (.iload 5, 2) := by decide +kernel
theorem dX9_isPayable_33 : decode cX9_isPayable 33 = .ok (.invokestatic 163, 3) := by decide +kernel
theorem dX9_isPayable_36 : decode cX9_isPayable 36 = .ok (.ifCond .eq 30, 3) := by decide +kernel
theorem dX9_isPayable_39 : decode cX9_isPayable 39 = .ok (.aload_n 0, 1) := by decide +kernel
theorem dX9_isPayable_40 : decode cX9_isPayable 40 = .ok (.getfield 25, 3) := by decide +kernel
theorem dX9_isPayable_43 : decode cX9_isPayable 43 = .ok (.iload 5, 2) := by decide +kernel
theorem dX9_isPayable_45 : decode cX9_isPayable 45 = .ok (.iaload, 1) := by decide +kernel
theorem dX9_isPayable_46 : decode cX9_isPayable 46 = .ok (.iload_n 2, 1) := by decide +kernel
theorem dX9_isPayable_47 : decode cX9_isPayable 47 = .ok (.iconst (-1), 1) := by decide +kernel
theorem dX9_isPayable_48 : decode cX9_isPayable 48 = .ok (.ixor, 1) := by decide +kernel
theorem dX9_isPayable_49 : decode cX9_isPayable 49 = .ok (.iand, 1) := by decide +kernel
theorem dX9_isPayable_50 : decode cX9_isPayable 50 = .ok (.ifCond .ne 16, 3) := by decide +kernel
theorem dX9_isPayable_53 : decode cX9_isPayable 53 = .ok (.aload_n 0, 1) := by decide +kernel
theorem dX9_isPayable_54 : decode cX9_isPayable 54 = .ok (.getfield 7, 3) := by decide +kernel
theorem dX9_isPayable_57 : decode cX9_isPayable 57 = .ok (.bipush 8, 2) := by decide +kernel
theorem dX9_isPayable_59 : decode cX9_isPayable 59 = .ok (.iload 5, 2) := by decide +kernel
theorem dX9_isPayable_61 : decode cX9_isPayable 61 = .ok (.iadd, 1) := by decide +kernel
theorem dX9_isPayable_62 : decode cX9_isPayable 62 = .ok (.iaload, 1) := by decide +kernel
theorem dX9_isPayable_63 : decode cX9_isPayable 63 = .ok (.goto 4, 3) := by decide +kernel
theorem dX9_isPayable_66 : decode cX9_isPayable 66 = .ok (.iconst 0, 1) := by decide +kernel
theorem dX9_isPayable_67 : decode cX9_isPayable 67 = .ok (.iadd, 1) := by decide +kernel
theorem dX9_isPayable_68 : decode cX9_isPayable 68 = .ok (.istore_n 3, 1) := by decide +kernel
theorem dX9_isPayable_69 : decode cX9_isPayable 69 = .ok (.iinc 5 1, 3) := by decide +kernel
theorem dX9_isPayable_72 : decode cX9_isPayable 72 = .ok (.goto (-52), 3) := by decide +kernel
theorem dX9_isPayable_75 : decode cX9_isPayable 75 = .ok (.iconst 0, 1) := by decide +kernel
theorem dX9_isPayable_76 : decode cX9_isPayable 76 = .ok (.istore 5, 2) := by decide +kernel
theorem dX9_isPayable_78 : decode cX9_isPayable 78 = .ok (.iload 5, 2) := by decide +kernel
theorem dX9_isPayable_80 : decode cX9_isPayable 80 = .ok (.aload_n 0, 1) := by decide +kernel
theorem dX9_isPayable_81 : decode cX9_isPayable 81 = .ok (.getfield 223, 3) := by decide +kernel
theorem dX9_isPayable_84 : decode cX9_isPayable 84 = .ok (.if_icmp .ge 36, 3) := by decide +kernel
theorem dX9_isPayable_87 : decode cX9_isPayable 87 = .ok (.iload 4, 2) := by decide +kernel
theorem dX9_isPayable_89 : decode cX9_isPayable 89 = .ok (.iload_n 2, 1) := by decide +kernel
theorem dX9_isPayable_90 : decode cX9_isPayable 90 = .ok (.iload 5, 2) := by decide +kernel
theorem dX9_isPayable_92 : decode cX9_isPayable 92 = .ok (.invokestatic 163, 3) := by decide +kernel
theorem dX9_isPayable_95 : decode cX9_isPayable 95 = .ok (.ifCond .eq 15, 3) := by decide +kernel
theorem dX9_isPayable_98 : decode cX9_isPayable 98 = .ok (.aload_n 0, 1) := by decide +kernel
theorem dX9_isPayable_99 : decode cX9_isPayable 99 = .ok (.getfield 7, 3) := by decide +kernel
theorem dX9_isPayable_102 : decode cX9_isPayable 102 = .ok (.iconst 4, 1) := by decide +kernel
theorem dX9_isPayable_103 : decode cX9_isPayable 103 = .ok (.iload 5, 2) := by decide +kernel
theorem dX9_isPayable_105 : decode cX9_isPayable 105 = .ok (.iadd, 1) := by decide +kernel
theorem dX9_isPayable_106 : decode cX9_isPayable 106 = .ok (.iaload, 1) := by decide +kernel
theorem dX9_isPayable_107 : decode cX9_isPayable 107 = .ok (.goto 4, 3) := by decide +kernel
theorem dX9_isPayable_110 : decode cX9_isPayable 110 = .ok (.iconst 0, 1) := by decide +kernel
theorem dX9_isPayable_111 : decode cX9_isPayable 111 = .ok (.iadd, 1) := by decide +kernel
theorem dX9_isPayable_112 : decode cX9_isPayable 112 = .ok (.istore 4, 2) := by decide +kernel
theorem dX9_isPayable_114 : decode cX9_isPayable 114 = .ok (.iinc 5 1, 3) := by decide +kernel
theorem dX9_isPayable_117 : decode cX9_isPayable 117 = .ok (.goto (-39), 3) := by decide +kernel
theorem dX9_isPayable_120 : decode cX9_isPayable 120 = .ok (.iload_n 3, 1) := by decide +kernel
theorem dX9_isPayable_121 : decode cX9_isPayable 121 = .ok (.iload 4, 2) := by decide +kernel
theorem dX9_isPayable_123 : decode cX9_isPayable 123 = .ok (.if_icmp .le 5, 3) := by decide +kernel
theorem dX9_isPayable_126 : decode cX9_isPayable 126 = .ok (.iconst 0, 1) := by decide +kernel
theorem dX9_isPayable_127 : decode cX9_isPayable 127 = .ok (.ireturn, 1) := by decide +kernel
theorem dX9_isPayable_128 : decode cX9_isPayable 128 = .ok (.iinc 2 1, 3) := by decide +kernel
theorem dX9_isPayable_131 : decode cX9_isPayable 131 = .ok (.goto (-129), 3) := by decide +kernel
theorem dX9_isPayable_134 : decode cX9_isPayable 134 = .ok (.iconst 1, 1) := by decide +kernel
theorem dX9_isPayable_135 : decode cX9_isPayable 135 = .ok (.ireturn, 1) := by decide +kernel
theorem dX9_gainOf_0 : decode cX9_gainOf 0 = .ok (.lconst 0, 1) := by decide +kernel
theorem dX9_gainOf_1 : decode cX9_gainOf 1 = .ok (.lstore_n 2, 1) := by decide +kernel
theorem dX9_gainOf_2 : decode cX9_gainOf 2 = .ok (.iconst 0, 1) := by decide +kernel
theorem dX9_gainOf_3 : decode cX9_gainOf 3 = .ok (.istore 4, 2) := by decide +kernel
theorem dX9_gainOf_5 : decode cX9_gainOf 5 = .ok (.iload 4, 2) := by decide +kernel
theorem dX9_gainOf_7 : decode cX9_gainOf 7 = .ok (.aload_n 0, 1) := by decide +kernel
theorem dX9_gainOf_8 : decode cX9_gainOf 8 = .ok (.getfield 226, 3) := by decide +kernel
theorem dX9_gainOf_11 : decode cX9_gainOf 11 = .ok (.if_icmp .ge 32, 3) := by decide +kernel
theorem dX9_gainOf_14 : decode cX9_gainOf 14 = .ok (.lload_n 2, 1) := by decide +kernel
theorem dX9_gainOf_15 : decode cX9_gainOf 15 = .ok (.iload_n 1, 1) := by decide +kernel
theorem dX9_gainOf_16 : decode cX9_gainOf 16 = .ok (.iload 4, 2) := by decide +kernel
theorem dX9_gainOf_18 : decode cX9_gainOf 18 = .ok (.invokestatic 163, 3) := by decide +kernel
theorem dX9_gainOf_21 : decode cX9_gainOf 21 = .ok (.ifCond .eq 13, 3) := by decide +kernel
theorem dX9_gainOf_24 : decode cX9_gainOf 24 = .ok (.aload_n 0, 1) := by decide +kernel
theorem dX9_gainOf_25 : decode cX9_gainOf 25 = .ok (.getfield 66, 3) := by decide +kernel
theorem dX9_gainOf_28 : decode cX9_gainOf 28 = .ok (.iload 4, 2) := by decide +kernel
theorem dX9_gainOf_30 : decode cX9_gainOf 30 = .ok (.laload, 1) := by decide +kernel
theorem dX9_gainOf_31 : decode cX9_gainOf 31 = .ok (.goto 4, 3) := by decide +kernel
theorem dX9_gainOf_34 : decode cX9_gainOf 34 = .ok (.lconst 0, 1) := by decide +kernel
theorem dX9_gainOf_35 : decode cX9_gainOf 35 = .ok (.ladd, 1) := by decide +kernel
theorem dX9_gainOf_36 : decode cX9_gainOf 36 = .ok (.lstore_n 2, 1) := by decide +kernel
theorem dX9_gainOf_37 : decode cX9_gainOf 37 = .ok (.iinc 4 1, 3) := by decide +kernel
theorem dX9_gainOf_40 : decode cX9_gainOf 40 = .ok (.goto (-35), 3) := by decide +kernel
theorem dX9_gainOf_43 : decode cX9_gainOf 43 = .ok (.lload_n 2, 1) := by decide +kernel
theorem dX9_gainOf_44 : decode cX9_gainOf 44 = .ok (.lreturn, 1) := by decide +kernel
theorem dX9_costsOf_0 : decode cX9_costsOf 0 = .ok (.iconst 0, 1) := by decide +kernel
theorem dX9_costsOf_1 : decode cX9_costsOf 1 = .ok (.istore_n 2, 1) := by decide +kernel
theorem dX9_costsOf_2 : decode cX9_costsOf 2 = .ok (.iconst 0, 1) := by decide +kernel
theorem dX9_costsOf_3 : decode cX9_costsOf 3 = .ok (.istore_n 3, 1) := by decide +kernel
theorem dX9_costsOf_4 : decode cX9_costsOf 4 = .ok (.iload_n 3, 1) := by decide +kernel
theorem dX9_costsOf_5 : decode cX9_costsOf 5 = .ok (.aload_n 0, 1) := by decide +kernel
theorem dX9_costsOf_6 : decode cX9_costsOf 6 = .ok (.getfield 226, 3) := by decide +kernel
theorem dX9_costsOf_9 : decode cX9_costsOf 9 = .ok (.if_icmp .ge 33, 3) := by decide +kernel
theorem dX9_costsOf_12 : decode cX9_costsOf 12 = .ok (.iload_n 2, 1) := by decide +kernel
theorem dX9_costsOf_13 : decode cX9_costsOf 13 = .ok (.iload_n 1, 1) := by decide +kernel
theorem dX9_costsOf_14 : decode cX9_costsOf 14 = .ok (.iload_n 3, 1) := by decide +kernel
theorem dX9_costsOf_15 : decode cX9_costsOf 15 = .ok (.invokestatic 163, 3) := by decide +kernel
theorem dX9_costsOf_18 : decode cX9_costsOf 18 = .ok (.ifCond .eq 15, 3) := by decide +kernel
theorem dX9_costsOf_21 : decode cX9_costsOf 21 = .ok (.aload_n 0, 1) := by decide +kernel
theorem dX9_costsOf_22 : decode cX9_costsOf 22 = .ok (.getfield 7, 3) := by decide +kernel
theorem dX9_costsOf_25 : decode cX9_costsOf 25 = .ok (.bipush 8, 2) := by decide +kernel
theorem dX9_costsOf_27 : decode cX9_costsOf 27 = .ok (.iload_n 3, 1) := by decide +kernel
theorem dX9_costsOf_28 : decode cX9_costsOf 28 = .ok (.iadd, 1) := by decide +kernel
theorem dX9_costsOf_29 : decode cX9_costsOf 29 = .ok (.iaload, 1) := by decide +kernel
theorem dX9_costsOf_30 : decode cX9_costsOf 30 = .ok (.goto 4, 3) := by decide +kernel
theorem dX9_costsOf_33 : decode cX9_costsOf 33 = .ok (.iconst 0, 1) := by decide +kernel
theorem dX9_costsOf_34 : decode cX9_costsOf 34 = .ok (.iadd, 1) := by decide +kernel
theorem dX9_costsOf_35 : decode cX9_costsOf 35 = .ok (.istore_n 2, 1) := by decide +kernel
theorem dX9_costsOf_36 : decode cX9_costsOf 36 = .ok (.iinc 3 1, 3) := by decide +kernel
theorem dX9_costsOf_39 : decode cX9_costsOf 39 = .ok (.goto (-35), 3) := by decide +kernel
theorem dX9_costsOf_42 : decode cX9_costsOf 42 = .ok (.iload_n 2, 1) := by decide +kernel
theorem dX9_costsOf_43 : decode cX9_costsOf 43 = .ok (.ireturn, 1) := by decide +kernel
theorem dX9_layGains_0 : decode cX9_layGains 0 = .ok (.iconst 0, 1) := by decide +kernel
theorem dX9_layGains_1 : decode cX9_layGains 1 = .ok (.istore_n 1, 1) := by decide +kernel
theorem dX9_layGains_2 : decode cX9_layGains 2 = .ok (.iload_n 1, 1) := by decide +kernel
theorem dX9_layGains_3 : decode cX9_layGains 3 = .ok (.aload_n 0, 1) := by decide +kernel
theorem dX9_layGains_4 : decode cX9_layGains 4 = .ok (.getfield 226, 3) := by decide +kernel
theorem dX9_layGains_7 : decode cX9_layGains 7 = .ok (.if_icmp .ge 28, 3) := by decide +kernel
theorem dX9_layGains_10 : decode cX9_layGains 10 = .ok (.aload_n 0, 1) := by decide +kernel
theorem dX9_layGains_11 : decode cX9_layGains 11 = .ok (.getfield 66, 3) := by decide +kernel
theorem dX9_layGains_14 : decode cX9_layGains 14 = .ok (.iload_n 1, 1) := by decide +kernel
theorem dX9_layGains_15 : decode cX9_layGains 15 = .ok (.aload_n 0, 1) := by decide +kernel
theorem dX9_layGains_16 : decode cX9_layGains 16 = .ok (.iload_n 1, 1) := by decide +kernel
theorem dX9_layGains_17 : decode cX9_layGains 17 = .ok (.invokevirtual 249, 3) := by decide +kernel
theorem dX9_layGains_20 : decode cX9_layGains 20 = .ok (.i2l, 1) := by decide +kernel
theorem dX9_layGains_21 : decode cX9_layGains 21 = .ok (.aload_n 0, 1) := by decide +kernel
theorem dX9_layGains_22 : decode cX9_layGains 22 = .ok (.iload_n 1, 1) := by decide +kernel
theorem dX9_layGains_23 : decode cX9_layGains 23 = .ok (.invokevirtual 319, 3) := by decide +kernel
theorem dX9_layGains_26 : decode cX9_layGains 26 = .ok (.i2l, 1) := by decide +kernel
theorem dX9_layGains_27 : decode cX9_layGains 27 = .ok (.lmul, 1) := by decide +kernel
theorem dX9_layGains_28 : decode cX9_layGains 28 = .ok (.lastore, 1) := by decide +kernel
theorem dX9_layGains_29 : decode cX9_layGains 29 = .ok (.iinc 1 1, 3) := by decide +kernel
theorem dX9_layGains_32 : decode cX9_layGains 32 = .ok (.goto (-30), 3) := by decide +kernel
theorem dX9_layGains_35 : decode cX9_layGains 35 = .ok (.return_, 1) := by decide +kernel
theorem dX9_best_0 : decode cX9_best 0 = .ok (.aload_n 0, 1) := by decide +kernel
theorem dX9_best_1 : decode cX9_best 1 = .ok (.invokevirtual 287, 3) := by decide +kernel
theorem dX9_best_4 : decode cX9_best 4 = .ok (.aload_n 0, 1) := by decide +kernel
theorem dX9_best_5 : decode cX9_best 5 = .ok (.invokevirtual 322, 3) := by decide +kernel
theorem dX9_best_8 : decode cX9_best 8 = .ok (.iconst 0, 1) := by decide +kernel
theorem dX9_best_9 : decode cX9_best 9 = .ok (.istore_n 1, 1) := by decide +kernel
theorem dX9_best_10 : decode cX9_best 10 = .ok (.iconst 1, 1) := by decide +kernel
theorem dX9_best_11 : decode cX9_best 11 = .ok (.istore_n 2, 1) := by decide +kernel
theorem dX9_best_12 : decode cX9_best 12 = .ok (.iload_n 2, 1) := by decide +kernel
theorem dX9_best_13 : decode cX9_best 13 = .ok (.iconst 1, 1) := by decide +kernel
theorem dX9_best_14 : decode cX9_best 14 = .ok (.aload_n 0, 1) := by decide +kernel
theorem dX9_best_15 : decode cX9_best 15 = .ok (.getfield 226, 3) := by decide +kernel
theorem dX9_best_18 : decode cX9_best 18 = .ok (.ishl, 1) := by decide +kernel
theorem dX9_best_19 : decode cX9_best 19 = .ok (.if_icmp .ge 62, 3) := by decide +kernel
theorem dX9_best_22 : decode cX9_best 22 = .ok (.aload_n 0, 1) := by decide +kernel
theorem dX9_best_23 : decode cX9_best 23 = .ok (.iload_n 2, 1) := by decide +kernel
theorem dX9_best_24 : decode cX9_best 24 = .ok (.invokevirtual 325, 3) := by decide +kernel
theorem dX9_best_27 : decode cX9_best 27 = .ok (.lstore_n 3, 1) := by decide +kernel
theorem dX9_best_28 : decode cX9_best 28 = .ok (.aload_n 0, 1) := by decide +kernel
theorem dX9_best_29 : decode cX9_best 29 = .ok (.iload_n 1, 1) := by decide +kernel
theorem dX9_best_30 : decode cX9_best 30 = .ok (.invokevirtual 325, 3) := by decide +kernel
theorem dX9_best_33 : decode cX9_best 33 = .ok (.lstore 5, 2) := by decide +kernel
theorem dX9_best_35 : decode cX9_best 35 = .ok (.lload_n 3, 1) := by decide +kernel
theorem dX9_best_36 : decode cX9_best 36 = .ok (.lload 5, 2) := by decide +kernel
theorem dX9_best_38 : decode cX9_best 38 = .ok (.lcmp, 1) := by decide +kernel
theorem dX9_best_39 : decode cX9_best 39 = .ok (.ifCond .lt 36, 3) := by decide +kernel
theorem dX9_best_42 : decode cX9_best 42 = .ok (.lload_n 3, 1) := by decide +kernel
theorem dX9_best_43 : decode cX9_best 43 = .ok (.lload 5, 2) := by decide +kernel
theorem dX9_best_45 : decode cX9_best 45 = .ok (.lcmp, 1) := by decide +kernel
theorem dX9_best_46 : decode cX9_best 46 = .ok (.ifCond .ne 16, 3) := by decide +kernel
theorem dX9_best_49 : decode cX9_best 49 = .ok (.aload_n 0, 1) := by decide +kernel
theorem dX9_best_50 : decode cX9_best 50 = .ok (.iload_n 2, 1) := by decide +kernel
theorem dX9_best_51 : decode cX9_best 51 = .ok (.invokevirtual 329, 3) := by decide +kernel
theorem dX9_best_54 : decode cX9_best 54 = .ok (.aload_n 0, 1) := by decide +kernel
theorem dX9_best_55 : decode cX9_best 55 = .ok (.iload_n 1, 1) := by decide +kernel
theorem dX9_best_56 : decode cX9_best 56 = .ok (.invokevirtual 329, 3) := by decide +kernel
theorem dX9_best_59 : decode cX9_best 59 = .ok (.if_icmp .ge 16, 3) := by decide +kernel
theorem dX9_best_62 : decode cX9_best 62 = .ok (.aload_n 0, 1) := by decide +kernel
theorem dX9_best_63 : decode cX9_best 63 = .ok (.iload_n 2, 1) := by decide +kernel
theorem dX9_best_64 : decode cX9_best 64 = .ok (.invokevirtual 332, 3) := by decide +kernel
theorem dX9_best_67 : decode cX9_best 67 = .ok (.ifCond .ne 6, 3) := by decide +kernel
theorem dX9_best_70 : decode cX9_best 70 = .ok (.goto 5, 3) := by decide +kernel
theorem dX9_best_73 : decode cX9_best 73 = .ok (.iload_n 2, 1) := by decide +kernel
theorem dX9_best_74 : decode cX9_best 74 = .ok (.istore_n 1, 1) := by decide +kernel
theorem dX9_best_75 : decode cX9_best 75 = .ok (.iinc 2 1, 3) := by decide +kernel
theorem dX9_best_78 : decode cX9_best 78 = .ok (.goto (-66), 3) := by decide +kernel
theorem dX9_best_81 : decode cX9_best 81 = .ok (.iconst 0, 1) := by decide +kernel
theorem dX9_best_82 : decode cX9_best 82 = .ok (.istore_n 2, 1) := by decide +kernel
theorem dX9_best_83 : decode cX9_best 83 = .ok (.iload_n 2, 1) := by decide +kernel
theorem dX9_best_84 : decode cX9_best 84 = .ok (.aload_n 0, 1) := by decide +kernel
theorem dX9_best_85 : decode cX9_best 85 = .ok (.getfield 226, 3) := by decide +kernel
theorem dX9_best_88 : decode cX9_best 88 = .ok (.if_icmp .ge 22, 3) := by decide +kernel
theorem dX9_best_91 : decode cX9_best 91 = .ok (.iload_n 1, 1) := by decide +kernel
theorem dX9_best_92 : decode cX9_best 92 = .ok (.iload_n 2, 1) := by decide +kernel
theorem dX9_best_93 : decode cX9_best 93 = .ok (.invokestatic 163, 3) := by decide +kernel
theorem dX9_best_96 : decode cX9_best 96 = .ok (.ifCond .eq 8, 3) := by decide +kernel
theorem dX9_best_99 : decode cX9_best 99 = .ok (.aload_n 0, 1) := by decide +kernel
theorem dX9_best_100 : decode cX9_best 100 = .ok (.iload_n 2, 1) := by decide +kernel
theorem dX9_best_101 : decode cX9_best 101 = .ok (.invokevirtual 280, 3) := by decide +kernel
theorem dX9_best_104 : decode cX9_best 104 = .ok (.iinc 2 1, 3) := by decide +kernel
theorem dX9_best_107 : decode cX9_best 107 = .ok (.goto (-24), 3) := by decide +kernel
theorem dX9_best_110 : decode cX9_best 110 = .ok (.return_, 1) := by decide +kernel
theorem dX9_runs_0 : decode cX9_runs 0 = .ok (.iload_n 1, 1) := by decide +kernel
theorem dX9_runs_1 : decode cX9_runs 1 = .ok (.tableswitch 49 0 2 #[27, 33, 43], 27) := by decide +kernel
theorem dX9_runs_28 : decode cX9_runs 28 = .ok (.aload_n 0, 1) := by decide +kernel
theorem dX9_runs_29 : decode cX9_runs 29 = .ok (.invokevirtual 335, 3) := by decide +kernel
theorem dX9_runs_32 : decode cX9_runs 32 = .ok (.iconst 1, 1) := by decide +kernel
theorem dX9_runs_33 : decode cX9_runs 33 = .ok (.ireturn, 1) := by decide +kernel
theorem dX9_runs_34 : decode cX9_runs 34 = .ok (.aload_n 0, 1) := by decide +kernel
theorem dX9_runs_35 : decode cX9_runs 35 = .ok (.invokevirtual 287, 3) := by decide +kernel
theorem dX9_runs_38 : decode cX9_runs 38 = .ok (.aload_n 0, 1) := by decide +kernel
theorem dX9_runs_39 : decode cX9_runs 39 = .ok (.invokevirtual 310, 3) := by decide +kernel
theorem dX9_runs_42 : decode cX9_runs 42 = .ok (.iconst 1, 1) := by decide +kernel
theorem dX9_runs_43 : decode cX9_runs 43 = .ok (.ireturn, 1) := by decide +kernel
theorem dX9_runs_44 : decode cX9_runs 44 = .ok (.aload_n 0, 1) := by decide +kernel
theorem dX9_runs_45 : decode cX9_runs 45 = .ok (.invokevirtual 338, 3) := by decide +kernel
theorem dX9_runs_48 : decode cX9_runs 48 = .ok (.iconst 1, 1) := by decide +kernel
theorem dX9_runs_49 : decode cX9_runs 49 = .ok (.ireturn, 1) := by decide +kernel
theorem dX9_runs_50 : decode cX9_runs 50 = .ok (.iconst 0, 1) := by decide +kernel
theorem dX9_runs_51 : decode cX9_runs 51 = .ok (.ireturn, 1) := by decide +kernel
theorem dX9_funded_0 : decode cX9_funded 0 = .ok (.aload_n 0, 1) := by decide +kernel
theorem dX9_funded_1 : decode cX9_funded 1 = .ok (.iconst 0, 1) := by decide +kernel
theorem dX9_funded_2 : decode cX9_funded 2 = .ok (.putfield 77, 3) := by decide +kernel
theorem dX9_funded_5 : decode cX9_funded 5 = .ok (.aload_n 0, 1) := by decide +kernel
theorem dX9_funded_6 : decode cX9_funded 6 = .ok (.iload_n 1, 1) := by decide +kernel
theorem dX9_funded_7 : decode cX9_funded 7 = .ok (.invokevirtual 341, 3) := by decide +kernel
theorem dX9_funded_10 : decode cX9_funded 10 = .ok (.ifCond .eq 10, 3) := by decide +kernel
theorem dX9_funded_13 : decode cX9_funded 13 = .ok (.aload_n 0, 1) := by decide +kernel
theorem dX9_funded_14 : decode cX9_funded 14 = .ok (.getfield 274, 3) := by decide +kernel
theorem dX9_funded_17 : decode cX9_funded 17 = .ok (.goto 5, 3) := by decide +kernel
theorem dX9_funded_20 : decode cX9_funded 20 = .ok (.bipush (-2), 2) := by decide +kernel
theorem dX9_funded_22 : decode cX9_funded 22 = .ok (.ireturn, 1) := by decide +kernel
theorem dX9_fundedAt_0 : decode cX9_fundedAt 0 = .ok (.aload_n 0, 1) := by decide +kernel
theorem dX9_fundedAt_1 : decode cX9_fundedAt 1 = .ok (.iconst 0, 1) := by decide +kernel
theorem dX9_fundedAt_2 : decode cX9_fundedAt 2 = .ok (.putfield 77, 3) := by decide +kernel
theorem dX9_fundedAt_5 : decode cX9_fundedAt 5 = .ok (.aload_n 0, 1) := by decide +kernel
theorem dX9_fundedAt_6 : decode cX9_fundedAt 6 = .ok (.iload_n 1, 1) := by decide +kernel
theorem dX9_fundedAt_7 : decode cX9_fundedAt 7 = .ok (.invokevirtual 341, 3) := by decide +kernel
theorem dX9_fundedAt_10 : decode cX9_fundedAt 10 = .ok (.ifCond .ne 6, 3) := by decide +kernel
theorem dX9_fundedAt_13 : decode cX9_fundedAt 13 = .ok (.bipush (-2), 2) := by decide +kernel
theorem dX9_fundedAt_15 : decode cX9_fundedAt 15 = .ok (.ireturn, 1) := by decide +kernel
theorem dX9_fundedAt_16 : decode cX9_fundedAt 16 = .ok (.iload_n 2, 1) := by decide +kernel
theorem dX9_fundedAt_17 : decode cX9_fundedAt 17 = .ok (.iconst 0, 1) := by decide +kernel
theorem dX9_fundedAt_18 : decode cX9_fundedAt 18 = .ok (.aload_n 0, 1) := by decide +kernel
theorem dX9_fundedAt_19 : decode cX9_fundedAt 19 = .ok (.getfield 277, 3) := by decide +kernel
theorem dX9_fundedAt_22 : decode cX9_fundedAt 22 = .ok (.iconst 1, 1) := by decide +kernel
theorem dX9_fundedAt_23 : decode cX9_fundedAt 23 = .ok (.isub, 1) := by decide +kernel
theorem dX9_fundedAt_24 : decode cX9_fundedAt 24 = .ok (.invokestatic 113, 3) := by decide +kernel
theorem dX9_fundedAt_27 : decode cX9_fundedAt 27 = .ok (.ifCond .eq 12, 3) := by decide +kernel
theorem dX9_fundedAt_30 : decode cX9_fundedAt 30 = .ok (.aload_n 0, 1) := by decide +kernel
theorem dX9_fundedAt_31 : decode cX9_fundedAt 31 = .ok (.getfield 48, 3) := by decide +kernel
theorem dX9_fundedAt_34 : decode cX9_fundedAt 34 = .ok (.iload_n 2, 1) := by decide +kernel
theorem dX9_fundedAt_35 : decode cX9_fundedAt 35 = .ok (.iaload, 1) := by decide +kernel
theorem dX9_fundedAt_36 : decode cX9_fundedAt 36 = .ok (.goto 4, 3) := by decide +kernel
theorem dX9_fundedAt_39 : decode cX9_fundedAt 39 = .ok (.iconst (-1), 1) := by decide +kernel
theorem dX9_fundedAt_40 : decode cX9_fundedAt 40 = .ok (.ireturn, 1) := by decide +kernel
theorem dX9_priceOf_0 : decode cX9_priceOf 0 = .ok (.aload_n 0, 1) := by decide +kernel
theorem dX9_priceOf_1 : decode cX9_priceOf 1 = .ok (.aload_n 0, 1) := by decide +kernel
theorem dX9_priceOf_2 : decode cX9_priceOf 2 = .ok (.iload_n 1, 1) := by decide +kernel
theorem dX9_priceOf_3 : decode cX9_priceOf 3 = .ok (.invokevirtual 240, 3) := by decide +kernel
theorem dX9_priceOf_6 : decode cX9_priceOf 6 = .ok (.invokevirtual 236, 3) := by decide +kernel
theorem dX9_priceOf_9 : decode cX9_priceOf 9 = .ok (.ifCond .eq 5, 3) := by decide +kernel
theorem dX9_priceOf_12 : decode cX9_priceOf 12 = .ok (.iconst 0, 1) := by decide +kernel
theorem dX9_priceOf_13 : decode cX9_priceOf 13 = .ok (.ireturn, 1) := by decide +kernel
theorem dX9_priceOf_14 : decode cX9_priceOf 14 = .ok (.aload_n 0, 1) := by decide +kernel
theorem dX9_priceOf_15 : decode cX9_priceOf 15 = .ok (.invokevirtual 335, 3) := by decide +kernel
theorem dX9_priceOf_18 : decode cX9_priceOf 18 = .ok (.aload_n 0, 1) := by decide +kernel
theorem dX9_priceOf_19 : decode cX9_priceOf 19 = .ok (.getfield 51, 3) := by decide +kernel
theorem dX9_priceOf_22 : decode cX9_priceOf 22 = .ok (.iload_n 1, 1) := by decide +kernel
theorem dX9_priceOf_23 : decode cX9_priceOf 23 = .ok (.iaload, 1) := by decide +kernel
theorem dX9_priceOf_24 : decode cX9_priceOf 24 = .ok (.ireturn, 1) := by decide +kernel
theorem dX9_paidBy_0 : decode cX9_paidBy 0 = .ok (.aload_n 0, 1) := by decide +kernel
theorem dX9_paidBy_1 : decode cX9_paidBy 1 = .ok (.aload_n 0, 1) := by decide +kernel
theorem dX9_paidBy_2 : decode cX9_paidBy 2 = .ok (.iload_n 1, 1) := by decide +kernel
theorem dX9_paidBy_3 : decode cX9_paidBy 3 = .ok (.invokevirtual 240, 3) := by decide +kernel
theorem dX9_paidBy_6 : decode cX9_paidBy 6 = .ok (.ifCond .eq 15, 3) := by decide +kernel
theorem dX9_paidBy_9 : decode cX9_paidBy 9 = .ok (.aload_n 0, 1) := by decide +kernel
theorem dX9_paidBy_10 : decode cX9_paidBy 10 = .ok (.iload_n 2, 1) := by decide +kernel
theorem dX9_paidBy_11 : decode cX9_paidBy 11 = .ok (.invokevirtual 243, 3) := by decide +kernel
theorem dX9_paidBy_14 : decode cX9_paidBy 14 = .ok (.ifCond .eq 7, 3) := by decide +kernel
theorem dX9_paidBy_17 : decode cX9_paidBy 17 = .ok (.iconst 1, 1) := by decide +kernel
theorem dX9_paidBy_18 : decode cX9_paidBy 18 = .ok (.goto 4, 3) := by decide +kernel
theorem dX9_paidBy_21 : decode cX9_paidBy 21 = .ok (.iconst 0, 1) := by decide +kernel
theorem dX9_paidBy_22 : decode cX9_paidBy 22 = .ok (.invokevirtual 236, 3) := by decide +kernel
theorem dX9_paidBy_25 : decode cX9_paidBy 25 = .ok (.ifCond .eq 5, 3) := by decide +kernel
theorem dX9_paidBy_28 : decode cX9_paidBy 28 = .ok (.iconst 0, 1) := by decide +kernel
theorem dX9_paidBy_29 : decode cX9_paidBy 29 = .ok (.ireturn, 1) := by decide +kernel
theorem dX9_paidBy_30 : decode cX9_paidBy 30 = .ok (.aload_n 0, 1) := by decide +kernel
theorem dX9_paidBy_31 : decode cX9_paidBy 31 = .ok (.invokevirtual 335, 3) := by decide +kernel
theorem dX9_paidBy_34 : decode cX9_paidBy 34 = .ok (.aload_n 0, 1) := by decide +kernel
theorem dX9_paidBy_35 : decode cX9_paidBy 35 = .ok (.getfield 54, 3) := by decide +kernel
theorem dX9_paidBy_38 : decode cX9_paidBy 38 = .ok (.bipush 24, 2) := by decide +kernel
theorem dX9_paidBy_40 : decode cX9_paidBy 40 = .ok (.iload_n 1, 1) := by decide +kernel
theorem dX9_paidBy_41 : decode cX9_paidBy 41 = .ok (.imul, 1) := by decide +kernel
theorem dX9_paidBy_42 : decode cX9_paidBy 42 = .ok (.iload_n 2, 1) := by decide +kernel
theorem dX9_paidBy_43 : decode cX9_paidBy 43 = .ok (.iadd, 1) := by decide +kernel
theorem dX9_paidBy_44 : decode cX9_paidBy 44 = .ok (.iaload, 1) := by decide +kernel
theorem dX9_paidBy_45 : decode cX9_paidBy 45 = .ok (.ireturn, 1) := by decide +kernel
theorem dX9_lays_0 : decode cX9_lays 0 = .ok (.iload_n 1, 1) := by decide +kernel
theorem dX9_lays_1 : decode cX9_lays 1 = .ok (.iconst 0, 1) := by decide +kernel
theorem dX9_lays_2 : decode cX9_lays 2 = .ok (.iconst 1, 1) := by decide +kernel
theorem dX9_lays_3 : decode cX9_lays 3 = .ok (.invokestatic 113, 3) := by decide +kernel
theorem dX9_lays_6 : decode cX9_lays 6 = .ok (.ifCond .eq 15, 3) := by decide +kernel
theorem dX9_lays_9 : decode cX9_lays 9 = .ok (.aload_n 0, 1) := by decide +kernel
theorem dX9_lays_10 : decode cX9_lays 10 = .ok (.iload_n 1, 1) := by decide +kernel
theorem dX9_lays_11 : decode cX9_lays 11 = .ok (.invokevirtual 341, 3) := by decide +kernel
theorem dX9_lays_14 : decode cX9_lays 14 = .ok (.ifCond .eq 7, 3) := by decide +kernel
theorem dX9_lays_17 : decode cX9_lays 17 = .ok (.iconst 1, 1) := by decide +kernel
theorem dX9_lays_18 : decode cX9_lays 18 = .ok (.goto 4, 3) := by decide +kernel
theorem dX9_lays_21 : decode cX9_lays 21 = .ok (.iconst 0, 1) := by decide +kernel
theorem dX9_lays_22 : decode cX9_lays 22 = .ok (.ireturn, 1) := by decide +kernel
theorem dX9_paidFrom_0 : decode cX9_paidFrom 0 = .ok (.aload_n 0, 1) := by decide +kernel
theorem dX9_paidFrom_1 : decode cX9_paidFrom 1 = .ok (.aload_n 0, 1) := by decide +kernel
theorem dX9_paidFrom_2 : decode cX9_paidFrom 2 = .ok (.iload_n 2, 1) := by decide +kernel
theorem dX9_paidFrom_3 : decode cX9_paidFrom 3 = .ok (.invokevirtual 240, 3) := by decide +kernel
theorem dX9_paidFrom_6 : decode cX9_paidFrom 6 = .ok (.ifCond .eq 15, 3) := by decide +kernel
theorem dX9_paidFrom_9 : decode cX9_paidFrom 9 = .ok (.aload_n 0, 1) := by decide +kernel
theorem dX9_paidFrom_10 : decode cX9_paidFrom 10 = .ok (.iload_n 3, 1) := by decide +kernel
theorem dX9_paidFrom_11 : decode cX9_paidFrom 11 = .ok (.invokevirtual 232, 3) := by decide +kernel
theorem dX9_paidFrom_14 : decode cX9_paidFrom 14 = .ok (.ifCond .eq 7, 3) := by decide +kernel
theorem dX9_paidFrom_17 : decode cX9_paidFrom 17 = .ok (.iconst 1, 1) := by decide +kernel
theorem dX9_paidFrom_18 : decode cX9_paidFrom 18 = .ok (.goto 4, 3) := by decide +kernel
theorem dX9_paidFrom_21 : decode cX9_paidFrom 21 = .ok (.iconst 0, 1) := by decide +kernel
theorem dX9_paidFrom_22 : decode cX9_paidFrom 22 = .ok (.invokevirtual 236, 3) := by decide +kernel
theorem dX9_paidFrom_25 : decode cX9_paidFrom 25 = .ok (.ifCond .eq 5, 3) := by decide +kernel
theorem dX9_paidFrom_28 : decode cX9_paidFrom 28 = .ok (.iconst 0, 1) := by decide +kernel
theorem dX9_paidFrom_29 : decode cX9_paidFrom 29 = .ok (.ireturn, 1) := by decide +kernel
theorem dX9_paidFrom_30 : decode cX9_paidFrom 30 = .ok (.aload_n 0, 1) := by decide +kernel
theorem dX9_paidFrom_31 : decode cX9_paidFrom 31 = .ok (.iload_n 1, 1) := by decide +kernel
theorem dX9_paidFrom_32 : decode cX9_paidFrom 32 = .ok (.invokevirtual 344, 3) := by decide +kernel
theorem dX9_paidFrom_35 : decode cX9_paidFrom 35 = .ok (.ifCond .eq 16, 3) := by decide +kernel
theorem dX9_paidFrom_38 : decode cX9_paidFrom 38 = .ok (.aload_n 0, 1) := by decide +kernel
theorem dX9_paidFrom_39 : decode cX9_paidFrom 39 = .ok (.getfield 57, 3) := by decide +kernel
theorem dX9_paidFrom_42 : decode cX9_paidFrom 42 = .ok (.iconst 4, 1) := by decide +kernel
theorem dX9_paidFrom_43 : decode cX9_paidFrom 43 = .ok (.iload_n 2, 1) := by decide +kernel
theorem dX9_paidFrom_44 : decode cX9_paidFrom 44 = .ok (.imul, 1) := by decide +kernel
theorem dX9_paidFrom_45 : decode cX9_paidFrom 45 = .ok (.iload_n 3, 1) := by decide +kernel
theorem dX9_paidFrom_46 : decode cX9_paidFrom 46 = .ok (.iadd, 1) := by decide +kernel
theorem dX9_paidFrom_47 : decode cX9_paidFrom 47 = .ok (.iaload, 1) := by decide +kernel
theorem dX9_paidFrom_48 : decode cX9_paidFrom 48 = .ok (.goto 5, 3) := by decide +kernel
theorem dX9_paidFrom_51 : decode cX9_paidFrom 51 = .ok (.bipush (-2), 2) := by decide +kernel
theorem dX9_paidFrom_53 : decode cX9_paidFrom 53 = .ok (.ireturn, 1) := by decide +kernel
theorem dX9_leftOf_0 : decode cX9_leftOf 0 = .ok (.aload_n 0, 1) := by decide +kernel
theorem dX9_leftOf_1 : decode cX9_leftOf 1 = .ok (.aload_n 0, 1) := by decide +kernel
theorem dX9_leftOf_2 : decode cX9_leftOf 2 = .ok (.iload_n 2, 1) := by decide +kernel
theorem dX9_leftOf_3 : decode cX9_leftOf 3 = .ok (.invokevirtual 232, 3) := by decide +kernel
theorem dX9_leftOf_6 : decode cX9_leftOf 6 = .ok (.invokevirtual 236, 3) := by decide +kernel
theorem dX9_leftOf_9 : decode cX9_leftOf 9 = .ok (.ifCond .eq 5, 3) := by decide +kernel
theorem dX9_leftOf_12 : decode cX9_leftOf 12 = .ok (.iconst 0, 1) := by decide +kernel
theorem dX9_leftOf_13 : decode cX9_leftOf 13 = .ok (.ireturn, 1) := by decide +kernel
theorem dX9_leftOf_14 : decode cX9_leftOf 14 = .ok (.aload_n 0, 1) := by decide +kernel
theorem dX9_leftOf_15 : decode cX9_leftOf 15 = .ok (.iload_n 1, 1) := by decide +kernel
theorem dX9_leftOf_16 : decode cX9_leftOf 16 = .ok (.invokevirtual 344, 3) := by decide +kernel
theorem dX9_leftOf_19 : decode cX9_leftOf 19 = .ok (.ifCond .eq 21, 3) := by decide +kernel
theorem dX9_leftOf_22 : decode cX9_leftOf 22 = .ok (.aload_n 0, 1) := by decide +kernel
theorem dX9_leftOf_23 : decode cX9_leftOf 23 = .ok (.getfield 7, 3) := by decide +kernel
theorem dX9_leftOf_26 : decode cX9_leftOf 26 = .ok (.iconst 4, 1) := by decide +kernel
theorem dX9_leftOf_27 : decode cX9_leftOf 27 = .ok (.iload_n 2, 1) := by decide +kernel
theorem dX9_leftOf_28 : decode cX9_leftOf 28 = .ok (.iadd, 1) := by decide +kernel
theorem dX9_leftOf_29 : decode cX9_leftOf 29 = .ok (.iaload, 1) := by decide +kernel
theorem dX9_leftOf_30 : decode cX9_leftOf 30 = .ok (.aload_n 0, 1) := by decide +kernel
theorem dX9_leftOf_31 : decode cX9_leftOf 31 = .ok (.getfield 60, 3) := by decide +kernel
theorem dX9_leftOf_34 : decode cX9_leftOf 34 = .ok (.iload_n 2, 1) := by decide +kernel
theorem dX9_leftOf_35 : decode cX9_leftOf 35 = .ok (.iaload, 1) := by decide +kernel
theorem dX9_leftOf_36 : decode cX9_leftOf 36 = .ok (.isub, 1) := by decide +kernel
theorem dX9_leftOf_37 : decode cX9_leftOf 37 = .ok (.goto 5, 3) := by decide +kernel
theorem dX9_leftOf_40 : decode cX9_leftOf 40 = .ok (.bipush (-2), 2) := by decide +kernel
theorem dX9_leftOf_42 : decode cX9_leftOf 42 = .ok (.ireturn, 1) := by decide +kernel
theorem dX9_purseLeft_0 : decode cX9_purseLeft 0 = .ok (.aload_n 0, 1) := by decide +kernel
theorem dX9_purseLeft_1 : decode cX9_purseLeft 1 = .ok (.aload_n 0, 1) := by decide +kernel
theorem dX9_purseLeft_2 : decode cX9_purseLeft 2 = .ok (.iload_n 1, 1) := by decide +kernel
theorem dX9_purseLeft_3 : decode cX9_purseLeft 3 = .ok (.invokevirtual 243, 3) := by decide +kernel
theorem dX9_purseLeft_6 : decode cX9_purseLeft 6 = .ok (.ifCond .eq 15, 3) := by decide +kernel
theorem dX9_purseLeft_9 : decode cX9_purseLeft 9 = .ok (.aload_n 0, 1) := by decide +kernel
theorem dX9_purseLeft_10 : decode cX9_purseLeft 10 = .ok (.iload_n 2, 1) := by decide +kernel
theorem dX9_purseLeft_11 : decode cX9_purseLeft 11 = .ok (.invokevirtual 232, 3) := by decide +kernel
theorem dX9_purseLeft_14 : decode cX9_purseLeft 14 = .ok (.ifCond .eq 7, 3) := by decide +kernel
theorem dX9_purseLeft_17 : decode cX9_purseLeft 17 = .ok (.iconst 1, 1) := by decide +kernel
theorem dX9_purseLeft_18 : decode cX9_purseLeft 18 = .ok (.goto 4, 3) := by decide +kernel
theorem dX9_purseLeft_21 : decode cX9_purseLeft 21 = .ok (.iconst 0, 1) := by decide +kernel
theorem dX9_purseLeft_22 : decode cX9_purseLeft 22 = .ok (.invokevirtual 236, 3) := by decide +kernel
theorem dX9_purseLeft_25 : decode cX9_purseLeft 25 = .ok (.ifCond .eq 5, 3) := by decide +kernel
theorem dX9_purseLeft_28 : decode cX9_purseLeft 28 = .ok (.iconst 0, 1) := by decide +kernel
theorem dX9_purseLeft_29 : decode cX9_purseLeft 29 = .ok (.ireturn, 1) := by decide +kernel
theorem dX9_purseLeft_30 : decode cX9_purseLeft 30 = .ok (.aload_n 0, 1) := by decide +kernel
theorem dX9_purseLeft_31 : decode cX9_purseLeft 31 = .ok (.invokevirtual 335, 3) := by decide +kernel
theorem dX9_purseLeft_34 : decode cX9_purseLeft 34 = .ok (.aload_n 0, 1) := by decide +kernel
theorem dX9_purseLeft_35 : decode cX9_purseLeft 35 = .ok (.getfield 45, 3) := by decide +kernel
theorem dX9_purseLeft_38 : decode cX9_purseLeft 38 = .ok (.iconst 4, 1) := by decide +kernel
theorem dX9_purseLeft_39 : decode cX9_purseLeft 39 = .ok (.iload_n 1, 1) := by decide +kernel
theorem dX9_purseLeft_40 : decode cX9_purseLeft 40 = .ok (.imul, 1) := by decide +kernel
theorem dX9_purseLeft_41 : decode cX9_purseLeft 41 = .ok (.iload_n 2, 1) := by decide +kernel
theorem dX9_purseLeft_42 : decode cX9_purseLeft 42 = .ok (.iadd, 1) := by decide +kernel
theorem dX9_purseLeft_43 : decode cX9_purseLeft 43 = .ok (.iaload, 1) := by decide +kernel
theorem dX9_purseLeft_44 : decode cX9_purseLeft 44 = .ok (.ireturn, 1) := by decide +kernel
theorem dX9_meansLeft_0 : decode cX9_meansLeft 0 = .ok (.aload_n 0, 1) := by decide +kernel
theorem dX9_meansLeft_1 : decode cX9_meansLeft 1 = .ok (.aload_n 0, 1) := by decide +kernel
theorem dX9_meansLeft_2 : decode cX9_meansLeft 2 = .ok (.iload_n 1, 1) := by decide +kernel
theorem dX9_meansLeft_3 : decode cX9_meansLeft 3 = .ok (.invokevirtual 240, 3) := by decide +kernel
theorem dX9_meansLeft_6 : decode cX9_meansLeft 6 = .ok (.invokevirtual 236, 3) := by decide +kernel
theorem dX9_meansLeft_9 : decode cX9_meansLeft 9 = .ok (.ifCond .eq 5, 3) := by decide +kernel
theorem dX9_meansLeft_12 : decode cX9_meansLeft 12 = .ok (.iconst 0, 1) := by decide +kernel
theorem dX9_meansLeft_13 : decode cX9_meansLeft 13 = .ok (.ireturn, 1) := by decide +kernel
theorem dX9_meansLeft_14 : decode cX9_meansLeft 14 = .ok (.aload_n 0, 1) := by decide +kernel
theorem dX9_meansLeft_15 : decode cX9_meansLeft 15 = .ok (.invokevirtual 335, 3) := by decide +kernel
theorem dX9_meansLeft_18 : decode cX9_meansLeft 18 = .ok (.aload_n 0, 1) := by decide +kernel
theorem dX9_meansLeft_19 : decode cX9_meansLeft 19 = .ok (.iload_n 1, 1) := by decide +kernel
theorem dX9_meansLeft_20 : decode cX9_meansLeft 20 = .ok (.invokevirtual 262, 3) := by decide +kernel
theorem dX9_meansLeft_23 : decode cX9_meansLeft 23 = .ok (.ireturn, 1) := by decide +kernel
theorem dX9_raises_0 : decode cX9_raises 0 = .ok (.aload_n 0, 1) := by decide +kernel
theorem dX9_raises_1 : decode cX9_raises 1 = .ok (.iconst 0, 1) := by decide +kernel
theorem dX9_raises_2 : decode cX9_raises 2 = .ok (.putfield 77, 3) := by decide +kernel
theorem dX9_raises_5 : decode cX9_raises 5 = .ok (.aload_n 0, 1) := by decide +kernel
theorem dX9_raises_6 : decode cX9_raises 6 = .ok (.invokevirtual 335, 3) := by decide +kernel
theorem dX9_raises_9 : decode cX9_raises 9 = .ok (.aload_n 0, 1) := by decide +kernel
theorem dX9_raises_10 : decode cX9_raises 10 = .ok (.getfield 307, 3) := by decide +kernel
theorem dX9_raises_13 : decode cX9_raises 13 = .ok (.ireturn, 1) := by decide +kernel
theorem dX9_many_0 : decode cX9_many 0 = .ok (.iconst 0, 1) := by decide +kernel
theorem dX9_many_1 : decode cX9_many 1 = .ok (.istore_n 2, 1) := by decide +kernel
theorem dX9_many_2 : decode cX9_many 2 = .ok (.iconst 0, 1) := by decide +kernel
theorem dX9_many_3 : decode cX9_many 3 = .ok (.istore_n 3, 1) := by decide +kernel
theorem dX9_many_4 : decode cX9_many 4 = .ok (.iload_n 3, 1) := by decide +kernel
theorem dX9_many_5 : decode cX9_many 5 = .ok (.aload_n 0, 1) := by decide +kernel
theorem dX9_many_6 : decode cX9_many 6 = .ok (.getfield 226, 3) := by decide +kernel
theorem dX9_many_9 : decode cX9_many 9 = .ok (.if_icmp .ge 25, 3) := by decide +kernel
theorem dX9_many_12 : decode cX9_many 12 = .ok (.iload_n 2, 1) := by decide +kernel
theorem dX9_many_13 : decode cX9_many 13 = .ok (.iload_n 1, 1) := by decide +kernel
theorem dX9_many_14 : decode cX9_many 14 = .ok (.iload_n 3, 1) := by decide +kernel
theorem dX9_many_15 : decode cX9_many 15 = .ok (.invokestatic 163, 3) := by decide +kernel
theorem dX9_many_18 : decode cX9_many 18 = .ok (.ifCond .eq 7, 3) := by decide +kernel
theorem dX9_many_21 : decode cX9_many 21 = .ok (.iconst 1, 1) := by decide +kernel
theorem dX9_many_22 : decode cX9_many 22 = .ok (.goto 4, 3) := by decide +kernel
theorem dX9_many_25 : decode cX9_many 25 = .ok (.iconst 0, 1) := by decide +kernel
theorem dX9_many_26 : decode cX9_many 26 = .ok (.iadd, 1) := by decide +kernel
theorem dX9_many_27 : decode cX9_many 27 = .ok (.istore_n 2, 1) := by decide +kernel
theorem dX9_many_28 : decode cX9_many 28 = .ok (.iinc 3 1, 3) := by decide +kernel
theorem dX9_many_31 : decode cX9_many 31 = .ok (.goto (-27), 3) := by decide +kernel
theorem dX9_many_34 : decode cX9_many 34 = .ok (.iload_n 2, 1) := by decide +kernel
theorem dX9_many_35 : decode cX9_many 35 = .ok (.ireturn, 1) := by decide +kernel
theorem dX9_completed_0 : decode cX9_completed 0 = .ok (.aload_n 0, 1) := by decide +kernel
theorem dX9_completed_1 : decode cX9_completed 1 = .ok (.iconst 0, 1) := by decide +kernel
theorem dX9_completed_2 : decode cX9_completed 2 = .ok (.putfield 77, 3) := by decide +kernel
theorem dX9_completed_5 : decode cX9_completed 5 = .ok (.aload_n 0, 1) := by decide +kernel
theorem dX9_completed_6 : decode cX9_completed 6 = .ok (.invokevirtual 335, 3) := by decide +kernel
theorem dX9_completed_9 : decode cX9_completed 9 = .ok (.aload_n 0, 1) := by decide +kernel
theorem dX9_completed_10 : decode cX9_completed 10 = .ok (.aload_n 0, 1) := by decide +kernel
theorem dX9_completed_11 : decode cX9_completed 11 = .ok (.getfield 274, 3) := by decide +kernel
theorem dX9_completed_14 : decode cX9_completed 14 = .ok (.aload_n 0, 1) := by decide +kernel
theorem dX9_completed_15 : decode cX9_completed 15 = .ok (.getfield 304, 3) := by decide +kernel
theorem dX9_completed_18 : decode cX9_completed 18 = .ok (.iconst (-1), 1) := by decide +kernel
theorem dX9_completed_19 : decode cX9_completed 19 = .ok (.ixor, 1) := by decide +kernel
theorem dX9_completed_20 : decode cX9_completed 20 = .ok (.iand, 1) := by decide +kernel
theorem dX9_completed_21 : decode cX9_completed 21 = .ok (.invokevirtual 347, 3) := by decide +kernel
theorem dX9_completed_24 : decode cX9_completed 24 = .ok (.ireturn, 1) := by decide +kernel
theorem dX9_totalCost_0 : decode cX9_totalCost 0 = .ok (.aload_n 0, 1) := by decide +kernel
theorem dX9_totalCost_1 : decode cX9_totalCost 1 = .ok (.iconst 0, 1) := by decide +kernel
theorem dX9_totalCost_2 : decode cX9_totalCost 2 = .ok (.putfield 77, 3) := by decide +kernel
theorem dX9_totalCost_5 : decode cX9_totalCost 5 = .ok (.aload_n 0, 1) := by decide +kernel
theorem dX9_totalCost_6 : decode cX9_totalCost 6 = .ok (.iload_n 1, 1) := by decide +kernel
theorem dX9_totalCost_7 : decode cX9_totalCost 7 = .ok (.invokevirtual 341, 3) := by decide +kernel
theorem dX9_totalCost_10 : decode cX9_totalCost 10 = .ok (.ifCond .eq 14, 3) := by decide +kernel
theorem dX9_totalCost_13 : decode cX9_totalCost 13 = .ok (.aload_n 0, 1) := by decide +kernel
theorem dX9_totalCost_14 : decode cX9_totalCost 14 = .ok (.aload_n 0, 1) := by decide +kernel
theorem dX9_totalCost_15 : decode cX9_totalCost 15 = .ok (.getfield 274, 3) := by decide +kernel
theorem dX9_totalCost_18 : decode cX9_totalCost 18 = .ok (.invokevirtual 329, 3) := by decide +kernel
theorem dX9_totalCost_21 : decode cX9_totalCost 21 = .ok (.goto 5, 3) := by decide +kernel
theorem dX9_totalCost_24 : decode cX9_totalCost 24 = .ok (.bipush (-2), 2) := by decide +kernel
theorem dX9_totalCost_26 : decode cX9_totalCost 26 = .ok (.ireturn, 1) := by decide +kernel
theorem dX9_welfare_0 : decode cX9_welfare 0 = .ok (.aload_n 0, 1) := by decide +kernel
theorem dX9_welfare_1 : decode cX9_welfare 1 = .ok (.iconst 0, 1) := by decide +kernel
theorem dX9_welfare_2 : decode cX9_welfare 2 = .ok (.putfield 77, 3) := by decide +kernel
theorem dX9_welfare_5 : decode cX9_welfare 5 = .ok (.aload_n 0, 1) := by decide +kernel
theorem dX9_welfare_6 : decode cX9_welfare 6 = .ok (.iload_n 1, 1) := by decide +kernel
theorem dX9_welfare_7 : decode cX9_welfare 7 = .ok (.invokevirtual 341, 3) := by decide +kernel
theorem dX9_welfare_10 : decode cX9_welfare 10 = .ok (.ifCond .ne 7, 3) := by decide +kernel
theorem dX9_welfare_13 : decode cX9_welfare 13 = .ok (.ldc2_w 350, 3) := by decide +kernel
theorem dX9_welfare_16 : decode cX9_welfare 16 = .ok (.lreturn, 1) := by decide +kernel
theorem dX9_welfare_17 : decode cX9_welfare 17 = .ok (.aload_n 0, 1) := by decide +kernel
theorem dX9_welfare_18 : decode cX9_welfare 18 = .ok (.invokevirtual 322, 3) := by decide +kernel
theorem dX9_welfare_21 : decode cX9_welfare 21 = .ok (.aload_n 0, 1) := by decide +kernel
theorem dX9_welfare_22 : decode cX9_welfare 22 = .ok (.aload_n 0, 1) := by decide +kernel
theorem dX9_welfare_23 : decode cX9_welfare 23 = .ok (.getfield 274, 3) := by decide +kernel
theorem dX9_welfare_26 : decode cX9_welfare 26 = .ok (.invokevirtual 325, 3) := by decide +kernel
theorem dX9_welfare_29 : decode cX9_welfare 29 = .ok (.lreturn, 1) := by decide +kernel
theorem dX9_joyOf_0 : decode cX9_joyOf 0 = .ok (.iconst 0, 1) := by decide +kernel
theorem dX9_joyOf_1 : decode cX9_joyOf 1 = .ok (.istore_n 2, 1) := by decide +kernel
theorem dX9_joyOf_2 : decode cX9_joyOf 2 = .ok (.iconst 0, 1) := by decide +kernel
theorem dX9_joyOf_3 : decode cX9_joyOf 3 = .ok (.istore_n 3, 1) := by decide +kernel
theorem dX9_joyOf_4 : decode cX9_joyOf 4 = .ok (.iload_n 3, 1) := by decide +kernel
theorem dX9_joyOf_5 : decode cX9_joyOf 5 = .ok (.aload_n 0, 1) := by decide +kernel
theorem dX9_joyOf_6 : decode cX9_joyOf 6 = .ok (.getfield 226, 3) := by decide +kernel
theorem dX9_joyOf_9 : decode cX9_joyOf 9 = .ok (.if_icmp .ge 41, 3) := by decide +kernel
theorem dX9_joyOf_12 : decode cX9_joyOf 12 = .ok (.iload_n 2, 1) := by decide +kernel
theorem dX9_joyOf_13 : decode cX9_joyOf 13 = .ok (.aload_n 0, 1) := by decide +kernel
theorem dX9_joyOf_14 : decode cX9_joyOf 14 = .ok (.getfield 274, 3) := by decide +kernel
theorem dX9_joyOf_17 : decode cX9_joyOf 17 = .ok (.iload_n 3, 1) := by decide +kernel
theorem dX9_joyOf_18 : decode cX9_joyOf 18 = .ok (.invokestatic 163, 3) := by decide +kernel
theorem dX9_joyOf_21 : decode cX9_joyOf 21 = .ok (.ifCond .eq 20, 3) := by decide +kernel
theorem dX9_joyOf_24 : decode cX9_joyOf 24 = .ok (.aload_n 0, 1) := by decide +kernel
theorem dX9_joyOf_25 : decode cX9_joyOf 25 = .ok (.iload_n 1, 1) := by decide +kernel
theorem dX9_joyOf_26 : decode cX9_joyOf 26 = .ok (.iload_n 3, 1) := by decide +kernel
theorem dX9_joyOf_27 : decode cX9_joyOf 27 = .ok (.invokevirtual 246, 3) := by decide +kernel
theorem dX9_joyOf_30 : decode cX9_joyOf 30 = .ok (.ifCond .eq 11, 3) := by decide +kernel
theorem dX9_joyOf_33 : decode cX9_joyOf 33 = .ok (.aload_n 0, 1) := by decide +kernel
theorem dX9_joyOf_34 : decode cX9_joyOf 34 = .ok (.iload_n 3, 1) := by decide +kernel
theorem dX9_joyOf_35 : decode cX9_joyOf 35 = .ok (.invokevirtual 319, 3) := by decide +kernel
theorem dX9_joyOf_38 : decode cX9_joyOf 38 = .ok (.goto 4, 3) := by decide +kernel
theorem dX9_joyOf_41 : decode cX9_joyOf 41 = .ok (.iconst 0, 1) := by decide +kernel
theorem dX9_joyOf_42 : decode cX9_joyOf 42 = .ok (.iadd, 1) := by decide +kernel
theorem dX9_joyOf_43 : decode cX9_joyOf 43 = .ok (.istore_n 2, 1) := by decide +kernel
theorem dX9_joyOf_44 : decode cX9_joyOf 44 = .ok (.iinc 3 1, 3) := by decide +kernel
theorem dX9_joyOf_47 : decode cX9_joyOf 47 = .ok (.goto (-43), 3) := by decide +kernel
theorem dX9_joyOf_50 : decode cX9_joyOf 50 = .ok (.iload_n 2, 1) := by decide +kernel
theorem dX9_joyOf_51 : decode cX9_joyOf 51 = .ok (.ireturn, 1) := by decide +kernel
theorem dX9_satisfaction_0 : decode cX9_satisfaction 0 = .ok (.aload_n 0, 1) := by decide +kernel
theorem dX9_satisfaction_1 : decode cX9_satisfaction 1 = .ok (.aload_n 0, 1) := by decide +kernel
theorem dX9_satisfaction_2 : decode cX9_satisfaction 2 = .ok (.iload_n 2, 1) := by decide +kernel
theorem dX9_satisfaction_3 : decode cX9_satisfaction 3 = .ok (.invokevirtual 243, 3) := by decide +kernel
theorem dX9_satisfaction_6 : decode cX9_satisfaction 6 = .ok (.invokevirtual 236, 3) := by decide +kernel
theorem dX9_satisfaction_9 : decode cX9_satisfaction 9 = .ok (.ifCond .eq 5, 3) := by decide +kernel
theorem dX9_satisfaction_12 : decode cX9_satisfaction 12 = .ok (.iconst 0, 1) := by decide +kernel
theorem dX9_satisfaction_13 : decode cX9_satisfaction 13 = .ok (.ireturn, 1) := by decide +kernel
theorem dX9_satisfaction_14 : decode cX9_satisfaction 14 = .ok (.aload_n 0, 1) := by decide +kernel
theorem dX9_satisfaction_15 : decode cX9_satisfaction 15 = .ok (.iload_n 1, 1) := by decide +kernel
theorem dX9_satisfaction_16 : decode cX9_satisfaction 16 = .ok (.invokevirtual 341, 3) := by decide +kernel
theorem dX9_satisfaction_19 : decode cX9_satisfaction 19 = .ok (.ifCond .eq 11, 3) := by decide +kernel
theorem dX9_satisfaction_22 : decode cX9_satisfaction 22 = .ok (.aload_n 0, 1) := by decide +kernel
theorem dX9_satisfaction_23 : decode cX9_satisfaction 23 = .ok (.iload_n 2, 1) := by decide +kernel
theorem dX9_satisfaction_24 : decode cX9_satisfaction 24 = .ok (.invokevirtual 352, 3) := by decide +kernel
theorem dX9_satisfaction_27 : decode cX9_satisfaction 27 = .ok (.goto 5, 3) := by decide +kernel
theorem dX9_satisfaction_30 : decode cX9_satisfaction 30 = .ok (.bipush (-2), 2) := by decide +kernel
theorem dX9_satisfaction_32 : decode cX9_satisfaction 32 = .ok (.ireturn, 1) := by decide +kernel
theorem dX9_worstOff_0 : decode cX9_worstOff 0 = .ok (.aload_n 0, 1) := by decide +kernel
theorem dX9_worstOff_1 : decode cX9_worstOff 1 = .ok (.iconst 0, 1) := by decide +kernel
theorem dX9_worstOff_2 : decode cX9_worstOff 2 = .ok (.putfield 77, 3) := by decide +kernel
theorem dX9_worstOff_5 : decode cX9_worstOff 5 = .ok (.aload_n 0, 1) := by decide +kernel
theorem dX9_worstOff_6 : decode cX9_worstOff 6 = .ok (.iload_n 1, 1) := by decide +kernel
theorem dX9_worstOff_7 : decode cX9_worstOff 7 = .ok (.invokevirtual 341, 3) := by decide +kernel
theorem dX9_worstOff_10 : decode cX9_worstOff 10 = .ok (.ifCond .ne 6, 3) := by decide +kernel
theorem dX9_worstOff_13 : decode cX9_worstOff 13 = .ok (.bipush (-2), 2) := by decide +kernel
theorem dX9_worstOff_15 : decode cX9_worstOff 15 = .ok (.ireturn, 1) := by decide +kernel
theorem dX9_worstOff_16 : decode cX9_worstOff 16 = .ok (.iconst (-1), 1) := by decide +kernel
theorem dX9_worstOff_17 : decode cX9_worstOff 17 = .ok (.istore_n 2, 1) := by decide +kernel
theorem dX9_worstOff_18 : decode cX9_worstOff 18 = .ok (.iconst 0, 1) := by decide +kernel
theorem dX9_worstOff_19 : decode cX9_worstOff 19 = .ok (.istore_n 3, 1) := by decide +kernel
theorem dX9_worstOff_20 : decode cX9_worstOff 20 = .ok (.iload_n 3, 1) := by decide +kernel
theorem dX9_worstOff_21 : decode cX9_worstOff 21 = .ok (.aload_n 0, 1) := by decide +kernel
theorem dX9_worstOff_22 : decode cX9_worstOff 22 = .ok (.getfield 229, 3) := by decide +kernel
theorem dX9_worstOff_25 : decode cX9_worstOff 25 = .ok (.if_icmp .ge 28, 3) := by decide +kernel
theorem dX9_worstOff_28 : decode cX9_worstOff 28 = .ok (.iload_n 2, 1) := by decide +kernel
theorem dX9_worstOff_29 : decode cX9_worstOff 29 = .ok (.ifCond .lt 16, 3) := by decide +kernel
theorem dX9_worstOff_32 : decode cX9_worstOff 32 = .ok (.aload_n 0, 1) := by decide +kernel
theorem dX9_worstOff_33 : decode cX9_worstOff 33 = .ok (.iload_n 3, 1) := by decide +kernel
theorem dX9_worstOff_34 : decode cX9_worstOff 34 = .ok (.invokevirtual 352, 3) := by decide +kernel
theorem dX9_worstOff_37 : decode cX9_worstOff 37 = .ok (.aload_n 0, 1) := by decide +kernel
theorem dX9_worstOff_38 : decode cX9_worstOff 38 = .ok (.iload_n 2, 1) := by decide +kernel
theorem dX9_worstOff_39 : decode cX9_worstOff 39 = .ok (.invokevirtual 352, 3) := by decide +kernel
theorem dX9_worstOff_42 : decode cX9_worstOff 42 = .ok (.if_icmp .ge 5, 3) := by decide +kernel
theorem dX9_worstOff_45 : decode cX9_worstOff 45 = .ok (.iload_n 3, 1) := by decide +kernel
theorem dX9_worstOff_46 : decode cX9_worstOff 46 = .ok (.istore_n 2, 1) := by decide +kernel
theorem dX9_worstOff_47 : decode cX9_worstOff 47 = .ok (.iinc 3 1, 3) := by decide +kernel
theorem dX9_worstOff_50 : decode cX9_worstOff 50 = .ok (.goto (-30), 3) := by decide +kernel
theorem dX9_worstOff_53 : decode cX9_worstOff 53 = .ok (.iload_n 2, 1) := by decide +kernel
theorem dX9_worstOff_54 : decode cX9_worstOff 54 = .ok (.ireturn, 1) := by decide +kernel
theorem dX9_isLeftOut_0 : decode cX9_isLeftOut 0 = .ok (.iconst 0, 1) := by decide +kernel
theorem dX9_isLeftOut_1 : decode cX9_isLeftOut 1 = .ok (.istore_n 2, 1) := by decide +kernel
theorem dX9_isLeftOut_2 : decode cX9_isLeftOut 2 = .ok (.iload_n 2, 1) := by decide +kernel
theorem dX9_isLeftOut_3 : decode cX9_isLeftOut 3 = .ok (.aload_n 0, 1) := by decide +kernel
theorem dX9_isLeftOut_4 : decode cX9_isLeftOut 4 = .ok (.getfield 226, 3) := by decide +kernel
theorem dX9_isLeftOut_7 : decode cX9_isLeftOut 7 = .ok (.if_icmp .ge 31, 3) := by decide +kernel
theorem dX9_isLeftOut_10 : decode cX9_isLeftOut 10 = .ok (.aload_n 0, 1) := by decide +kernel
theorem dX9_isLeftOut_11 : decode cX9_isLeftOut 11 = .ok (.getfield 274, 3) := by decide +kernel
theorem dX9_isLeftOut_14 : decode cX9_isLeftOut 14 = .ok (.iload_n 2, 1) := by decide +kernel
theorem dX9_isLeftOut_15 : decode cX9_isLeftOut 15 = .ok (.invokestatic 163, 3) := by decide +kernel
theorem dX9_isLeftOut_18 : decode cX9_isLeftOut 18 = .ok (.ifCond .eq 14, 3) := by decide +kernel
theorem dX9_isLeftOut_21 : decode cX9_isLeftOut 21 = .ok (.aload_n 0, 1) := by decide +kernel
theorem dX9_isLeftOut_22 : decode cX9_isLeftOut 22 = .ok (.iload_n 1, 1) := by decide +kernel
theorem dX9_isLeftOut_23 : decode cX9_isLeftOut 23 = .ok (.iload_n 2, 1) := by decide +kernel
theorem dX9_isLeftOut_24 : decode cX9_isLeftOut 24 = .ok (.invokevirtual 246, 3) := by decide +kernel
theorem dX9_isLeftOut_27 : decode cX9_isLeftOut 27 = .ok (.ifCond .eq 5, 3) := by decide +kernel
theorem dX9_isLeftOut_30 : decode cX9_isLeftOut 30 = .ok (.iconst 0, 1) := by decide +kernel
theorem dX9_isLeftOut_31 : decode cX9_isLeftOut 31 = .ok (.ireturn, 1) := by decide +kernel
theorem dX9_isLeftOut_32 : decode cX9_isLeftOut 32 = .ok (.iinc 2 1, 3) := by decide +kernel
theorem dX9_isLeftOut_35 : decode cX9_isLeftOut 35 = .ok (.goto (-33), 3) := by decide +kernel
theorem dX9_isLeftOut_38 : decode cX9_isLeftOut 38 = .ok (.iconst 1, 1) := by decide +kernel
theorem dX9_isLeftOut_39 : decode cX9_isLeftOut 39 = .ok (.ireturn, 1) := by decide +kernel
theorem dX9_leftOut_0 : decode cX9_leftOut 0 = .ok (.aload_n 0, 1) := by decide +kernel
theorem dX9_leftOut_1 : decode cX9_leftOut 1 = .ok (.iconst 0, 1) := by decide +kernel
theorem dX9_leftOut_2 : decode cX9_leftOut 2 = .ok (.putfield 77, 3) := by decide +kernel
theorem dX9_leftOut_5 : decode cX9_leftOut 5 = .ok (.aload_n 0, 1) := by decide +kernel
theorem dX9_leftOut_6 : decode cX9_leftOut 6 = .ok (.iload_n 1, 1) := by decide +kernel
theorem dX9_leftOut_7 : decode cX9_leftOut 7 = .ok (.invokevirtual 341, 3) := by decide +kernel
theorem dX9_leftOut_10 : decode cX9_leftOut 10 = .ok (.ifCond .ne 6, 3) := by decide +kernel
theorem dX9_leftOut_13 : decode cX9_leftOut 13 = .ok (.bipush (-2), 2) := by decide +kernel
theorem dX9_leftOut_15 : decode cX9_leftOut 15 = .ok (.ireturn, 1) := by decide +kernel
theorem dX9_leftOut_16 : decode cX9_leftOut 16 = .ok (.iconst 0, 1) := by decide +kernel
theorem dX9_leftOut_17 : decode cX9_leftOut 17 = .ok (.istore_n 2, 1) := by decide +kernel
theorem dX9_leftOut_18 : decode cX9_leftOut 18 = .ok (.iconst 0, 1) := by decide +kernel
theorem dX9_leftOut_19 : decode cX9_leftOut 19 = .ok (.istore_n 3, 1) := by decide +kernel
theorem dX9_leftOut_20 : decode cX9_leftOut 20 = .ok (.iload_n 3, 1) := by decide +kernel
theorem dX9_leftOut_21 : decode cX9_leftOut 21 = .ok (.aload_n 0, 1) := by decide +kernel
theorem dX9_leftOut_22 : decode cX9_leftOut 22 = .ok (.getfield 229, 3) := by decide +kernel
theorem dX9_leftOut_25 : decode cX9_leftOut 25 = .ok (.if_icmp .ge 27, 3) := by decide +kernel
theorem dX9_leftOut_28 : decode cX9_leftOut 28 = .ok (.iload_n 2, 1) := by decide +kernel
theorem dX9_leftOut_29 : decode cX9_leftOut 29 = .ok (.aload_n 0, 1) := by decide +kernel
theorem dX9_leftOut_30 : decode cX9_leftOut 30 = .ok (.iload_n 3, 1) := by decide +kernel
theorem dX9_leftOut_31 : decode cX9_leftOut 31 = .ok (.invokevirtual 355, 3) := by decide +kernel
theorem dX9_leftOut_34 : decode cX9_leftOut 34 = .ok (.ifCond .eq 9, 3) := by decide +kernel
theorem dX9_leftOut_37 : decode cX9_leftOut 37 = .ok (.iconst 1, 1) := by decide +kernel
theorem dX9_leftOut_38 : decode cX9_leftOut 38 = .ok (.iload_n 3, 1) := by decide +kernel
theorem dX9_leftOut_39 : decode cX9_leftOut 39 = .ok (.ishl, 1) := by decide +kernel
theorem dX9_leftOut_40 : decode cX9_leftOut 40 = .ok (.goto 4, 3) := by decide +kernel
theorem dX9_leftOut_43 : decode cX9_leftOut 43 = .ok (.iconst 0, 1) := by decide +kernel
theorem dX9_leftOut_44 : decode cX9_leftOut 44 = .ok (.ior, 1) := by decide +kernel
theorem dX9_leftOut_45 : decode cX9_leftOut 45 = .ok (.istore_n 2, 1) := by decide +kernel
theorem dX9_leftOut_46 : decode cX9_leftOut 46 = .ok (.iinc 3 1, 3) := by decide +kernel
theorem dX9_leftOut_49 : decode cX9_leftOut 49 = .ok (.goto (-29), 3) := by decide +kernel
theorem dX9_leftOut_52 : decode cX9_leftOut 52 = .ok (.iload_n 2, 1) := by decide +kernel
theorem dX9_leftOut_53 : decode cX9_leftOut 53 = .ok (.ireturn, 1) := by decide +kernel
theorem dX9_claimNow_0 : decode cX9_claimNow 0 = .ok (.iconst 0, 1) := by decide +kernel
theorem dX9_claimNow_1 : decode cX9_claimNow 1 = .ok (.istore_n 2, 1) := by decide +kernel
theorem dX9_claimNow_2 : decode cX9_claimNow 2 = .ok (.iconst 0, 1) := by decide +kernel
theorem dX9_claimNow_3 : decode cX9_claimNow 3 = .ok (.istore_n 3, 1) := by decide +kernel
theorem dX9_claimNow_4 : decode cX9_claimNow 4 = .ok (.iload_n 3, 1) := by decide +kernel
theorem dX9_claimNow_5 : decode cX9_claimNow 5 = .ok (.aload_n 0, 1) := by decide +kernel
theorem dX9_claimNow_6 : decode cX9_claimNow 6 = .ok (.getfield 229, 3) := by decide +kernel
theorem dX9_claimNow_9 : decode cX9_claimNow 9 = .ok (.if_icmp .ge 75, 3) := by decide +kernel
theorem dX9_claimNow_12 : decode cX9_claimNow 12 = .ok (.aload_n 0, 1) := by decide +kernel
theorem dX9_claimNow_13 : decode cX9_claimNow 13 = .ok (.iload_n 3, 1) := by decide +kernel
theorem dX9_claimNow_14 : decode cX9_claimNow 14 = .ok (.iload_n 1, 1) := by decide +kernel
theorem dX9_claimNow_15 : decode cX9_claimNow 15 = .ok (.invokevirtual 246, 3) := by decide +kernel
theorem dX9_claimNow_18 : decode cX9_claimNow 18 = .ok (.ifCond .eq 60, 3) := by decide +kernel
theorem dX9_claimNow_21 : decode cX9_claimNow 21 = .ok (.aload_n 0, 1) := by decide +kernel
theorem dX9_claimNow_22 : decode cX9_claimNow 22 = .ok (.iload_n 3, 1) := by decide +kernel
theorem dX9_claimNow_23 : decode cX9_claimNow 23 = .ok (.invokevirtual 355, 3) := by decide +kernel
theorem dX9_claimNow_26 : decode cX9_claimNow 26 = .ok (.ifCond .ne 6, 3) := by decide +kernel
theorem dX9_claimNow_29 : decode cX9_claimNow 29 = .ok (.goto 49, 3) := by decide +kernel
theorem dX9_claimNow_32 : decode cX9_claimNow 32 = .ok (.iconst 0, 1) := by decide +kernel
theorem dX9_claimNow_33 : decode cX9_claimNow 33 = .ok (.istore 4, 2) := by decide +kernel
theorem dX9_claimNow_35 : decode cX9_claimNow 35 = .ok (.iload 4, 2) := by decide +kernel
theorem dX9_claimNow_37 : decode cX9_claimNow 37 = .ok (.aload_n 0, 1) := by decide +kernel
theorem dX9_claimNow_38 : decode cX9_claimNow 38 = .ok (.getfield 223, 3) := by decide +kernel
theorem dX9_claimNow_41 : decode cX9_claimNow 41 = .ok (.if_icmp .ge 37, 3) := by decide +kernel
theorem dX9_claimNow_44 : decode cX9_claimNow 44 = .ok (.iload_n 2, 1) := by decide +kernel
theorem dX9_claimNow_45 : decode cX9_claimNow 45 = .ok (.aload_n 0, 1) := by decide +kernel
theorem dX9_claimNow_46 : decode cX9_claimNow 46 = .ok (.getfield 25, 3) := by decide +kernel
theorem dX9_claimNow_49 : decode cX9_claimNow 49 = .ok (.iload_n 1, 1) := by decide +kernel
theorem dX9_claimNow_50 : decode cX9_claimNow 50 = .ok (.iaload, 1) := by decide +kernel
theorem dX9_claimNow_51 : decode cX9_claimNow 51 = .ok (.iload 4, 2) := by decide +kernel
theorem dX9_claimNow_53 : decode cX9_claimNow 53 = .ok (.invokestatic 163, 3) := by decide +kernel
theorem dX9_claimNow_56 : decode cX9_claimNow 56 = .ok (.ifCond .eq 13, 3) := by decide +kernel
theorem dX9_claimNow_59 : decode cX9_claimNow 59 = .ok (.aload_n 0, 1) := by decide +kernel
theorem dX9_claimNow_60 : decode cX9_claimNow 60 = .ok (.iload_n 3, 1) := by decide +kernel
theorem dX9_claimNow_61 : decode cX9_claimNow 61 = .ok (.iload 4, 2) := by decide +kernel
theorem dX9_claimNow_63 : decode cX9_claimNow 63 = .ok (.invokevirtual 252, 3) := by decide +kernel
theorem dX9_claimNow_66 : decode cX9_claimNow 66 = .ok (.goto 4, 3) := by decide +kernel
theorem dX9_claimNow_69 : decode cX9_claimNow 69 = .ok (.iconst 0, 1) := by decide +kernel
theorem dX9_claimNow_70 : decode cX9_claimNow 70 = .ok (.iadd, 1) := by decide +kernel
theorem dX9_claimNow_71 : decode cX9_claimNow 71 = .ok (.istore_n 2, 1) := by decide +kernel
theorem dX9_claimNow_72 : decode cX9_claimNow 72 = .ok (.iinc 4 1, 3) := by decide +kernel
theorem dX9_claimNow_75 : decode cX9_claimNow 75 = .ok (.goto (-40), 3) := by decide +kernel
theorem dX9_claimNow_78 : decode cX9_claimNow 78 = .ok (.iinc 3 1, 3) := by decide +kernel
theorem dX9_claimNow_81 : decode cX9_claimNow 81 = .ok (.goto (-77), 3) := by decide +kernel
theorem dX9_claimNow_84 : decode cX9_claimNow 84 = .ok (.iload_n 2, 1) := by decide +kernel
theorem dX9_claimNow_85 : decode cX9_claimNow 85 = .ok (.ireturn, 1) := by decide +kernel
theorem dX9_claimOf_0 : decode cX9_claimOf 0 = .ok (.aload_n 0, 1) := by decide +kernel
theorem dX9_claimOf_1 : decode cX9_claimOf 1 = .ok (.aload_n 0, 1) := by decide +kernel
theorem dX9_claimOf_2 : decode cX9_claimOf 2 = .ok (.iload_n 2, 1) := by decide +kernel
theorem dX9_claimOf_3 : decode cX9_claimOf 3 = .ok (.invokevirtual 240, 3) := by decide +kernel
theorem dX9_claimOf_6 : decode cX9_claimOf 6 = .ok (.invokevirtual 236, 3) := by decide +kernel
theorem dX9_claimOf_9 : decode cX9_claimOf 9 = .ok (.ifCond .eq 5, 3) := by decide +kernel
theorem dX9_claimOf_12 : decode cX9_claimOf 12 = .ok (.iconst 0, 1) := by decide +kernel
theorem dX9_claimOf_13 : decode cX9_claimOf 13 = .ok (.ireturn, 1) := by decide +kernel
theorem dX9_claimOf_14 : decode cX9_claimOf 14 = .ok (.aload_n 0, 1) := by decide +kernel
theorem dX9_claimOf_15 : decode cX9_claimOf 15 = .ok (.iload_n 1, 1) := by decide +kernel
theorem dX9_claimOf_16 : decode cX9_claimOf 16 = .ok (.invokevirtual 341, 3) := by decide +kernel
theorem dX9_claimOf_19 : decode cX9_claimOf 19 = .ok (.ifCond .eq 11, 3) := by decide +kernel
theorem dX9_claimOf_22 : decode cX9_claimOf 22 = .ok (.aload_n 0, 1) := by decide +kernel
theorem dX9_claimOf_23 : decode cX9_claimOf 23 = .ok (.iload_n 2, 1) := by decide +kernel
theorem dX9_claimOf_24 : decode cX9_claimOf 24 = .ok (.invokevirtual 358, 3) := by decide +kernel
theorem dX9_claimOf_27 : decode cX9_claimOf 27 = .ok (.goto 5, 3) := by decide +kernel
theorem dX9_claimOf_30 : decode cX9_claimOf 30 = .ok (.bipush (-2), 2) := by decide +kernel
theorem dX9_claimOf_32 : decode cX9_claimOf 32 = .ok (.ireturn, 1) := by decide +kernel
theorem dX9_unjust_0 : decode cX9_unjust 0 = .ok (.aload_n 0, 1) := by decide +kernel
theorem dX9_unjust_1 : decode cX9_unjust 1 = .ok (.iconst 0, 1) := by decide +kernel
theorem dX9_unjust_2 : decode cX9_unjust 2 = .ok (.putfield 77, 3) := by decide +kernel
theorem dX9_unjust_5 : decode cX9_unjust 5 = .ok (.aload_n 0, 1) := by decide +kernel
theorem dX9_unjust_6 : decode cX9_unjust 6 = .ok (.iload_n 1, 1) := by decide +kernel
theorem dX9_unjust_7 : decode cX9_unjust 7 = .ok (.invokevirtual 341, 3) := by decide +kernel
theorem dX9_unjust_10 : decode cX9_unjust 10 = .ok (.ifCond .ne 6, 3) := by decide +kernel
theorem dX9_unjust_13 : decode cX9_unjust 13 = .ok (.bipush (-2), 2) := by decide +kernel
theorem dX9_unjust_15 : decode cX9_unjust 15 = .ok (.ireturn, 1) := by decide +kernel
theorem dX9_unjust_16 : decode cX9_unjust 16 = .ok (.iconst 0, 1) := by decide +kernel
theorem dX9_unjust_17 : decode cX9_unjust 17 = .ok (.istore_n 2, 1) := by decide +kernel
theorem dX9_unjust_18 : decode cX9_unjust 18 = .ok (.iload_n 2, 1) := by decide +kernel
theorem dX9_unjust_19 : decode cX9_unjust 19 = .ok (.aload_n 0, 1) := by decide +kernel
theorem dX9_unjust_20 : decode cX9_unjust 20 = .ok (.getfield 226, 3) := by decide +kernel
theorem dX9_unjust_23 : decode cX9_unjust 23 = .ok (.if_icmp .ge 39, 3) := by decide +kernel
theorem dX9_unjust_26 : decode cX9_unjust 26 = .ok (.aload_n 0, 1) := by decide +kernel
theorem dX9_unjust_27 : decode cX9_unjust 27 = .ok (.getfield 274, 3) := by decide +kernel
theorem dX9_unjust_30 : decode cX9_unjust 30 = .ok (.iload_n 2, 1) := by decide +kernel
theorem dX9_unjust_31 : decode cX9_unjust 31 = .ok (.invokestatic 163, 3) := by decide +kernel
theorem dX9_unjust_34 : decode cX9_unjust 34 = .ok (.ifCond .ne 22, 3) := by decide +kernel
theorem dX9_unjust_37 : decode cX9_unjust 37 = .ok (.aload_n 0, 1) := by decide +kernel
theorem dX9_unjust_38 : decode cX9_unjust 38 = .ok (.iload_n 2, 1) := by decide +kernel
theorem dX9_unjust_39 : decode cX9_unjust 39 = .ok (.invokevirtual 358, 3) := by decide +kernel
theorem dX9_unjust_42 : decode cX9_unjust 42 = .ok (.aload_n 0, 1) := by decide +kernel
theorem dX9_unjust_43 : decode cX9_unjust 43 = .ok (.getfield 7, 3) := by decide +kernel
theorem dX9_unjust_46 : decode cX9_unjust 46 = .ok (.bipush 8, 2) := by decide +kernel
theorem dX9_unjust_48 : decode cX9_unjust 48 = .ok (.iload_n 2, 1) := by decide +kernel
theorem dX9_unjust_49 : decode cX9_unjust 49 = .ok (.iadd, 1) := by decide +kernel
theorem dX9_unjust_50 : decode cX9_unjust 50 = .ok (.iaload, 1) := by decide +kernel
theorem dX9_unjust_51 : decode cX9_unjust 51 = .ok (.if_icmp .lt 5, 3) := by decide +kernel
theorem dX9_unjust_54 : decode cX9_unjust 54 = .ok (.iload_n 2, 1) := by decide +kernel
theorem dX9_unjust_55 : decode cX9_unjust 55 = .ok (.ireturn, 1) := by decide +kernel
theorem dX9_unjust_56 : decode cX9_unjust 56 = .ok (.iinc 2 1, 3) := by decide +kernel
theorem dX9_unjust_59 : decode cX9_unjust 59 = .ok (.goto (-41), 3) := by decide +kernel
theorem dX9_unjust_62 : decode cX9_unjust 62 = .ok (.iconst (-1), 1) := by decide +kernel
theorem dX9_unjust_63 : decode cX9_unjust 63 = .ok (.ireturn, 1) := by decide +kernel
theorem dX9_changedWithout_0 : decode cX9_changedWithout 0 = .ok (.aload_n 0, 1) := by decide +kernel
theorem dX9_changedWithout_1 : decode cX9_changedWithout 1 = .ok (.aload_n 0, 1) := by decide +kernel
theorem dX9_changedWithout_2 : decode cX9_changedWithout 2 = .ok (.iload_n 1, 1) := by decide +kernel
theorem dX9_changedWithout_3 : decode cX9_changedWithout 3 = .ok (.invokevirtual 243, 3) := by decide +kernel
theorem dX9_changedWithout_6 : decode cX9_changedWithout 6 = .ok (.invokevirtual 236, 3) := by decide +kernel
theorem dX9_changedWithout_9 : decode cX9_changedWithout 9 = .ok (.ifCond .eq 5, 3) := by decide +kernel
theorem dX9_changedWithout_12 : decode cX9_changedWithout 12 = .ok (.iconst 0, 1) := by decide +kernel
theorem dX9_changedWithout_13 : decode cX9_changedWithout 13 = .ok (.ireturn, 1) := by decide +kernel
theorem dX9_changedWithout_14 : decode cX9_changedWithout 14 = .ok (.aload_n 0, 1) := by decide +kernel
theorem dX9_changedWithout_15 : decode cX9_changedWithout 15 = .ok (.invokevirtual 335, 3) := by decide +kernel
theorem dX9_changedWithout_18 : decode cX9_changedWithout 18 = .ok (.aload_n 0, 1) := by decide +kernel
theorem dX9_changedWithout_19 : decode cX9_changedWithout 19 = .ok (.getfield 274, 3) := by decide +kernel
theorem dX9_changedWithout_22 : decode cX9_changedWithout 22 = .ok (.istore_n 2, 1) := by decide +kernel
theorem dX9_changedWithout_23 : decode cX9_changedWithout 23 = .ok (.aload_n 0, 1) := by decide +kernel
theorem dX9_changedWithout_24 : decode cX9_changedWithout 24 = .ok (.getfield 7, 3) := by decide +kernel
theorem dX9_changedWithout_27 : decode cX9_changedWithout 27 = .ok (.bipush 68, 2) := by decide +kernel
theorem dX9_changedWithout_29 : decode cX9_changedWithout 29 = .ok (.iload_n 1, 1) := by decide +kernel
theorem dX9_changedWithout_30 : decode cX9_changedWithout 30 = .ok (.iadd, 1) := by decide +kernel
theorem dX9_changedWithout_31 : decode cX9_changedWithout 31 = .ok (.iaload, 1) := by decide +kernel
theorem dX9_changedWithout_32 : decode cX9_changedWithout 32 = .ok (.istore_n 3, 1) := by decide +kernel
theorem dX9_changedWithout_33 : decode cX9_changedWithout 33 = .ok (.aload_n 0, 1) := by decide +kernel
theorem dX9_changedWithout_34 : decode cX9_changedWithout 34 = .ok (.getfield 7, 3) := by decide +kernel
theorem dX9_changedWithout_37 : decode cX9_changedWithout 37 = .ok (.bipush 68, 2) := by decide +kernel
theorem dX9_changedWithout_39 : decode cX9_changedWithout 39 = .ok (.iload_n 1, 1) := by decide +kernel
theorem dX9_changedWithout_40 : decode cX9_changedWithout 40 = .ok (.iadd, 1) := by decide +kernel
theorem dX9_changedWithout_41 : decode cX9_changedWithout 41 = .ok (.iconst 0, 1) := by decide +kernel
theorem dX9_changedWithout_42 : decode cX9_changedWithout 42 = .ok (.iastore, 1) := by decide +kernel
theorem dX9_changedWithout_43 : decode cX9_changedWithout 43 = .ok (.aload_n 0, 1) := by decide +kernel
theorem dX9_changedWithout_44 : decode cX9_changedWithout 44 = .ok (.invokevirtual 335, 3) := by decide +kernel
theorem dX9_changedWithout_47 : decode cX9_changedWithout 47 = .ok (.aload_n 0, 1) := by decide +kernel
theorem dX9_changedWithout_48 : decode cX9_changedWithout 48 = .ok (.getfield 7, 3) := by decide +kernel
theorem dX9_changedWithout_51 : decode cX9_changedWithout 51 = .ok (.bipush 68, 2) := by decide +kernel
theorem dX9_changedWithout_53 : decode cX9_changedWithout 53 = .ok (.iload_n 1, 1) := by decide +kernel
theorem dX9_changedWithout_54 : decode cX9_changedWithout 54 = .ok (.iadd, 1) := by decide +kernel
theorem dX9_changedWithout_55 : decode cX9_changedWithout 55 = .ok (.iload_n 3, 1) := by decide +kernel
theorem dX9_changedWithout_56 : decode cX9_changedWithout 56 = .ok (.iastore, 1) := by decide +kernel
theorem dX9_changedWithout_57 : decode cX9_changedWithout 57 = .ok (.iload_n 2, 1) := by decide +kernel
theorem dX9_changedWithout_58 : decode cX9_changedWithout 58 = .ok (.aload_n 0, 1) := by decide +kernel
theorem dX9_changedWithout_59 : decode cX9_changedWithout 59 = .ok (.getfield 274, 3) := by decide +kernel
theorem dX9_changedWithout_62 : decode cX9_changedWithout 62 = .ok (.ixor, 1) := by decide +kernel
theorem dX9_changedWithout_63 : decode cX9_changedWithout 63 = .ok (.ireturn, 1) := by decide +kernel
theorem dX9_isFundedAt_0 : decode cX9_isFundedAt 0 = .ok (.aload_n 0, 1) := by decide +kernel
theorem dX9_isFundedAt_1 : decode cX9_isFundedAt 1 = .ok (.getfield 7, 3) := by decide +kernel
theorem dX9_isFundedAt_4 : decode cX9_isFundedAt 4 = .ok (.bipush 8, 2) := by decide +kernel
theorem dX9_isFundedAt_6 : decode cX9_isFundedAt 6 = .ok (.iload_n 1, 1) := by decide +kernel
theorem dX9_isFundedAt_7 : decode cX9_isFundedAt 7 = .ok (.iadd, 1) := by decide +kernel
theorem dX9_isFundedAt_8 : decode cX9_isFundedAt 8 = .ok (.iload_n 2, 1) := by decide +kernel
theorem dX9_isFundedAt_9 : decode cX9_isFundedAt 9 = .ok (.iastore, 1) := by decide +kernel
theorem dX9_isFundedAt_10 : decode cX9_isFundedAt 10 = .ok (.aload_n 0, 1) := by decide +kernel
theorem dX9_isFundedAt_11 : decode cX9_isFundedAt 11 = .ok (.invokevirtual 287, 3) := by decide +kernel
theorem dX9_isFundedAt_14 : decode cX9_isFundedAt 14 = .ok (.aload_n 0, 1) := by decide +kernel
theorem dX9_isFundedAt_15 : decode cX9_isFundedAt 15 = .ok (.invokevirtual 310, 3) := by decide +kernel
theorem dX9_isFundedAt_18 : decode cX9_isFundedAt 18 = .ok (.aload_n 0, 1) := by decide +kernel
theorem dX9_isFundedAt_19 : decode cX9_isFundedAt 19 = .ok (.getfield 274, 3) := by decide +kernel
theorem dX9_isFundedAt_22 : decode cX9_isFundedAt 22 = .ok (.iload_n 1, 1) := by decide +kernel
theorem dX9_isFundedAt_23 : decode cX9_isFundedAt 23 = .ok (.invokestatic 163, 3) := by decide +kernel
theorem dX9_isFundedAt_26 : decode cX9_isFundedAt 26 = .ok (.ireturn, 1) := by decide +kernel
theorem dX9_greedyLimit_0 : decode cX9_greedyLimit 0 = .ok (.aload_n 0, 1) := by decide +kernel
theorem dX9_greedyLimit_1 : decode cX9_greedyLimit 1 = .ok (.aload_n 0, 1) := by decide +kernel
theorem dX9_greedyLimit_2 : decode cX9_greedyLimit 2 = .ok (.iload_n 1, 1) := by decide +kernel
theorem dX9_greedyLimit_3 : decode cX9_greedyLimit 3 = .ok (.invokevirtual 240, 3) := by decide +kernel
theorem dX9_greedyLimit_6 : decode cX9_greedyLimit 6 = .ok (.invokevirtual 236, 3) := by decide +kernel
theorem dX9_greedyLimit_9 : decode cX9_greedyLimit 9 = .ok (.ifCond .eq 5, 3) := by decide +kernel
theorem dX9_greedyLimit_12 : decode cX9_greedyLimit 12 = .ok (.iconst 0, 1) := by decide +kernel
theorem dX9_greedyLimit_13 : decode cX9_greedyLimit 13 = .ok (.ireturn, 1) := by decide +kernel
theorem dX9_greedyLimit_14 : decode cX9_greedyLimit 14 = .ok (.aload_n 0, 1) := by decide +kernel
theorem dX9_greedyLimit_15 : decode cX9_greedyLimit 15 = .ok (.getfield 7, 3) := by decide +kernel
theorem dX9_greedyLimit_18 : decode cX9_greedyLimit 18 = .ok (.bipush 8, 2) := by decide +kernel
theorem dX9_greedyLimit_20 : decode cX9_greedyLimit 20 = .ok (.iload_n 1, 1) := by decide +kernel
theorem dX9_greedyLimit_21 : decode cX9_greedyLimit 21 = .ok (.iadd, 1) := by decide +kernel
theorem dX9_greedyLimit_22 : decode cX9_greedyLimit 22 = .ok (.iaload, 1) := by decide +kernel
theorem dX9_greedyLimit_23 : decode cX9_greedyLimit 23 = .ok (.istore_n 2, 1) := by decide +kernel
theorem dX9_greedyLimit_24 : decode cX9_greedyLimit 24 = .ok (.iconst 0, 1) := by decide +kernel
theorem dX9_greedyLimit_25 : decode cX9_greedyLimit 25 = .ok (.istore_n 3, 1) := by decide +kernel
theorem dX9_greedyLimit_26 : decode cX9_greedyLimit 26 = .ok (.ldc 170, 2) := by decide +kernel
theorem dX9_greedyLimit_28 : decode cX9_greedyLimit 28 = .ok (.istore 4, 2) := by decide +kernel
theorem dX9_greedyLimit_30 : decode cX9_greedyLimit 30 = .ok (.iload_n 3, 1) := by decide +kernel
theorem dX9_greedyLimit_31 : decode cX9_greedyLimit 31 = .ok (.iload 4, 2) := by decide +kernel
theorem dX9_greedyLimit_33 : decode cX9_greedyLimit 33 = .ok (.if_icmp .ge 38, 3) := by decide +kernel
theorem dX9_greedyLimit_36 : decode cX9_greedyLimit 36 = .ok (.iload_n 3, 1) := by decide +kernel
theorem dX9_greedyLimit_37 : decode cX9_greedyLimit 37 = .ok (.iload 4, 2) := by decide +kernel
theorem dX9_greedyLimit_39 : decode cX9_greedyLimit 39 = .ok (.iadd, 1) := by decide +kernel
theorem dX9_greedyLimit_40 : decode cX9_greedyLimit 40 = .ok (.iconst 1, 1) := by decide +kernel
theorem dX9_greedyLimit_41 : decode cX9_greedyLimit 41 = .ok (.iadd, 1) := by decide +kernel
theorem dX9_greedyLimit_42 : decode cX9_greedyLimit 42 = .ok (.iconst 2, 1) := by decide +kernel
theorem dX9_greedyLimit_43 : decode cX9_greedyLimit 43 = .ok (.idiv, 1) := by decide +kernel
theorem dX9_greedyLimit_44 : decode cX9_greedyLimit 44 = .ok (.istore 5, 2) := by decide +kernel
theorem dX9_greedyLimit_46 : decode cX9_greedyLimit 46 = .ok (.aload_n 0, 1) := by decide +kernel
theorem dX9_greedyLimit_47 : decode cX9_greedyLimit 47 = .ok (.iload_n 1, 1) := by decide +kernel
theorem dX9_greedyLimit_48 : decode cX9_greedyLimit 48 = .ok (.iload 5, 2) := by decide +kernel
theorem dX9_greedyLimit_50 : decode cX9_greedyLimit 50 = .ok (.invokevirtual 361, 3) := by decide +kernel
theorem dX9_greedyLimit_53 : decode cX9_greedyLimit 53 = .ok (.ifCond .eq 9, 3) := by decide +kernel
theorem dX9_greedyLimit_56 : decode cX9_greedyLimit 56 = .ok (.iload 5, 2) := by decide +kernel
theorem dX9_greedyLimit_58 : decode cX9_greedyLimit 58 = .ok (.istore_n 3, 1) := by decide +kernel
theorem dX9_greedyLimit_59 : decode cX9_greedyLimit 59 = .ok (.goto 9, 3) := by decide +kernel
theorem dX9_greedyLimit_62 : decode cX9_greedyLimit 62 = .ok (.iload 5, 2) := by decide +kernel
theorem dX9_greedyLimit_64 : decode cX9_greedyLimit 64 = .ok (.iconst 1, 1) := by decide +kernel
theorem dX9_greedyLimit_65 : decode cX9_greedyLimit 65 = .ok (.isub, 1) := by decide +kernel
theorem dX9_greedyLimit_66 : decode cX9_greedyLimit 66 = .ok (.istore 4, 2) := by decide +kernel
theorem dX9_greedyLimit_68 : decode cX9_greedyLimit 68 = .ok (.goto (-38), 3) := by decide +kernel
theorem dX9_greedyLimit_71 : decode cX9_greedyLimit 71 = .ok (.aload_n 0, 1) := by decide +kernel
theorem dX9_greedyLimit_72 : decode cX9_greedyLimit 72 = .ok (.getfield 7, 3) := by decide +kernel
theorem dX9_greedyLimit_75 : decode cX9_greedyLimit 75 = .ok (.bipush 8, 2) := by decide +kernel
theorem dX9_greedyLimit_77 : decode cX9_greedyLimit 77 = .ok (.iload_n 1, 1) := by decide +kernel
theorem dX9_greedyLimit_78 : decode cX9_greedyLimit 78 = .ok (.iadd, 1) := by decide +kernel
theorem dX9_greedyLimit_79 : decode cX9_greedyLimit 79 = .ok (.iload_n 2, 1) := by decide +kernel
theorem dX9_greedyLimit_80 : decode cX9_greedyLimit 80 = .ok (.iastore, 1) := by decide +kernel
theorem dX9_greedyLimit_81 : decode cX9_greedyLimit 81 = .ok (.iload_n 3, 1) := by decide +kernel
theorem dX9_greedyLimit_82 : decode cX9_greedyLimit 82 = .ok (.ifCond .ne 7, 3) := by decide +kernel
theorem dX9_greedyLimit_85 : decode cX9_greedyLimit 85 = .ok (.iconst (-1), 1) := by decide +kernel
theorem dX9_greedyLimit_86 : decode cX9_greedyLimit 86 = .ok (.goto 4, 3) := by decide +kernel
theorem dX9_greedyLimit_89 : decode cX9_greedyLimit 89 = .ok (.iload_n 3, 1) := by decide +kernel
theorem dX9_greedyLimit_90 : decode cX9_greedyLimit 90 = .ok (.ireturn, 1) := by decide +kernel
theorem dX9_canBePaid_0 : decode cX9_canBePaid 0 = .ok (.aload_n 0, 1) := by decide +kernel
theorem dX9_canBePaid_1 : decode cX9_canBePaid 1 = .ok (.iconst 0, 1) := by decide +kernel
theorem dX9_canBePaid_2 : decode cX9_canBePaid 2 = .ok (.putfield 77, 3) := by decide +kernel
theorem dX9_canBePaid_5 : decode cX9_canBePaid 5 = .ok (.iload_n 1, 1) := by decide +kernel
theorem dX9_canBePaid_6 : decode cX9_canBePaid 6 = .ok (.aload_n 0, 1) := by decide +kernel
theorem dX9_canBePaid_7 : decode cX9_canBePaid 7 = .ok (.getfield 226, 3) := by decide +kernel
theorem dX9_canBePaid_10 : decode cX9_canBePaid 10 = .ok (.ishr, 1) := by decide +kernel
theorem dX9_canBePaid_11 : decode cX9_canBePaid 11 = .ok (.ifCond .ne 15, 3) := by decide +kernel
theorem dX9_canBePaid_14 : decode cX9_canBePaid 14 = .ok (.aload_n 0, 1) := by decide +kernel
theorem dX9_canBePaid_15 : decode cX9_canBePaid 15 = .ok (.iload_n 1, 1) := by decide +kernel
theorem dX9_canBePaid_16 : decode cX9_canBePaid 16 = .ok (.invokevirtual 332, 3) := by decide +kernel
theorem dX9_canBePaid_19 : decode cX9_canBePaid 19 = .ok (.ifCond .eq 7, 3) := by decide +kernel
theorem dX9_canBePaid_22 : decode cX9_canBePaid 22 = .ok (.iconst 1, 1) := by decide +kernel
theorem dX9_canBePaid_23 : decode cX9_canBePaid 23 = .ok (.goto 4, 3) := by decide +kernel
theorem dX9_canBePaid_26 : decode cX9_canBePaid 26 = .ok (.iconst 0, 1) := by decide +kernel
theorem dX9_canBePaid_27 : decode cX9_canBePaid 27 = .ok (.ireturn, 1) := by decide +kernel
theorem dX9_setOf_0 : decode cX9_setOf 0 = .ok (.aload_n 0, 1) := by decide +kernel
theorem dX9_setOf_1 : decode cX9_setOf 1 = .ok (.iload_n 1, 1) := by decide +kernel
theorem dX9_setOf_2 : decode cX9_setOf 2 = .ok (.invokevirtual 341, 3) := by decide +kernel
theorem dX9_setOf_5 : decode cX9_setOf 5 = .ok (.ifCond .eq 10, 3) := by decide +kernel
theorem dX9_setOf_8 : decode cX9_setOf 8 = .ok (.aload_n 0, 1) := by decide +kernel
theorem dX9_setOf_9 : decode cX9_setOf 9 = .ok (.getfield 274, 3) := by decide +kernel
theorem dX9_setOf_12 : decode cX9_setOf 12 = .ok (.goto 5, 3) := by decide +kernel
theorem dX9_setOf_15 : decode cX9_setOf 15 = .ok (.bipush (-2), 2) := by decide +kernel
theorem dX9_setOf_17 : decode cX9_setOf 17 = .ok (.ireturn, 1) := by decide +kernel
theorem dX9_common_0 : decode cX9_common 0 = .ok (.aload_n 0, 1) := by decide +kernel
theorem dX9_common_1 : decode cX9_common 1 = .ok (.iconst 0, 1) := by decide +kernel
theorem dX9_common_2 : decode cX9_common 2 = .ok (.putfield 77, 3) := by decide +kernel
theorem dX9_common_5 : decode cX9_common 5 = .ok (.aload_n 0, 1) := by decide +kernel
theorem dX9_common_6 : decode cX9_common 6 = .ok (.iload_n 1, 1) := by decide +kernel
theorem dX9_common_7 : decode cX9_common 7 = .ok (.invokevirtual 364, 3) := by decide +kernel
theorem dX9_common_10 : decode cX9_common 10 = .ok (.istore_n 3, 1) := by decide +kernel
theorem dX9_common_11 : decode cX9_common 11 = .ok (.aload_n 0, 1) := by decide +kernel
theorem dX9_common_12 : decode cX9_common 12 = .ok (.iload_n 2, 1) := by decide +kernel
theorem dX9_common_13 : decode cX9_common 13 = .ok (.invokevirtual 364, 3) := by decide +kernel
theorem dX9_common_16 : decode cX9_common 16 = .ok (.istore 4, 2) := by decide +kernel
theorem dX9_common_18 : decode cX9_common 18 = .ok (.iload_n 3, 1) := by decide +kernel
theorem dX9_common_19 : decode cX9_common 19 = .ok (.ifCond .lt 8, 3) := by decide +kernel
theorem dX9_common_22 : decode cX9_common 22 = .ok (.iload 4, 2) := by decide +kernel
theorem dX9_common_24 : decode cX9_common 24 = .ok (.ifCond .ge 8, 3) := by decide +kernel
theorem dX9_common_27 : decode cX9_common 27 = .ok (.bipush (-2), 2) := by decide +kernel
theorem dX9_common_29 : decode cX9_common 29 = .ok (.goto 7, 3) := by decide +kernel
theorem dX9_common_32 : decode cX9_common 32 = .ok (.iload_n 3, 1) := by decide +kernel
theorem dX9_common_33 : decode cX9_common 33 = .ok (.iload 4, 2) := by decide +kernel
theorem dX9_common_35 : decode cX9_common 35 = .ok (.iand, 1) := by decide +kernel
theorem dX9_common_36 : decode cX9_common 36 = .ok (.ireturn, 1) := by decide +kernel
theorem dX9_spread_0 : decode cX9_spread 0 = .ok (.aload_n 0, 1) := by decide +kernel
theorem dX9_spread_1 : decode cX9_spread 1 = .ok (.iconst 0, 1) := by decide +kernel
theorem dX9_spread_2 : decode cX9_spread 2 = .ok (.putfield 77, 3) := by decide +kernel
theorem dX9_spread_5 : decode cX9_spread 5 = .ok (.aload_n 0, 1) := by decide +kernel
theorem dX9_spread_6 : decode cX9_spread 6 = .ok (.iload_n 1, 1) := by decide +kernel
theorem dX9_spread_7 : decode cX9_spread 7 = .ok (.invokevirtual 341, 3) := by decide +kernel
theorem dX9_spread_10 : decode cX9_spread 10 = .ok (.ifCond .ne 6, 3) := by decide +kernel
theorem dX9_spread_13 : decode cX9_spread 13 = .ok (.bipush (-2), 2) := by decide +kernel
theorem dX9_spread_15 : decode cX9_spread 15 = .ok (.ireturn, 1) := by decide +kernel
theorem dX9_spread_16 : decode cX9_spread 16 = .ok (.iconst 0, 1) := by decide +kernel
theorem dX9_spread_17 : decode cX9_spread 17 = .ok (.istore_n 2, 1) := by decide +kernel
theorem dX9_spread_18 : decode cX9_spread 18 = .ok (.iconst 0, 1) := by decide +kernel
theorem dX9_spread_19 : decode cX9_spread 19 = .ok (.istore_n 3, 1) := by decide +kernel
theorem dX9_spread_20 : decode cX9_spread 20 = .ok (.iconst 0, 1) := by decide +kernel
theorem dX9_spread_21 : decode cX9_spread 21 = .ok (.istore 4, 2) := by decide +kernel
theorem dX9_spread_23 : decode cX9_spread 23 = .ok (.iload 4, 2) := by decide +kernel
theorem dX9_spread_25 : decode cX9_spread 25 = .ok (.aload_n 0, 1) := by decide +kernel
theorem dX9_spread_26 : decode cX9_spread 26 = .ok (.getfield 229, 3) := by decide +kernel
theorem dX9_spread_29 : decode cX9_spread 29 = .ok (.if_icmp .ge 53, 3) := by decide +kernel
theorem dX9_spread_32 : decode cX9_spread 32 = .ok (.aload_n 0, 1) := by decide +kernel
theorem dX9_spread_33 : decode cX9_spread 33 = .ok (.iload 4, 2) := by decide +kernel
theorem dX9_spread_35 : decode cX9_spread 35 = .ok (.invokevirtual 352, 3) := by decide +kernel
theorem dX9_spread_38 : decode cX9_spread 38 = .ok (.istore 5, 2) := by decide +kernel
theorem dX9_spread_40 : decode cX9_spread 40 = .ok (.iload 4, 2) := by decide +kernel
theorem dX9_spread_42 : decode cX9_spread 42 = .ok (.ifCond .eq 9, 3) := by decide +kernel
theorem dX9_spread_45 : decode cX9_spread 45 = .ok (.iload 5, 2) := by decide +kernel
theorem dX9_spread_47 : decode cX9_spread 47 = .ok (.iload_n 2, 1) := by decide +kernel
theorem dX9_spread_48 : decode cX9_spread 48 = .ok (.if_icmp .le 8, 3) := by decide +kernel
theorem dX9_spread_51 : decode cX9_spread 51 = .ok (.iload 5, 2) := by decide +kernel
theorem dX9_spread_53 : decode cX9_spread 53 = .ok (.goto 4, 3) := by decide +kernel
theorem dX9_spread_56 : decode cX9_spread 56 = .ok (.iload_n 2, 1) := by decide +kernel
theorem dX9_spread_57 : decode cX9_spread 57 = .ok (.istore_n 2, 1) := by decide +kernel
theorem dX9_spread_58 : decode cX9_spread 58 = .ok (.iload 4, 2) := by decide +kernel
theorem dX9_spread_60 : decode cX9_spread 60 = .ok (.ifCond .eq 9, 3) := by decide +kernel
theorem dX9_spread_63 : decode cX9_spread 63 = .ok (.iload 5, 2) := by decide +kernel
theorem dX9_spread_65 : decode cX9_spread 65 = .ok (.iload_n 3, 1) := by decide +kernel
theorem dX9_spread_66 : decode cX9_spread 66 = .ok (.if_icmp .ge 8, 3) := by decide +kernel
theorem dX9_spread_69 : decode cX9_spread 69 = .ok (.iload 5, 2) := by decide +kernel
theorem dX9_spread_71 : decode cX9_spread 71 = .ok (.goto 4, 3) := by decide +kernel
theorem dX9_spread_74 : decode cX9_spread 74 = .ok (.iload_n 3, 1) := by decide +kernel
theorem dX9_spread_75 : decode cX9_spread 75 = .ok (.istore_n 3, 1) := by decide +kernel
theorem dX9_spread_76 : decode cX9_spread 76 = .ok (.iinc 4 1, 3) := by decide +kernel
theorem dX9_spread_79 : decode cX9_spread 79 = .ok (.goto (-56), 3) := by decide +kernel
theorem dX9_spread_82 : decode cX9_spread 82 = .ok (.iload_n 2, 1) := by decide +kernel
theorem dX9_spread_83 : decode cX9_spread 83 = .ok (.iload_n 3, 1) := by decide +kernel
theorem dX9_spread_84 : decode cX9_spread 84 = .ok (.isub, 1) := by decide +kernel
theorem dX9_spread_85 : decode cX9_spread 85 = .ok (.ireturn, 1) := by decide +kernel
theorem dX9_loss_0 : decode cX9_loss 0 = .ok (.aload_n 0, 1) := by decide +kernel
theorem dX9_loss_1 : decode cX9_loss 1 = .ok (.iconst 0, 1) := by decide +kernel
theorem dX9_loss_2 : decode cX9_loss 2 = .ok (.putfield 77, 3) := by decide +kernel
theorem dX9_loss_5 : decode cX9_loss 5 = .ok (.aload_n 0, 1) := by decide +kernel
theorem dX9_loss_6 : decode cX9_loss 6 = .ok (.iload_n 1, 1) := by decide +kernel
theorem dX9_loss_7 : decode cX9_loss 7 = .ok (.invokevirtual 364, 3) := by decide +kernel
theorem dX9_loss_10 : decode cX9_loss 10 = .ok (.istore_n 2, 1) := by decide +kernel
theorem dX9_loss_11 : decode cX9_loss 11 = .ok (.iload_n 2, 1) := by decide +kernel
theorem dX9_loss_12 : decode cX9_loss 12 = .ok (.ifCond .ge 7, 3) := by decide +kernel
theorem dX9_loss_15 : decode cX9_loss 15 = .ok (.ldc2_w 350, 3) := by decide +kernel
theorem dX9_loss_18 : decode cX9_loss 18 = .ok (.lreturn, 1) := by decide +kernel
theorem dX9_loss_19 : decode cX9_loss 19 = .ok (.aload_n 0, 1) := by decide +kernel
theorem dX9_loss_20 : decode cX9_loss 20 = .ok (.invokevirtual 338, 3) := by decide +kernel
theorem dX9_loss_23 : decode cX9_loss 23 = .ok (.aload_n 0, 1) := by decide +kernel
theorem dX9_loss_24 : decode cX9_loss 24 = .ok (.aload_n 0, 1) := by decide +kernel
theorem dX9_loss_25 : decode cX9_loss 25 = .ok (.getfield 274, 3) := by decide +kernel
theorem dX9_loss_28 : decode cX9_loss 28 = .ok (.invokevirtual 325, 3) := by decide +kernel
theorem dX9_loss_31 : decode cX9_loss 31 = .ok (.aload_n 0, 1) := by decide +kernel
theorem dX9_loss_32 : decode cX9_loss 32 = .ok (.iload_n 2, 1) := by decide +kernel
theorem dX9_loss_33 : decode cX9_loss 33 = .ok (.invokevirtual 325, 3) := by decide +kernel
theorem dX9_loss_36 : decode cX9_loss 36 = .ok (.lsub, 1) := by decide +kernel
theorem dX9_loss_37 : decode cX9_loss 37 = .ok (.lreturn, 1) := by decide +kernel
theorem dX9_bestWithout_0 : decode cX9_bestWithout 0 = .ok (.aload_n 0, 1) := by decide +kernel
theorem dX9_bestWithout_1 : decode cX9_bestWithout 1 = .ok (.aload_n 0, 1) := by decide +kernel
theorem dX9_bestWithout_2 : decode cX9_bestWithout 2 = .ok (.iload_n 1, 1) := by decide +kernel
theorem dX9_bestWithout_3 : decode cX9_bestWithout 3 = .ok (.invokevirtual 240, 3) := by decide +kernel
theorem dX9_bestWithout_6 : decode cX9_bestWithout 6 = .ok (.invokevirtual 236, 3) := by decide +kernel
theorem dX9_bestWithout_9 : decode cX9_bestWithout 9 = .ok (.ifCond .eq 5, 3) := by decide +kernel
theorem dX9_bestWithout_12 : decode cX9_bestWithout 12 = .ok (.lconst 0, 1) := by decide +kernel
theorem dX9_bestWithout_13 : decode cX9_bestWithout 13 = .ok (.lreturn, 1) := by decide +kernel
theorem dX9_bestWithout_14 : decode cX9_bestWithout 14 = .ok (.aload_n 0, 1) := by decide +kernel
theorem dX9_bestWithout_15 : decode cX9_bestWithout 15 = .ok (.invokevirtual 322, 3) := by decide +kernel
theorem dX9_bestWithout_18 : decode cX9_bestWithout 18 = .ok (.lconst 0, 1) := by decide +kernel
theorem dX9_bestWithout_19 : decode cX9_bestWithout 19 = .ok (.lstore_n 2, 1) := by decide +kernel
theorem dX9_bestWithout_20 : decode cX9_bestWithout 20 = .ok (.iconst 0, 1) := by decide +kernel
theorem dX9_bestWithout_21 : decode cX9_bestWithout 21 = .ok (.istore 4, 2) := by decide +kernel
theorem dX9_bestWithout_23 : decode cX9_bestWithout 23 = .ok (.iload 4, 2) := by decide +kernel
theorem dX9_bestWithout_25 : decode cX9_bestWithout 25 = .ok (.iconst 1, 1) := by decide +kernel
theorem dX9_bestWithout_26 : decode cX9_bestWithout 26 = .ok (.aload_n 0, 1) := by decide +kernel
theorem dX9_bestWithout_27 : decode cX9_bestWithout 27 = .ok (.getfield 226, 3) := by decide +kernel
theorem dX9_bestWithout_30 : decode cX9_bestWithout 30 = .ok (.ishl, 1) := by decide +kernel
theorem dX9_bestWithout_31 : decode cX9_bestWithout 31 = .ok (.if_icmp .ge 48, 3) := by decide +kernel
theorem dX9_bestWithout_34 : decode cX9_bestWithout 34 = .ok (.iload 4, 2) := by decide +kernel
theorem dX9_bestWithout_36 : decode cX9_bestWithout 36 = .ok (.iload_n 1, 1) := by decide +kernel
theorem dX9_bestWithout_37 : decode cX9_bestWithout 37 = .ok (.invokestatic 163, 3) := by decide +kernel
theorem dX9_bestWithout_40 : decode cX9_bestWithout 40 = .ok (.ifCond .ne 33, 3) := by decide +kernel
theorem dX9_bestWithout_43 : decode cX9_bestWithout 43 = .ok (.aload_n 0, 1) := by decide +kernel
theorem dX9_bestWithout_44 : decode cX9_bestWithout 44 = .ok (.iload 4, 2) := by decide +kernel
theorem dX9_bestWithout_46 : decode cX9_bestWithout 46 = .ok (.invokevirtual 325, 3) := by decide +kernel
theorem dX9_bestWithout_49 : decode cX9_bestWithout 49 = .ok (.lload_n 2, 1) := by decide +kernel
theorem dX9_bestWithout_50 : decode cX9_bestWithout 50 = .ok (.lcmp, 1) := by decide +kernel
theorem dX9_bestWithout_51 : decode cX9_bestWithout 51 = .ok (.ifCond .le 22, 3) := by decide +kernel
theorem dX9_bestWithout_54 : decode cX9_bestWithout 54 = .ok (.aload_n 0, 1) := by decide +kernel
theorem dX9_bestWithout_55 : decode cX9_bestWithout 55 = .ok (.iload 4, 2) := by decide +kernel
theorem dX9_bestWithout_57 : decode cX9_bestWithout 57 = .ok (.invokevirtual 332, 3) := by decide +kernel
theorem dX9_bestWithout_60 : decode cX9_bestWithout 60 = .ok (.ifCond .ne 6, 3) := by decide +kernel
theorem dX9_bestWithout_63 : decode cX9_bestWithout 63 = .ok (.goto 10, 3) := by decide +kernel
theorem dX9_bestWithout_66 : decode cX9_bestWithout 66 = .ok (.aload_n 0, 1) := by decide +kernel
theorem dX9_bestWithout_67 : decode cX9_bestWithout 67 = .ok (.iload 4, 2) := by decide +kernel
theorem dX9_bestWithout_69 : decode cX9_bestWithout 69 = .ok (.invokevirtual 325, 3) := by decide +kernel
theorem dX9_bestWithout_72 : decode cX9_bestWithout 72 = .ok (.lstore_n 2, 1) := by decide +kernel
theorem dX9_bestWithout_73 : decode cX9_bestWithout 73 = .ok (.iinc 4 1, 3) := by decide +kernel
theorem dX9_bestWithout_76 : decode cX9_bestWithout 76 = .ok (.goto (-53), 3) := by decide +kernel
theorem dX9_bestWithout_79 : decode cX9_bestWithout 79 = .ok (.lload_n 2, 1) := by decide +kernel
theorem dX9_bestWithout_80 : decode cX9_bestWithout 80 = .ok (.lreturn, 1) := by decide +kernel
theorem dX9_endowment_0 : decode cX9_endowment 0 = .ok (.aload_n 0, 1) := by decide +kernel
theorem dX9_endowment_1 : decode cX9_endowment 1 = .ok (.aload_n 0, 1) := by decide +kernel
theorem dX9_endowment_2 : decode cX9_endowment 2 = .ok (.iload_n 1, 1) := by decide +kernel
theorem dX9_endowment_3 : decode cX9_endowment 3 = .ok (.invokevirtual 243, 3) := by decide +kernel
theorem dX9_endowment_6 : decode cX9_endowment 6 = .ok (.invokevirtual 236, 3) := by decide +kernel
theorem dX9_endowment_9 : decode cX9_endowment 9 = .ok (.ifCond .eq 5, 3) := by decide +kernel
theorem dX9_endowment_12 : decode cX9_endowment 12 = .ok (.iconst 0, 1) := by decide +kernel
theorem dX9_endowment_13 : decode cX9_endowment 13 = .ok (.ireturn, 1) := by decide +kernel
theorem dX9_endowment_14 : decode cX9_endowment 14 = .ok (.iconst 0, 1) := by decide +kernel
theorem dX9_endowment_15 : decode cX9_endowment 15 = .ok (.istore_n 2, 1) := by decide +kernel
theorem dX9_endowment_16 : decode cX9_endowment 16 = .ok (.iconst 0, 1) := by decide +kernel
theorem dX9_endowment_17 : decode cX9_endowment 17 = .ok (.istore_n 3, 1) := by decide +kernel
theorem dX9_endowment_18 : decode cX9_endowment 18 = .ok (.iload_n 3, 1) := by decide +kernel
theorem dX9_endowment_19 : decode cX9_endowment 19 = .ok (.aload_n 0, 1) := by decide +kernel
theorem dX9_endowment_20 : decode cX9_endowment 20 = .ok (.getfield 223, 3) := by decide +kernel
theorem dX9_endowment_23 : decode cX9_endowment 23 = .ok (.if_icmp .ge 18, 3) := by decide +kernel
theorem dX9_endowment_26 : decode cX9_endowment 26 = .ok (.iload_n 2, 1) := by decide +kernel
theorem dX9_endowment_27 : decode cX9_endowment 27 = .ok (.aload_n 0, 1) := by decide +kernel
theorem dX9_endowment_28 : decode cX9_endowment 28 = .ok (.iload_n 1, 1) := by decide +kernel
theorem dX9_endowment_29 : decode cX9_endowment 29 = .ok (.iload_n 3, 1) := by decide +kernel
theorem dX9_endowment_30 : decode cX9_endowment 30 = .ok (.invokevirtual 252, 3) := by decide +kernel
theorem dX9_endowment_33 : decode cX9_endowment 33 = .ok (.iadd, 1) := by decide +kernel
theorem dX9_endowment_34 : decode cX9_endowment 34 = .ok (.istore_n 2, 1) := by decide +kernel
theorem dX9_endowment_35 : decode cX9_endowment 35 = .ok (.iinc 3 1, 3) := by decide +kernel
theorem dX9_endowment_38 : decode cX9_endowment 38 = .ok (.goto (-20), 3) := by decide +kernel
theorem dX9_endowment_41 : decode cX9_endowment 41 = .ok (.iload_n 2, 1) := by decide +kernel
theorem dX9_endowment_42 : decode cX9_endowment 42 = .ok (.ireturn, 1) := by decide +kernel
theorem dX9_spentBy_0 : decode cX9_spentBy 0 = .ok (.aload_n 0, 1) := by decide +kernel
theorem dX9_spentBy_1 : decode cX9_spentBy 1 = .ok (.aload_n 0, 1) := by decide +kernel
theorem dX9_spentBy_2 : decode cX9_spentBy 2 = .ok (.iload_n 1, 1) := by decide +kernel
theorem dX9_spentBy_3 : decode cX9_spentBy 3 = .ok (.invokevirtual 243, 3) := by decide +kernel
theorem dX9_spentBy_6 : decode cX9_spentBy 6 = .ok (.invokevirtual 236, 3) := by decide +kernel
theorem dX9_spentBy_9 : decode cX9_spentBy 9 = .ok (.ifCond .eq 5, 3) := by decide +kernel
theorem dX9_spentBy_12 : decode cX9_spentBy 12 = .ok (.iconst 0, 1) := by decide +kernel
theorem dX9_spentBy_13 : decode cX9_spentBy 13 = .ok (.ireturn, 1) := by decide +kernel
theorem dX9_spentBy_14 : decode cX9_spentBy 14 = .ok (.aload_n 0, 1) := by decide +kernel
theorem dX9_spentBy_15 : decode cX9_spentBy 15 = .ok (.invokevirtual 335, 3) := by decide +kernel
theorem dX9_spentBy_18 : decode cX9_spentBy 18 = .ok (.iconst 0, 1) := by decide +kernel
theorem dX9_spentBy_19 : decode cX9_spentBy 19 = .ok (.istore_n 2, 1) := by decide +kernel
theorem dX9_spentBy_20 : decode cX9_spentBy 20 = .ok (.iconst 0, 1) := by decide +kernel
theorem dX9_spentBy_21 : decode cX9_spentBy 21 = .ok (.istore_n 3, 1) := by decide +kernel
theorem dX9_spentBy_22 : decode cX9_spentBy 22 = .ok (.iload_n 3, 1) := by decide +kernel
theorem dX9_spentBy_23 : decode cX9_spentBy 23 = .ok (.aload_n 0, 1) := by decide +kernel
theorem dX9_spentBy_24 : decode cX9_spentBy 24 = .ok (.getfield 226, 3) := by decide +kernel
theorem dX9_spentBy_27 : decode cX9_spentBy 27 = .ok (.if_icmp .ge 23, 3) := by decide +kernel
theorem dX9_spentBy_30 : decode cX9_spentBy 30 = .ok (.iload_n 2, 1) := by decide +kernel
theorem dX9_spentBy_31 : decode cX9_spentBy 31 = .ok (.aload_n 0, 1) := by decide +kernel
theorem dX9_spentBy_32 : decode cX9_spentBy 32 = .ok (.getfield 54, 3) := by decide +kernel
theorem dX9_spentBy_35 : decode cX9_spentBy 35 = .ok (.bipush 24, 2) := by decide +kernel
theorem dX9_spentBy_37 : decode cX9_spentBy 37 = .ok (.iload_n 3, 1) := by decide +kernel
theorem dX9_spentBy_38 : decode cX9_spentBy 38 = .ok (.imul, 1) := by decide +kernel
theorem dX9_spentBy_39 : decode cX9_spentBy 39 = .ok (.iload_n 1, 1) := by decide +kernel
theorem dX9_spentBy_40 : decode cX9_spentBy 40 = .ok (.iadd, 1) := by decide +kernel
theorem dX9_spentBy_41 : decode cX9_spentBy 41 = .ok (.iaload, 1) := by decide +kernel
theorem dX9_spentBy_42 : decode cX9_spentBy 42 = .ok (.iadd, 1) := by decide +kernel
theorem dX9_spentBy_43 : decode cX9_spentBy 43 = .ok (.istore_n 2, 1) := by decide +kernel
theorem dX9_spentBy_44 : decode cX9_spentBy 44 = .ok (.iinc 3 1, 3) := by decide +kernel
theorem dX9_spentBy_47 : decode cX9_spentBy 47 = .ok (.goto (-25), 3) := by decide +kernel
theorem dX9_spentBy_50 : decode cX9_spentBy 50 = .ok (.iload_n 2, 1) := by decide +kernel
theorem dX9_spentBy_51 : decode cX9_spentBy 51 = .ok (.ireturn, 1) := by decide +kernel
theorem dX9_payers_0 : decode cX9_payers 0 = .ok (.aload_n 0, 1) := by decide +kernel
theorem dX9_payers_1 : decode cX9_payers 1 = .ok (.aload_n 0, 1) := by decide +kernel
theorem dX9_payers_2 : decode cX9_payers 2 = .ok (.iload_n 1, 1) := by decide +kernel
theorem dX9_payers_3 : decode cX9_payers 3 = .ok (.invokevirtual 240, 3) := by decide +kernel
theorem dX9_payers_6 : decode cX9_payers 6 = .ok (.invokevirtual 236, 3) := by decide +kernel
theorem dX9_payers_9 : decode cX9_payers 9 = .ok (.ifCond .eq 5, 3) := by decide +kernel
theorem dX9_payers_12 : decode cX9_payers 12 = .ok (.iconst 0, 1) := by decide +kernel
theorem dX9_payers_13 : decode cX9_payers 13 = .ok (.ireturn, 1) := by decide +kernel
theorem dX9_payers_14 : decode cX9_payers 14 = .ok (.aload_n 0, 1) := by decide +kernel
theorem dX9_payers_15 : decode cX9_payers 15 = .ok (.invokevirtual 335, 3) := by decide +kernel
theorem dX9_payers_18 : decode cX9_payers 18 = .ok (.iconst 0, 1) := by decide +kernel
theorem dX9_payers_19 : decode cX9_payers 19 = .ok (.istore_n 2, 1) := by decide +kernel
theorem dX9_payers_20 : decode cX9_payers 20 = .ok (.iconst 0, 1) := by decide +kernel
theorem dX9_payers_21 : decode cX9_payers 21 = .ok (.istore_n 3, 1) := by decide +kernel
theorem dX9_payers_22 : decode cX9_payers 22 = .ok (.iload_n 3, 1) := by decide +kernel
theorem dX9_payers_23 : decode cX9_payers 23 = .ok (.aload_n 0, 1) := by decide +kernel
theorem dX9_payers_24 : decode cX9_payers 24 = .ok (.getfield 229, 3) := by decide +kernel
theorem dX9_payers_27 : decode cX9_payers 27 = .ok (.if_icmp .ge 33, 3) := by decide +kernel
theorem dX9_payers_30 : decode cX9_payers 30 = .ok (.iload_n 2, 1) := by decide +kernel
theorem dX9_payers_31 : decode cX9_payers 31 = .ok (.aload_n 0, 1) := by decide +kernel
theorem dX9_payers_32 : decode cX9_payers 32 = .ok (.getfield 54, 3) := by decide +kernel
theorem dX9_payers_35 : decode cX9_payers 35 = .ok (.bipush 24, 2) := by decide +kernel
theorem dX9_payers_37 : decode cX9_payers 37 = .ok (.iload_n 1, 1) := by decide +kernel
theorem dX9_payers_38 : decode cX9_payers 38 = .ok (.imul, 1) := by decide +kernel
theorem dX9_payers_39 : decode cX9_payers 39 = .ok (.iload_n 3, 1) := by decide +kernel
theorem dX9_payers_40 : decode cX9_payers 40 = .ok (.iadd, 1) := by decide +kernel
theorem dX9_payers_41 : decode cX9_payers 41 = .ok (.iaload, 1) := by decide +kernel
theorem dX9_payers_42 : decode cX9_payers 42 = .ok (.ifCond .le 9, 3) := by decide +kernel
theorem dX9_payers_45 : decode cX9_payers 45 = .ok (.iconst 1, 1) := by decide +kernel
theorem dX9_payers_46 : decode cX9_payers 46 = .ok (.iload_n 3, 1) := by decide +kernel
theorem dX9_payers_47 : decode cX9_payers 47 = .ok (.ishl, 1) := by decide +kernel
theorem dX9_payers_48 : decode cX9_payers 48 = .ok (.goto 4, 3) := by decide +kernel
theorem dX9_payers_51 : decode cX9_payers 51 = .ok (.iconst 0, 1) := by decide +kernel
theorem dX9_payers_52 : decode cX9_payers 52 = .ok (.ior, 1) := by decide +kernel
theorem dX9_payers_53 : decode cX9_payers 53 = .ok (.istore_n 2, 1) := by decide +kernel
theorem dX9_payers_54 : decode cX9_payers 54 = .ok (.iinc 3 1, 3) := by decide +kernel
theorem dX9_payers_57 : decode cX9_payers 57 = .ok (.goto (-35), 3) := by decide +kernel
theorem dX9_payers_60 : decode cX9_payers 60 = .ok (.iload_n 2, 1) := by decide +kernel
theorem dX9_payers_61 : decode cX9_payers 61 = .ok (.ireturn, 1) := by decide +kernel
theorem dX9_roundOf_0 : decode cX9_roundOf 0 = .ok (.aload_n 0, 1) := by decide +kernel
theorem dX9_roundOf_1 : decode cX9_roundOf 1 = .ok (.aload_n 0, 1) := by decide +kernel
theorem dX9_roundOf_2 : decode cX9_roundOf 2 = .ok (.iload_n 1, 1) := by decide +kernel
theorem dX9_roundOf_3 : decode cX9_roundOf 3 = .ok (.invokevirtual 240, 3) := by decide +kernel
theorem dX9_roundOf_6 : decode cX9_roundOf 6 = .ok (.invokevirtual 236, 3) := by decide +kernel
theorem dX9_roundOf_9 : decode cX9_roundOf 9 = .ok (.ifCond .eq 5, 3) := by decide +kernel
theorem dX9_roundOf_12 : decode cX9_roundOf 12 = .ok (.iconst 0, 1) := by decide +kernel
theorem dX9_roundOf_13 : decode cX9_roundOf 13 = .ok (.ireturn, 1) := by decide +kernel
theorem dX9_roundOf_14 : decode cX9_roundOf 14 = .ok (.aload_n 0, 1) := by decide +kernel
theorem dX9_roundOf_15 : decode cX9_roundOf 15 = .ok (.invokevirtual 335, 3) := by decide +kernel
theorem dX9_roundOf_18 : decode cX9_roundOf 18 = .ok (.iconst 0, 1) := by decide +kernel
theorem dX9_roundOf_19 : decode cX9_roundOf 19 = .ok (.istore_n 2, 1) := by decide +kernel
theorem dX9_roundOf_20 : decode cX9_roundOf 20 = .ok (.aload_n 0, 1) := by decide +kernel
theorem dX9_roundOf_21 : decode cX9_roundOf 21 = .ok (.getfield 51, 3) := by decide +kernel
theorem dX9_roundOf_24 : decode cX9_roundOf 24 = .ok (.iload_n 1, 1) := by decide +kernel
theorem dX9_roundOf_25 : decode cX9_roundOf 25 = .ok (.iaload, 1) := by decide +kernel
theorem dX9_roundOf_26 : decode cX9_roundOf 26 = .ok (.ifCond .lt 19, 3) := by decide +kernel
theorem dX9_roundOf_29 : decode cX9_roundOf 29 = .ok (.aload_n 0, 1) := by decide +kernel
theorem dX9_roundOf_30 : decode cX9_roundOf 30 = .ok (.getfield 48, 3) := by decide +kernel
theorem dX9_roundOf_33 : decode cX9_roundOf 33 = .ok (.iload_n 2, 1) := by decide +kernel
theorem dX9_roundOf_34 : decode cX9_roundOf 34 = .ok (.iaload, 1) := by decide +kernel
theorem dX9_roundOf_35 : decode cX9_roundOf 35 = .ok (.iload_n 1, 1) := by decide +kernel
theorem dX9_roundOf_36 : decode cX9_roundOf 36 = .ok (.if_icmp .eq 9, 3) := by decide +kernel
theorem dX9_roundOf_39 : decode cX9_roundOf 39 = .ok (.iinc 2 1, 3) := by decide +kernel
theorem dX9_roundOf_42 : decode cX9_roundOf 42 = .ok (.goto (-22), 3) := by decide +kernel
theorem dX9_roundOf_45 : decode cX9_roundOf 45 = .ok (.aload_n 0, 1) := by decide +kernel
theorem dX9_roundOf_46 : decode cX9_roundOf 46 = .ok (.getfield 51, 3) := by decide +kernel
theorem dX9_roundOf_49 : decode cX9_roundOf 49 = .ok (.iload_n 1, 1) := by decide +kernel
theorem dX9_roundOf_50 : decode cX9_roundOf 50 = .ok (.iaload, 1) := by decide +kernel
theorem dX9_roundOf_51 : decode cX9_roundOf 51 = .ok (.ifCond .ge 7, 3) := by decide +kernel
theorem dX9_roundOf_54 : decode cX9_roundOf 54 = .ok (.iconst (-1), 1) := by decide +kernel
theorem dX9_roundOf_55 : decode cX9_roundOf 55 = .ok (.goto 4, 3) := by decide +kernel
theorem dX9_roundOf_58 : decode cX9_roundOf 58 = .ok (.iload_n 2, 1) := by decide +kernel
theorem dX9_roundOf_59 : decode cX9_roundOf 59 = .ok (.ireturn, 1) := by decide +kernel
theorem dX9_commonSupport_0 : decode cX9_commonSupport 0 = .ok (.aload_n 0, 1) := by decide +kernel
theorem dX9_commonSupport_1 : decode cX9_commonSupport 1 = .ok (.aload_n 0, 1) := by decide +kernel
theorem dX9_commonSupport_2 : decode cX9_commonSupport 2 = .ok (.iload_n 1, 1) := by decide +kernel
theorem dX9_commonSupport_3 : decode cX9_commonSupport 3 = .ok (.invokevirtual 240, 3) := by decide +kernel
theorem dX9_commonSupport_6 : decode cX9_commonSupport 6 = .ok (.ifCond .eq 15, 3) := by decide +kernel
theorem dX9_commonSupport_9 : decode cX9_commonSupport 9 = .ok (.aload_n 0, 1) := by decide +kernel
theorem dX9_commonSupport_10 : decode cX9_commonSupport 10 = .ok (.iload_n 2, 1) := by decide +kernel
theorem dX9_commonSupport_11 : decode cX9_commonSupport 11 = .ok (.invokevirtual 240, 3) := by decide +kernel
theorem dX9_commonSupport_14 : decode cX9_commonSupport 14 = .ok (.ifCond .eq 7, 3) := by decide +kernel
theorem dX9_commonSupport_17 : decode cX9_commonSupport 17 = .ok (.iconst 1, 1) := by decide +kernel
theorem dX9_commonSupport_18 : decode cX9_commonSupport 18 = .ok (.goto 4, 3) := by decide +kernel
theorem dX9_commonSupport_21 : decode cX9_commonSupport 21 = .ok (.iconst 0, 1) := by decide +kernel
theorem dX9_commonSupport_22 : decode cX9_commonSupport 22 = .ok (.invokevirtual 236, 3) := by decide +kernel
theorem dX9_commonSupport_25 : decode cX9_commonSupport 25 = .ok (.ifCond .eq 5, 3) := by decide +kernel
theorem dX9_commonSupport_28 : decode cX9_commonSupport 28 = .ok (.iconst 0, 1) := by decide +kernel
theorem dX9_commonSupport_29 : decode cX9_commonSupport 29 = .ok (.ireturn, 1) := by decide +kernel
theorem dX9_commonSupport_30 : decode cX9_commonSupport 30 = .ok (.iconst 0, 1) := by decide +kernel
theorem dX9_commonSupport_31 : decode cX9_commonSupport 31 = .ok (.istore_n 3, 1) := by decide +kernel
theorem dX9_commonSupport_32 : decode cX9_commonSupport 32 = .ok (.iconst 0, 1) := by decide +kernel
theorem dX9_commonSupport_33 : decode cX9_commonSupport 33 = .ok (.istore 4, 2) := by decide +kernel
theorem dX9_commonSupport_35 : decode cX9_commonSupport 35 = .ok (.iload 4, 2) := by decide +kernel
theorem dX9_commonSupport_37 : decode cX9_commonSupport 37 = .ok (.aload_n 0, 1) := by decide +kernel
theorem dX9_commonSupport_38 : decode cX9_commonSupport 38 = .ok (.getfield 229, 3) := by decide +kernel
theorem dX9_commonSupport_41 : decode cX9_commonSupport 41 = .ok (.if_icmp .ge 37, 3) := by decide +kernel
theorem dX9_commonSupport_44 : decode cX9_commonSupport 44 = .ok (.iload_n 3, 1) := by decide +kernel
theorem dX9_commonSupport_45 : decode cX9_commonSupport 45 = .ok (.aload_n 0, 1) := by decide +kernel
theorem dX9_commonSupport_46 : decode cX9_commonSupport 46 = .ok (.iload 4, 2) := by decide +kernel
theorem dX9_commonSupport_48 : decode cX9_commonSupport 48 = .ok (.iload_n 1, 1) := by decide +kernel
theorem dX9_commonSupport_49 : decode cX9_commonSupport 49 = .ok (.invokevirtual 246, 3) := by decide +kernel
theorem dX9_commonSupport_52 : decode cX9_commonSupport 52 = .ok (.ifCond .eq 17, 3) := by decide +kernel
theorem dX9_commonSupport_55 : decode cX9_commonSupport 55 = .ok (.aload_n 0, 1) := by decide +kernel
theorem dX9_commonSupport_56 : decode cX9_commonSupport 56 = .ok (.iload 4, 2) := by decide +kernel
theorem dX9_commonSupport_58 : decode cX9_commonSupport 58 = .ok (.iload_n 2, 1) := by decide +kernel
theorem dX9_commonSupport_59 : decode cX9_commonSupport 59 = .ok (.invokevirtual 246, 3) := by decide +kernel
theorem dX9_commonSupport_62 : decode cX9_commonSupport 62 = .ok (.ifCond .eq 7, 3) := by decide +kernel
theorem dX9_commonSupport_65 : decode cX9_commonSupport 65 = .ok (.iconst 1, 1) := by decide +kernel
theorem dX9_commonSupport_66 : decode cX9_commonSupport 66 = .ok (.goto 4, 3) := by decide +kernel
theorem dX9_commonSupport_69 : decode cX9_commonSupport 69 = .ok (.iconst 0, 1) := by decide +kernel
theorem dX9_commonSupport_70 : decode cX9_commonSupport 70 = .ok (.iadd, 1) := by decide +kernel
theorem dX9_commonSupport_71 : decode cX9_commonSupport 71 = .ok (.istore_n 3, 1) := by decide +kernel
theorem dX9_commonSupport_72 : decode cX9_commonSupport 72 = .ok (.iinc 4 1, 3) := by decide +kernel
theorem dX9_commonSupport_75 : decode cX9_commonSupport 75 = .ok (.goto (-40), 3) := by decide +kernel
theorem dX9_commonSupport_78 : decode cX9_commonSupport 78 = .ok (.iload_n 3, 1) := by decide +kernel
theorem dX9_commonSupport_79 : decode cX9_commonSupport 79 = .ok (.ireturn, 1) := by decide +kernel
theorem dX9_priceIn_0 : decode cX9_priceIn 0 = .ok (.aload_n 0, 1) := by decide +kernel
theorem dX9_priceIn_1 : decode cX9_priceIn 1 = .ok (.aload_n 0, 1) := by decide +kernel
theorem dX9_priceIn_2 : decode cX9_priceIn 2 = .ok (.iload_n 1, 1) := by decide +kernel
theorem dX9_priceIn_3 : decode cX9_priceIn 3 = .ok (.invokevirtual 240, 3) := by decide +kernel
theorem dX9_priceIn_6 : decode cX9_priceIn 6 = .ok (.invokevirtual 236, 3) := by decide +kernel
theorem dX9_priceIn_9 : decode cX9_priceIn 9 = .ok (.ifCond .eq 5, 3) := by decide +kernel
theorem dX9_priceIn_12 : decode cX9_priceIn 12 = .ok (.iconst 0, 1) := by decide +kernel
theorem dX9_priceIn_13 : decode cX9_priceIn 13 = .ok (.ireturn, 1) := by decide +kernel
theorem dX9_priceIn_14 : decode cX9_priceIn 14 = .ok (.aload_n 0, 1) := by decide +kernel
theorem dX9_priceIn_15 : decode cX9_priceIn 15 = .ok (.invokevirtual 335, 3) := by decide +kernel
theorem dX9_priceIn_18 : decode cX9_priceIn 18 = .ok (.iconst 0, 1) := by decide +kernel
theorem dX9_priceIn_19 : decode cX9_priceIn 19 = .ok (.istore_n 3, 1) := by decide +kernel
theorem dX9_priceIn_20 : decode cX9_priceIn 20 = .ok (.iconst 0, 1) := by decide +kernel
theorem dX9_priceIn_21 : decode cX9_priceIn 21 = .ok (.istore 4, 2) := by decide +kernel
theorem dX9_priceIn_23 : decode cX9_priceIn 23 = .ok (.iload 4, 2) := by decide +kernel
theorem dX9_priceIn_25 : decode cX9_priceIn 25 = .ok (.aload_n 0, 1) := by decide +kernel
theorem dX9_priceIn_26 : decode cX9_priceIn 26 = .ok (.getfield 226, 3) := by decide +kernel
theorem dX9_priceIn_29 : decode cX9_priceIn 29 = .ok (.if_icmp .ge 27, 3) := by decide +kernel
theorem dX9_priceIn_32 : decode cX9_priceIn 32 = .ok (.iload_n 3, 1) := by decide +kernel
theorem dX9_priceIn_33 : decode cX9_priceIn 33 = .ok (.aload_n 0, 1) := by decide +kernel
theorem dX9_priceIn_34 : decode cX9_priceIn 34 = .ok (.getfield 51, 3) := by decide +kernel
theorem dX9_priceIn_37 : decode cX9_priceIn 37 = .ok (.iload 4, 2) := by decide +kernel
theorem dX9_priceIn_39 : decode cX9_priceIn 39 = .ok (.iaload, 1) := by decide +kernel
theorem dX9_priceIn_40 : decode cX9_priceIn 40 = .ok (.ifCond .lt 7, 3) := by decide +kernel
theorem dX9_priceIn_43 : decode cX9_priceIn 43 = .ok (.iconst 1, 1) := by decide +kernel
theorem dX9_priceIn_44 : decode cX9_priceIn 44 = .ok (.goto 4, 3) := by decide +kernel
theorem dX9_priceIn_47 : decode cX9_priceIn 47 = .ok (.iconst 0, 1) := by decide +kernel
theorem dX9_priceIn_48 : decode cX9_priceIn 48 = .ok (.iadd, 1) := by decide +kernel
theorem dX9_priceIn_49 : decode cX9_priceIn 49 = .ok (.istore_n 3, 1) := by decide +kernel
theorem dX9_priceIn_50 : decode cX9_priceIn 50 = .ok (.iinc 4 1, 3) := by decide +kernel
theorem dX9_priceIn_53 : decode cX9_priceIn 53 = .ok (.goto (-30), 3) := by decide +kernel
theorem dX9_priceIn_56 : decode cX9_priceIn 56 = .ok (.iload_n 2, 1) := by decide +kernel
theorem dX9_priceIn_57 : decode cX9_priceIn 57 = .ok (.iconst 0, 1) := by decide +kernel
theorem dX9_priceIn_58 : decode cX9_priceIn 58 = .ok (.iload_n 3, 1) := by decide +kernel
theorem dX9_priceIn_59 : decode cX9_priceIn 59 = .ok (.invokestatic 113, 3) := by decide +kernel
theorem dX9_priceIn_62 : decode cX9_priceIn 62 = .ok (.ifCond .ne 6, 3) := by decide +kernel
theorem dX9_priceIn_65 : decode cX9_priceIn 65 = .ok (.bipush (-2), 2) := by decide +kernel
theorem dX9_priceIn_67 : decode cX9_priceIn 67 = .ok (.ireturn, 1) := by decide +kernel
theorem dX9_priceIn_68 : decode cX9_priceIn 68 = .ok (.aload_n 0, 1) := by decide +kernel
theorem dX9_priceIn_69 : decode cX9_priceIn 69 = .ok (.iload_n 2, 1) := by decide +kernel
theorem dX9_priceIn_70 : decode cX9_priceIn 70 = .ok (.putfield 63, 3) := by decide +kernel
theorem dX9_priceIn_73 : decode cX9_priceIn 73 = .ok (.aload_n 0, 1) := by decide +kernel
theorem dX9_priceIn_74 : decode cX9_priceIn 74 = .ok (.aload_n 0, 1) := by decide +kernel
theorem dX9_priceIn_75 : decode cX9_priceIn 75 = .ok (.getfield 307, 3) := by decide +kernel
theorem dX9_priceIn_78 : decode cX9_priceIn 78 = .ok (.aload_n 0, 1) := by decide +kernel
theorem dX9_priceIn_79 : decode cX9_priceIn 79 = .ok (.getfield 7, 3) := by decide +kernel
theorem dX9_priceIn_82 : decode cX9_priceIn 82 = .ok (.iconst 2, 1) := by decide +kernel
theorem dX9_priceIn_83 : decode cX9_priceIn 83 = .ok (.iaload, 1) := by decide +kernel
theorem dX9_priceIn_84 : decode cX9_priceIn 84 = .ok (.imul, 1) := by decide +kernel
theorem dX9_priceIn_85 : decode cX9_priceIn 85 = .ok (.invokevirtual 301, 3) := by decide +kernel
theorem dX9_priceIn_88 : decode cX9_priceIn 88 = .ok (.aload_n 0, 1) := by decide +kernel
theorem dX9_priceIn_89 : decode cX9_priceIn 89 = .ok (.bipush 12, 2) := by decide +kernel
theorem dX9_priceIn_91 : decode cX9_priceIn 91 = .ok (.putfield 63, 3) := by decide +kernel
theorem dX9_priceIn_94 : decode cX9_priceIn 94 = .ok (.aload_n 0, 1) := by decide +kernel
theorem dX9_priceIn_95 : decode cX9_priceIn 95 = .ok (.getfield 274, 3) := by decide +kernel
theorem dX9_priceIn_98 : decode cX9_priceIn 98 = .ok (.iload_n 1, 1) := by decide +kernel
theorem dX9_priceIn_99 : decode cX9_priceIn 99 = .ok (.invokestatic 163, 3) := by decide +kernel
theorem dX9_priceIn_102 : decode cX9_priceIn 102 = .ok (.ifCond .eq 7, 3) := by decide +kernel
theorem dX9_priceIn_105 : decode cX9_priceIn 105 = .ok (.iconst (-1), 1) := by decide +kernel
theorem dX9_priceIn_106 : decode cX9_priceIn 106 = .ok (.goto 8, 3) := by decide +kernel
theorem dX9_priceIn_109 : decode cX9_priceIn 109 = .ok (.aload_n 0, 1) := by decide +kernel
theorem dX9_priceIn_110 : decode cX9_priceIn 110 = .ok (.iload_n 1, 1) := by decide +kernel
theorem dX9_priceIn_111 : decode cX9_priceIn 111 = .ok (.invokevirtual 271, 3) := by decide +kernel
theorem dX9_priceIn_114 : decode cX9_priceIn 114 = .ok (.ireturn, 1) := by decide +kernel
theorem dX9_fundedWith_0 : decode cX9_fundedWith 0 = .ok (.aload_n 0, 1) := by decide +kernel
theorem dX9_fundedWith_1 : decode cX9_fundedWith 1 = .ok (.getfield 7, 3) := by decide +kernel
theorem dX9_fundedWith_4 : decode cX9_fundedWith 4 = .ok (.iload_n 1, 1) := by decide +kernel
theorem dX9_fundedWith_5 : decode cX9_fundedWith 5 = .ok (.iaload, 1) := by decide +kernel
theorem dX9_fundedWith_6 : decode cX9_fundedWith 6 = .ok (.istore_n 3, 1) := by decide +kernel
theorem dX9_fundedWith_7 : decode cX9_fundedWith 7 = .ok (.aload_n 0, 1) := by decide +kernel
theorem dX9_fundedWith_8 : decode cX9_fundedWith 8 = .ok (.getfield 7, 3) := by decide +kernel
theorem dX9_fundedWith_11 : decode cX9_fundedWith 11 = .ok (.iload_n 1, 1) := by decide +kernel
theorem dX9_fundedWith_12 : decode cX9_fundedWith 12 = .ok (.iload_n 2, 1) := by decide +kernel
theorem dX9_fundedWith_13 : decode cX9_fundedWith 13 = .ok (.iastore, 1) := by decide +kernel
theorem dX9_fundedWith_14 : decode cX9_fundedWith 14 = .ok (.aload_n 0, 1) := by decide +kernel
theorem dX9_fundedWith_15 : decode cX9_fundedWith 15 = .ok (.invokevirtual 335, 3) := by decide +kernel
theorem dX9_fundedWith_18 : decode cX9_fundedWith 18 = .ok (.aload_n 0, 1) := by decide +kernel
theorem dX9_fundedWith_19 : decode cX9_fundedWith 19 = .ok (.getfield 7, 3) := by decide +kernel
theorem dX9_fundedWith_22 : decode cX9_fundedWith 22 = .ok (.iload_n 1, 1) := by decide +kernel
theorem dX9_fundedWith_23 : decode cX9_fundedWith 23 = .ok (.iload_n 3, 1) := by decide +kernel
theorem dX9_fundedWith_24 : decode cX9_fundedWith 24 = .ok (.iastore, 1) := by decide +kernel
theorem dX9_fundedWith_25 : decode cX9_fundedWith 25 = .ok (.aload_n 0, 1) := by decide +kernel
theorem dX9_fundedWith_26 : decode cX9_fundedWith 26 = .ok (.getfield 274, 3) := by decide +kernel
theorem dX9_fundedWith_29 : decode cX9_fundedWith 29 = .ok (.ireturn, 1) := by decide +kernel
theorem dX9_fundedWithBudget_0 : decode cX9_fundedWithBudget 0 = .ok (.aload_n 0, 1) := by decide +kernel
theorem dX9_fundedWithBudget_1 : decode cX9_fundedWithBudget 1 = .ok (.aload_n 0, 1) := by decide +kernel
theorem dX9_fundedWithBudget_2 : decode cX9_fundedWithBudget 2 = .ok (.iload_n 1, 1) := by decide +kernel
theorem dX9_fundedWithBudget_3 : decode cX9_fundedWithBudget 3 = .ok (.invokevirtual 232, 3) := by decide +kernel
theorem dX9_fundedWithBudget_6 : decode cX9_fundedWithBudget 6 = .ok (.invokevirtual 236, 3) := by decide +kernel
theorem dX9_fundedWithBudget_9 : decode cX9_fundedWithBudget 9 = .ok (.ifCond .eq 5, 3) := by decide +kernel
theorem dX9_fundedWithBudget_12 : decode cX9_fundedWithBudget 12 = .ok (.iconst 0, 1) := by decide +kernel
theorem dX9_fundedWithBudget_13 : decode cX9_fundedWithBudget 13 = .ok (.ireturn, 1) := by decide +kernel
theorem dX9_fundedWithBudget_14 : decode cX9_fundedWithBudget 14 = .ok (.iload_n 2, 1) := by decide +kernel
theorem dX9_fundedWithBudget_15 : decode cX9_fundedWithBudget 15 = .ok (.iconst 0, 1) := by decide +kernel
theorem dX9_fundedWithBudget_16 : decode cX9_fundedWithBudget 16 = .ok (.ldc 170, 2) := by decide +kernel
theorem dX9_fundedWithBudget_18 : decode cX9_fundedWithBudget 18 = .ok (.invokestatic 113, 3) := by decide +kernel
theorem dX9_fundedWithBudget_21 : decode cX9_fundedWithBudget 21 = .ok (.ifCond .eq 14, 3) := by decide +kernel
theorem dX9_fundedWithBudget_24 : decode cX9_fundedWithBudget 24 = .ok (.aload_n 0, 1) := by decide +kernel
theorem dX9_fundedWithBudget_25 : decode cX9_fundedWithBudget 25 = .ok (.iconst 4, 1) := by decide +kernel
theorem dX9_fundedWithBudget_26 : decode cX9_fundedWithBudget 26 = .ok (.iload_n 1, 1) := by decide +kernel
theorem dX9_fundedWithBudget_27 : decode cX9_fundedWithBudget 27 = .ok (.iadd, 1) := by decide +kernel
theorem dX9_fundedWithBudget_28 : decode cX9_fundedWithBudget 28 = .ok (.iload_n 2, 1) := by decide +kernel
theorem dX9_fundedWithBudget_29 : decode cX9_fundedWithBudget 29 = .ok (.invokevirtual 367, 3) := by decide +kernel
theorem dX9_fundedWithBudget_32 : decode cX9_fundedWithBudget 32 = .ok (.goto 5, 3) := by decide +kernel
theorem dX9_fundedWithBudget_35 : decode cX9_fundedWithBudget 35 = .ok (.bipush (-2), 2) := by decide +kernel
theorem dX9_fundedWithBudget_37 : decode cX9_fundedWithBudget 37 = .ok (.ireturn, 1) := by decide +kernel
theorem dX9_fundedWithCost_0 : decode cX9_fundedWithCost 0 = .ok (.aload_n 0, 1) := by decide +kernel
theorem dX9_fundedWithCost_1 : decode cX9_fundedWithCost 1 = .ok (.aload_n 0, 1) := by decide +kernel
theorem dX9_fundedWithCost_2 : decode cX9_fundedWithCost 2 = .ok (.iload_n 1, 1) := by decide +kernel
theorem dX9_fundedWithCost_3 : decode cX9_fundedWithCost 3 = .ok (.invokevirtual 240, 3) := by decide +kernel
theorem dX9_fundedWithCost_6 : decode cX9_fundedWithCost 6 = .ok (.invokevirtual 236, 3) := by decide +kernel
theorem dX9_fundedWithCost_9 : decode cX9_fundedWithCost 9 = .ok (.ifCond .eq 5, 3) := by decide +kernel
theorem dX9_fundedWithCost_12 : decode cX9_fundedWithCost 12 = .ok (.iconst 0, 1) := by decide +kernel
theorem dX9_fundedWithCost_13 : decode cX9_fundedWithCost 13 = .ok (.ireturn, 1) := by decide +kernel
theorem dX9_fundedWithCost_14 : decode cX9_fundedWithCost 14 = .ok (.iload_n 2, 1) := by decide +kernel
theorem dX9_fundedWithCost_15 : decode cX9_fundedWithCost 15 = .ok (.iconst 1, 1) := by decide +kernel
theorem dX9_fundedWithCost_16 : decode cX9_fundedWithCost 16 = .ok (.ldc 170, 2) := by decide +kernel
theorem dX9_fundedWithCost_18 : decode cX9_fundedWithCost 18 = .ok (.invokestatic 113, 3) := by decide +kernel
theorem dX9_fundedWithCost_21 : decode cX9_fundedWithCost 21 = .ok (.ifCond .eq 15, 3) := by decide +kernel
theorem dX9_fundedWithCost_24 : decode cX9_fundedWithCost 24 = .ok (.aload_n 0, 1) := by decide +kernel
theorem dX9_fundedWithCost_25 : decode cX9_fundedWithCost 25 = .ok (.bipush 8, 2) := by decide +kernel
theorem dX9_fundedWithCost_27 : decode cX9_fundedWithCost 27 = .ok (.iload_n 1, 1) := by decide +kernel
theorem dX9_fundedWithCost_28 : decode cX9_fundedWithCost 28 = .ok (.iadd, 1) := by decide +kernel
theorem dX9_fundedWithCost_29 : decode cX9_fundedWithCost 29 = .ok (.iload_n 2, 1) := by decide +kernel
theorem dX9_fundedWithCost_30 : decode cX9_fundedWithCost 30 = .ok (.invokevirtual 367, 3) := by decide +kernel
theorem dX9_fundedWithCost_33 : decode cX9_fundedWithCost 33 = .ok (.goto 5, 3) := by decide +kernel
theorem dX9_fundedWithCost_36 : decode cX9_fundedWithCost 36 = .ok (.bipush (-2), 2) := by decide +kernel
theorem dX9_fundedWithCost_38 : decode cX9_fundedWithCost 38 = .ok (.ireturn, 1) := by decide +kernel
theorem dX9_fundedWithout_0 : decode cX9_fundedWithout 0 = .ok (.aload_n 0, 1) := by decide +kernel
theorem dX9_fundedWithout_1 : decode cX9_fundedWithout 1 = .ok (.aload_n 0, 1) := by decide +kernel
theorem dX9_fundedWithout_2 : decode cX9_fundedWithout 2 = .ok (.iload_n 1, 1) := by decide +kernel
theorem dX9_fundedWithout_3 : decode cX9_fundedWithout 3 = .ok (.invokevirtual 240, 3) := by decide +kernel
theorem dX9_fundedWithout_6 : decode cX9_fundedWithout 6 = .ok (.invokevirtual 236, 3) := by decide +kernel
theorem dX9_fundedWithout_9 : decode cX9_fundedWithout 9 = .ok (.ifCond .eq 5, 3) := by decide +kernel
theorem dX9_fundedWithout_12 : decode cX9_fundedWithout 12 = .ok (.iconst 0, 1) := by decide +kernel
theorem dX9_fundedWithout_13 : decode cX9_fundedWithout 13 = .ok (.ireturn, 1) := by decide +kernel
theorem dX9_fundedWithout_14 : decode cX9_fundedWithout 14 = .ok (.iconst 0, 1) := by decide +kernel
theorem dX9_fundedWithout_15 : decode cX9_fundedWithout 15 = .ok (.istore_n 2, 1) := by decide +kernel
theorem dX9_fundedWithout_16 : decode cX9_fundedWithout 16 = .ok (.iload_n 2, 1) := by decide +kernel
theorem dX9_fundedWithout_17 : decode cX9_fundedWithout 17 = .ok (.aload_n 0, 1) := by decide +kernel
theorem dX9_fundedWithout_18 : decode cX9_fundedWithout 18 = .ok (.getfield 229, 3) := by decide +kernel
theorem dX9_fundedWithout_21 : decode cX9_fundedWithout 21 = .ok (.if_icmp .ge 44, 3) := by decide +kernel
theorem dX9_fundedWithout_24 : decode cX9_fundedWithout 24 = .ok (.aload_n 0, 1) := by decide +kernel
theorem dX9_fundedWithout_25 : decode cX9_fundedWithout 25 = .ok (.getfield 70, 3) := by decide +kernel
theorem dX9_fundedWithout_28 : decode cX9_fundedWithout 28 = .ok (.iload_n 2, 1) := by decide +kernel
theorem dX9_fundedWithout_29 : decode cX9_fundedWithout 29 = .ok (.aload_n 0, 1) := by decide +kernel
theorem dX9_fundedWithout_30 : decode cX9_fundedWithout 30 = .ok (.getfield 7, 3) := by decide +kernel
theorem dX9_fundedWithout_33 : decode cX9_fundedWithout 33 = .ok (.bipush 68, 2) := by decide +kernel
theorem dX9_fundedWithout_35 : decode cX9_fundedWithout 35 = .ok (.iload_n 2, 1) := by decide +kernel
theorem dX9_fundedWithout_36 : decode cX9_fundedWithout 36 = .ok (.iadd, 1) := by decide +kernel
theorem dX9_fundedWithout_37 : decode cX9_fundedWithout 37 = .ok (.iaload, 1) := by decide +kernel
theorem dX9_fundedWithout_38 : decode cX9_fundedWithout 38 = .ok (.iastore, 1) := by decide +kernel
theorem dX9_fundedWithout_39 : decode cX9_fundedWithout 39 = .ok (.aload_n 0, 1) := by decide +kernel
theorem dX9_fundedWithout_40 : decode cX9_fundedWithout 40 = .ok (.getfield 7, 3) := by decide +kernel
theorem dX9_fundedWithout_43 : decode cX9_fundedWithout 43 = .ok (.bipush 68, 2) := by decide +kernel
theorem dX9_fundedWithout_45 : decode cX9_fundedWithout 45 = .ok (.iload_n 2, 1) := by decide +kernel
theorem dX9_fundedWithout_46 : decode cX9_fundedWithout 46 = .ok (.iadd, 1) := by decide +kernel
theorem dX9_fundedWithout_47 : decode cX9_fundedWithout 47 = .ok (.aload_n 0, 1) := by decide +kernel
theorem dX9_fundedWithout_48 : decode cX9_fundedWithout 48 = .ok (.getfield 70, 3) := by decide +kernel
theorem dX9_fundedWithout_51 : decode cX9_fundedWithout 51 = .ok (.iload_n 2, 1) := by decide +kernel
theorem dX9_fundedWithout_52 : decode cX9_fundedWithout 52 = .ok (.iaload, 1) := by decide +kernel
theorem dX9_fundedWithout_53 : decode cX9_fundedWithout 53 = .ok (.iload_n 1, 1) := by decide +kernel
theorem dX9_fundedWithout_54 : decode cX9_fundedWithout 54 = .ok (.iconst 0, 1) := by decide +kernel
theorem dX9_fundedWithout_55 : decode cX9_fundedWithout 55 = .ok (.invokestatic 370, 3) := by decide +kernel
theorem dX9_fundedWithout_58 : decode cX9_fundedWithout 58 = .ok (.iastore, 1) := by decide +kernel
theorem dX9_fundedWithout_59 : decode cX9_fundedWithout 59 = .ok (.iinc 2 1, 3) := by decide +kernel
theorem dX9_fundedWithout_62 : decode cX9_fundedWithout 62 = .ok (.goto (-46), 3) := by decide +kernel
theorem dX9_fundedWithout_65 : decode cX9_fundedWithout 65 = .ok (.aload_n 0, 1) := by decide +kernel
theorem dX9_fundedWithout_66 : decode cX9_fundedWithout 66 = .ok (.invokevirtual 335, 3) := by decide +kernel
theorem dX9_fundedWithout_69 : decode cX9_fundedWithout 69 = .ok (.iconst 0, 1) := by decide +kernel
theorem dX9_fundedWithout_70 : decode cX9_fundedWithout 70 = .ok (.istore_n 2, 1) := by decide +kernel
theorem dX9_fundedWithout_71 : decode cX9_fundedWithout 71 = .ok (.iload_n 2, 1) := by decide +kernel
theorem dX9_fundedWithout_72 : decode cX9_fundedWithout 72 = .ok (.aload_n 0, 1) := by decide +kernel
theorem dX9_fundedWithout_73 : decode cX9_fundedWithout 73 = .ok (.getfield 229, 3) := by decide +kernel
theorem dX9_fundedWithout_76 : decode cX9_fundedWithout 76 = .ok (.if_icmp .ge 24, 3) := by decide +kernel
theorem dX9_fundedWithout_79 : decode cX9_fundedWithout 79 = .ok (.aload_n 0, 1) := by decide +kernel
theorem dX9_fundedWithout_80 : decode cX9_fundedWithout 80 = .ok (.getfield 7, 3) := by decide +kernel
theorem dX9_fundedWithout_83 : decode cX9_fundedWithout 83 = .ok (.bipush 68, 2) := by decide +kernel
theorem dX9_fundedWithout_85 : decode cX9_fundedWithout 85 = .ok (.iload_n 2, 1) := by decide +kernel
theorem dX9_fundedWithout_86 : decode cX9_fundedWithout 86 = .ok (.iadd, 1) := by decide +kernel
theorem dX9_fundedWithout_87 : decode cX9_fundedWithout 87 = .ok (.aload_n 0, 1) := by decide +kernel
theorem dX9_fundedWithout_88 : decode cX9_fundedWithout 88 = .ok (.getfield 70, 3) := by decide +kernel
theorem dX9_fundedWithout_91 : decode cX9_fundedWithout 91 = .ok (.iload_n 2, 1) := by decide +kernel
theorem dX9_fundedWithout_92 : decode cX9_fundedWithout 92 = .ok (.iaload, 1) := by decide +kernel
theorem dX9_fundedWithout_93 : decode cX9_fundedWithout 93 = .ok (.iastore, 1) := by decide +kernel
theorem dX9_fundedWithout_94 : decode cX9_fundedWithout 94 = .ok (.iinc 2 1, 3) := by decide +kernel
theorem dX9_fundedWithout_97 : decode cX9_fundedWithout 97 = .ok (.goto (-26), 3) := by decide +kernel
theorem dX9_fundedWithout_100 : decode cX9_fundedWithout 100 = .ok (.aload_n 0, 1) := by decide +kernel
theorem dX9_fundedWithout_101 : decode cX9_fundedWithout 101 = .ok (.getfield 274, 3) := by decide +kernel
theorem dX9_fundedWithout_104 : decode cX9_fundedWithout 104 = .ok (.ireturn, 1) := by decide +kernel
theorem dX9_cheapestSet_0 : decode cX9_cheapestSet 0 = .ok (.aload_n 0, 1) := by decide +kernel
theorem dX9_cheapestSet_1 : decode cX9_cheapestSet 1 = .ok (.iconst 0, 1) := by decide +kernel
theorem dX9_cheapestSet_2 : decode cX9_cheapestSet 2 = .ok (.putfield 77, 3) := by decide +kernel
theorem dX9_cheapestSet_5 : decode cX9_cheapestSet 5 = .ok (.iload_n 1, 1) := by decide +kernel
theorem dX9_cheapestSet_6 : decode cX9_cheapestSet 6 = .ok (.ifCond .ge 6, 3) := by decide +kernel
theorem dX9_cheapestSet_9 : decode cX9_cheapestSet 9 = .ok (.bipush (-2), 2) := by decide +kernel
theorem dX9_cheapestSet_11 : decode cX9_cheapestSet 11 = .ok (.ireturn, 1) := by decide +kernel
theorem dX9_cheapestSet_12 : decode cX9_cheapestSet 12 = .ok (.aload_n 0, 1) := by decide +kernel
theorem dX9_cheapestSet_13 : decode cX9_cheapestSet 13 = .ok (.invokevirtual 322, 3) := by decide +kernel
theorem dX9_cheapestSet_16 : decode cX9_cheapestSet 16 = .ok (.iconst (-1), 1) := by decide +kernel
theorem dX9_cheapestSet_17 : decode cX9_cheapestSet 17 = .ok (.istore_n 2, 1) := by decide +kernel
theorem dX9_cheapestSet_18 : decode cX9_cheapestSet 18 = .ok (.iconst 0, 1) := by decide +kernel
theorem dX9_cheapestSet_19 : decode cX9_cheapestSet 19 = .ok (.istore_n 3, 1) := by decide +kernel
theorem dX9_cheapestSet_20 : decode cX9_cheapestSet 20 = .ok (.iload_n 3, 1) := by decide +kernel
theorem dX9_cheapestSet_21 : decode cX9_cheapestSet 21 = .ok (.iconst 1, 1) := by decide +kernel
theorem dX9_cheapestSet_22 : decode cX9_cheapestSet 22 = .ok (.aload_n 0, 1) := by decide +kernel
theorem dX9_cheapestSet_23 : decode cX9_cheapestSet 23 = .ok (.getfield 226, 3) := by decide +kernel
theorem dX9_cheapestSet_26 : decode cX9_cheapestSet 26 = .ok (.ishl, 1) := by decide +kernel
theorem dX9_cheapestSet_27 : decode cX9_cheapestSet 27 = .ok (.if_icmp .ge 50, 3) := by decide +kernel
theorem dX9_cheapestSet_30 : decode cX9_cheapestSet 30 = .ok (.aload_n 0, 1) := by decide +kernel
theorem dX9_cheapestSet_31 : decode cX9_cheapestSet 31 = .ok (.iload_n 3, 1) := by decide +kernel
theorem dX9_cheapestSet_32 : decode cX9_cheapestSet 32 = .ok (.invokevirtual 325, 3) := by decide +kernel
theorem dX9_cheapestSet_35 : decode cX9_cheapestSet 35 = .ok (.iload_n 1, 1) := by decide +kernel
theorem dX9_cheapestSet_36 : decode cX9_cheapestSet 36 = .ok (.i2l, 1) := by decide +kernel
theorem dX9_cheapestSet_37 : decode cX9_cheapestSet 37 = .ok (.lcmp, 1) := by decide +kernel
theorem dX9_cheapestSet_38 : decode cX9_cheapestSet 38 = .ok (.ifCond .lt 33, 3) := by decide +kernel
theorem dX9_cheapestSet_41 : decode cX9_cheapestSet 41 = .ok (.iload_n 2, 1) := by decide +kernel
theorem dX9_cheapestSet_42 : decode cX9_cheapestSet 42 = .ok (.ifCond .lt 16, 3) := by decide +kernel
theorem dX9_cheapestSet_45 : decode cX9_cheapestSet 45 = .ok (.aload_n 0, 1) := by decide +kernel
theorem dX9_cheapestSet_46 : decode cX9_cheapestSet 46 = .ok (.iload_n 3, 1) := by decide +kernel
theorem dX9_cheapestSet_47 : decode cX9_cheapestSet 47 = .ok (.invokevirtual 329, 3) := by decide +kernel
theorem dX9_cheapestSet_50 : decode cX9_cheapestSet 50 = .ok (.aload_n 0, 1) := by decide +kernel
theorem dX9_cheapestSet_51 : decode cX9_cheapestSet 51 = .ok (.iload_n 2, 1) := by decide +kernel
theorem dX9_cheapestSet_52 : decode cX9_cheapestSet 52 = .ok (.invokevirtual 329, 3) := by decide +kernel
theorem dX9_cheapestSet_55 : decode cX9_cheapestSet 55 = .ok (.if_icmp .ge 16, 3) := by decide +kernel
theorem dX9_cheapestSet_58 : decode cX9_cheapestSet 58 = .ok (.aload_n 0, 1) := by decide +kernel
theorem dX9_cheapestSet_59 : decode cX9_cheapestSet 59 = .ok (.iload_n 3, 1) := by decide +kernel
theorem dX9_cheapestSet_60 : decode cX9_cheapestSet 60 = .ok (.invokevirtual 332, 3) := by decide +kernel
theorem dX9_cheapestSet_63 : decode cX9_cheapestSet 63 = .ok (.ifCond .ne 6, 3) := by decide +kernel
theorem dX9_cheapestSet_66 : decode cX9_cheapestSet 66 = .ok (.goto 5, 3) := by decide +kernel
theorem dX9_cheapestSet_69 : decode cX9_cheapestSet 69 = .ok (.iload_n 3, 1) := by decide +kernel
theorem dX9_cheapestSet_70 : decode cX9_cheapestSet 70 = .ok (.istore_n 2, 1) := by decide +kernel
theorem dX9_cheapestSet_71 : decode cX9_cheapestSet 71 = .ok (.iinc 3 1, 3) := by decide +kernel
theorem dX9_cheapestSet_74 : decode cX9_cheapestSet 74 = .ok (.goto (-54), 3) := by decide +kernel
theorem dX9_cheapestSet_77 : decode cX9_cheapestSet 77 = .ok (.iload_n 2, 1) := by decide +kernel
theorem dX9_cheapestSet_78 : decode cX9_cheapestSet 78 = .ok (.ireturn, 1) := by decide +kernel
theorem dX9_districtWelfare_0 : decode cX9_districtWelfare 0 = .ok (.aload_n 0, 1) := by decide +kernel
theorem dX9_districtWelfare_1 : decode cX9_districtWelfare 1 = .ok (.aload_n 0, 1) := by decide +kernel
theorem dX9_districtWelfare_2 : decode cX9_districtWelfare 2 = .ok (.iload_n 2, 1) := by decide +kernel
theorem dX9_districtWelfare_3 : decode cX9_districtWelfare 3 = .ok (.invokevirtual 232, 3) := by decide +kernel
theorem dX9_districtWelfare_6 : decode cX9_districtWelfare 6 = .ok (.invokevirtual 236, 3) := by decide +kernel
theorem dX9_districtWelfare_9 : decode cX9_districtWelfare 9 = .ok (.ifCond .eq 5, 3) := by decide +kernel
theorem dX9_districtWelfare_12 : decode cX9_districtWelfare 12 = .ok (.iconst 0, 1) := by decide +kernel
theorem dX9_districtWelfare_13 : decode cX9_districtWelfare 13 = .ok (.ireturn, 1) := by decide +kernel
theorem dX9_districtWelfare_14 : decode cX9_districtWelfare 14 = .ok (.aload_n 0, 1) := by decide +kernel
theorem dX9_districtWelfare_15 : decode cX9_districtWelfare 15 = .ok (.iload_n 1, 1) := by decide +kernel
theorem dX9_districtWelfare_16 : decode cX9_districtWelfare 16 = .ok (.invokevirtual 341, 3) := by decide +kernel
theorem dX9_districtWelfare_19 : decode cX9_districtWelfare 19 = .ok (.ifCond .ne 6, 3) := by decide +kernel
theorem dX9_districtWelfare_22 : decode cX9_districtWelfare 22 = .ok (.bipush (-2), 2) := by decide +kernel
theorem dX9_districtWelfare_24 : decode cX9_districtWelfare 24 = .ok (.ireturn, 1) := by decide +kernel
theorem dX9_districtWelfare_25 : decode cX9_districtWelfare 25 = .ok (.iconst 0, 1) := by decide +kernel
theorem dX9_districtWelfare_26 : decode cX9_districtWelfare 26 = .ok (.istore_n 3, 1) := by decide +kernel
theorem dX9_districtWelfare_27 : decode cX9_districtWelfare 27 = .ok (.iconst 0, 1) := by decide +kernel
theorem dX9_districtWelfare_28 : decode cX9_districtWelfare 28 = .ok (.istore 4, 2) := by decide +kernel
theorem dX9_districtWelfare_30 : decode cX9_districtWelfare 30 = .ok (.iload 4, 2) := by decide +kernel
theorem dX9_districtWelfare_32 : decode cX9_districtWelfare 32 = .ok (.aload_n 0, 1) := by decide +kernel
theorem dX9_districtWelfare_33 : decode cX9_districtWelfare 33 = .ok (.getfield 229, 3) := by decide +kernel
theorem dX9_districtWelfare_36 : decode cX9_districtWelfare 36 = .ok (.if_icmp .ge 39, 3) := by decide +kernel
theorem dX9_districtWelfare_39 : decode cX9_districtWelfare 39 = .ok (.iload_n 3, 1) := by decide +kernel
theorem dX9_districtWelfare_40 : decode cX9_districtWelfare 40 = .ok (.aload_n 0, 1) := by decide +kernel
theorem dX9_districtWelfare_41 : decode cX9_districtWelfare 41 = .ok (.getfield 7, 3) := by decide +kernel
theorem dX9_districtWelfare_44 : decode cX9_districtWelfare 44 = .ok (.bipush 44, 2) := by decide +kernel
theorem dX9_districtWelfare_46 : decode cX9_districtWelfare 46 = .ok (.iload 4, 2) := by decide +kernel
theorem dX9_districtWelfare_48 : decode cX9_districtWelfare 48 = .ok (.iadd, 1) := by decide +kernel
theorem dX9_districtWelfare_49 : decode cX9_districtWelfare 49 = .ok (.iaload, 1) := by decide +kernel
theorem dX9_districtWelfare_50 : decode cX9_districtWelfare 50 = .ok (.iload_n 2, 1) := by decide +kernel
theorem dX9_districtWelfare_51 : decode cX9_districtWelfare 51 = .ok (.invokestatic 163, 3) := by decide +kernel
theorem dX9_districtWelfare_54 : decode cX9_districtWelfare 54 = .ok (.ifCond .eq 12, 3) := by decide +kernel
theorem dX9_districtWelfare_57 : decode cX9_districtWelfare 57 = .ok (.aload_n 0, 1) := by decide +kernel
theorem dX9_districtWelfare_58 : decode cX9_districtWelfare 58 = .ok (.iload 4, 2) := by decide +kernel
theorem dX9_districtWelfare_60 : decode cX9_districtWelfare 60 = .ok (.invokevirtual 352, 3) := by decide +kernel
theorem dX9_districtWelfare_63 : decode cX9_districtWelfare 63 = .ok (.goto 4, 3) := by decide +kernel
theorem dX9_districtWelfare_66 : decode cX9_districtWelfare 66 = .ok (.iconst 0, 1) := by decide +kernel
theorem dX9_districtWelfare_67 : decode cX9_districtWelfare 67 = .ok (.iadd, 1) := by decide +kernel
theorem dX9_districtWelfare_68 : decode cX9_districtWelfare 68 = .ok (.istore_n 3, 1) := by decide +kernel
theorem dX9_districtWelfare_69 : decode cX9_districtWelfare 69 = .ok (.iinc 4 1, 3) := by decide +kernel
theorem dX9_districtWelfare_72 : decode cX9_districtWelfare 72 = .ok (.goto (-42), 3) := by decide +kernel
theorem dX9_districtWelfare_75 : decode cX9_districtWelfare 75 = .ok (.iload_n 3, 1) := by decide +kernel
theorem dX9_districtWelfare_76 : decode cX9_districtWelfare 76 = .ok (.ireturn, 1) := by decide +kernel
theorem dX9_rankOf_0 : decode cX9_rankOf 0 = .ok (.aload_n 0, 1) := by decide +kernel
theorem dX9_rankOf_1 : decode cX9_rankOf 1 = .ok (.aload_n 0, 1) := by decide +kernel
theorem dX9_rankOf_2 : decode cX9_rankOf 2 = .ok (.iload_n 2, 1) := by decide +kernel
theorem dX9_rankOf_3 : decode cX9_rankOf 3 = .ok (.invokevirtual 243, 3) := by decide +kernel
theorem dX9_rankOf_6 : decode cX9_rankOf 6 = .ok (.invokevirtual 236, 3) := by decide +kernel
theorem dX9_rankOf_9 : decode cX9_rankOf 9 = .ok (.ifCond .eq 5, 3) := by decide +kernel
theorem dX9_rankOf_12 : decode cX9_rankOf 12 = .ok (.iconst 0, 1) := by decide +kernel
theorem dX9_rankOf_13 : decode cX9_rankOf 13 = .ok (.ireturn, 1) := by decide +kernel
theorem dX9_rankOf_14 : decode cX9_rankOf 14 = .ok (.aload_n 0, 1) := by decide +kernel
theorem dX9_rankOf_15 : decode cX9_rankOf 15 = .ok (.iload_n 1, 1) := by decide +kernel
theorem dX9_rankOf_16 : decode cX9_rankOf 16 = .ok (.invokevirtual 341, 3) := by decide +kernel
theorem dX9_rankOf_19 : decode cX9_rankOf 19 = .ok (.ifCond .ne 6, 3) := by decide +kernel
theorem dX9_rankOf_22 : decode cX9_rankOf 22 = .ok (.bipush (-2), 2) := by decide +kernel
theorem dX9_rankOf_24 : decode cX9_rankOf 24 = .ok (.ireturn, 1) := by decide +kernel
theorem dX9_rankOf_25 : decode cX9_rankOf 25 = .ok (.iconst 0, 1) := by decide +kernel
theorem dX9_rankOf_26 : decode cX9_rankOf 26 = .ok (.istore_n 3, 1) := by decide +kernel
theorem dX9_rankOf_27 : decode cX9_rankOf 27 = .ok (.iconst 0, 1) := by decide +kernel
theorem dX9_rankOf_28 : decode cX9_rankOf 28 = .ok (.istore 4, 2) := by decide +kernel
theorem dX9_rankOf_30 : decode cX9_rankOf 30 = .ok (.iload 4, 2) := by decide +kernel
theorem dX9_rankOf_32 : decode cX9_rankOf 32 = .ok (.aload_n 0, 1) := by decide +kernel
theorem dX9_rankOf_33 : decode cX9_rankOf 33 = .ok (.getfield 229, 3) := by decide +kernel
theorem dX9_rankOf_36 : decode cX9_rankOf 36 = .ok (.if_icmp .ge 51, 3) := by decide +kernel
theorem dX9_rankOf_39 : decode cX9_rankOf 39 = .ok (.iload_n 3, 1) := by decide +kernel
theorem dX9_rankOf_40 : decode cX9_rankOf 40 = .ok (.aload_n 0, 1) := by decide +kernel
theorem dX9_rankOf_41 : decode cX9_rankOf 41 = .ok (.iload 4, 2) := by decide +kernel
theorem dX9_rankOf_43 : decode cX9_rankOf 43 = .ok (.invokevirtual 352, 3) := by decide +kernel
theorem dX9_rankOf_46 : decode cX9_rankOf 46 = .ok (.aload_n 0, 1) := by decide +kernel
theorem dX9_rankOf_47 : decode cX9_rankOf 47 = .ok (.iload_n 2, 1) := by decide +kernel
theorem dX9_rankOf_48 : decode cX9_rankOf 48 = .ok (.invokevirtual 352, 3) := by decide +kernel
theorem dX9_rankOf_51 : decode cX9_rankOf 51 = .ok (.if_icmp .gt 23, 3) := by decide +kernel
theorem dX9_rankOf_54 : decode cX9_rankOf 54 = .ok (.aload_n 0, 1) := by decide +kernel
theorem dX9_rankOf_55 : decode cX9_rankOf 55 = .ok (.iload 4, 2) := by decide +kernel
theorem dX9_rankOf_57 : decode cX9_rankOf 57 = .ok (.invokevirtual 352, 3) := by decide +kernel
theorem dX9_rankOf_60 : decode cX9_rankOf 60 = .ok (.aload_n 0, 1) := by decide +kernel
theorem dX9_rankOf_61 : decode cX9_rankOf 61 = .ok (.iload_n 2, 1) := by decide +kernel
theorem dX9_rankOf_62 : decode cX9_rankOf 62 = .ok (.invokevirtual 352, 3) := by decide +kernel
theorem dX9_rankOf_65 : decode cX9_rankOf 65 = .ok (.if_icmp .ne 13, 3) := by decide +kernel
theorem dX9_rankOf_68 : decode cX9_rankOf 68 = .ok (.iload 4, 2) := by decide +kernel
theorem dX9_rankOf_70 : decode cX9_rankOf 70 = .ok (.iload_n 2, 1) := by decide +kernel
theorem dX9_rankOf_71 : decode cX9_rankOf 71 = .ok (.if_icmp .ge 7, 3) := by decide +kernel
theorem dX9_rankOf_74 : decode cX9_rankOf 74 = .ok (.iconst 1, 1) := by decide +kernel
theorem dX9_rankOf_75 : decode cX9_rankOf 75 = .ok (.goto 4, 3) := by decide +kernel
theorem dX9_rankOf_78 : decode cX9_rankOf 78 = .ok (.iconst 0, 1) := by decide +kernel
theorem dX9_rankOf_79 : decode cX9_rankOf 79 = .ok (.iadd, 1) := by decide +kernel
theorem dX9_rankOf_80 : decode cX9_rankOf 80 = .ok (.istore_n 3, 1) := by decide +kernel
theorem dX9_rankOf_81 : decode cX9_rankOf 81 = .ok (.iinc 4 1, 3) := by decide +kernel
theorem dX9_rankOf_84 : decode cX9_rankOf 84 = .ok (.goto (-54), 3) := by decide +kernel
theorem dX9_rankOf_87 : decode cX9_rankOf 87 = .ok (.iload_n 3, 1) := by decide +kernel
theorem dX9_rankOf_88 : decode cX9_rankOf 88 = .ok (.ireturn, 1) := by decide +kernel
theorem dX9_heldBy_0 : decode cX9_heldBy 0 = .ok (.iconst 0, 1) := by decide +kernel
theorem dX9_heldBy_1 : decode cX9_heldBy 1 = .ok (.istore_n 2, 1) := by decide +kernel
theorem dX9_heldBy_2 : decode cX9_heldBy 2 = .ok (.iconst 0, 1) := by decide +kernel
theorem dX9_heldBy_3 : decode cX9_heldBy 3 = .ok (.istore_n 3, 1) := by decide +kernel
theorem dX9_heldBy_4 : decode cX9_heldBy 4 = .ok (.iload_n 3, 1) := by decide +kernel
theorem dX9_heldBy_5 : decode cX9_heldBy 5 = .ok (.aload_n 0, 1) := by decide +kernel
theorem dX9_heldBy_6 : decode cX9_heldBy 6 = .ok (.getfield 223, 3) := by decide +kernel
theorem dX9_heldBy_9 : decode cX9_heldBy 9 = .ok (.if_icmp .ge 22, 3) := by decide +kernel
theorem dX9_heldBy_12 : decode cX9_heldBy 12 = .ok (.iload_n 2, 1) := by decide +kernel
theorem dX9_heldBy_13 : decode cX9_heldBy 13 = .ok (.aload_n 0, 1) := by decide +kernel
theorem dX9_heldBy_14 : decode cX9_heldBy 14 = .ok (.getfield 45, 3) := by decide +kernel
theorem dX9_heldBy_17 : decode cX9_heldBy 17 = .ok (.iconst 4, 1) := by decide +kernel
theorem dX9_heldBy_18 : decode cX9_heldBy 18 = .ok (.iload_n 1, 1) := by decide +kernel
theorem dX9_heldBy_19 : decode cX9_heldBy 19 = .ok (.imul, 1) := by decide +kernel
theorem dX9_heldBy_20 : decode cX9_heldBy 20 = .ok (.iload_n 3, 1) := by decide +kernel
theorem dX9_heldBy_21 : decode cX9_heldBy 21 = .ok (.iadd, 1) := by decide +kernel
theorem dX9_heldBy_22 : decode cX9_heldBy 22 = .ok (.iaload, 1) := by decide +kernel
theorem dX9_heldBy_23 : decode cX9_heldBy 23 = .ok (.iadd, 1) := by decide +kernel
theorem dX9_heldBy_24 : decode cX9_heldBy 24 = .ok (.istore_n 2, 1) := by decide +kernel
theorem dX9_heldBy_25 : decode cX9_heldBy 25 = .ok (.iinc 3 1, 3) := by decide +kernel
theorem dX9_heldBy_28 : decode cX9_heldBy 28 = .ok (.goto (-24), 3) := by decide +kernel
theorem dX9_heldBy_31 : decode cX9_heldBy 31 = .ok (.iload_n 2, 1) := by decide +kernel
theorem dX9_heldBy_32 : decode cX9_heldBy 32 = .ok (.ireturn, 1) := by decide +kernel
theorem dX9_richest_0 : decode cX9_richest 0 = .ok (.aload_n 0, 1) := by decide +kernel
theorem dX9_richest_1 : decode cX9_richest 1 = .ok (.iconst 0, 1) := by decide +kernel
theorem dX9_richest_2 : decode cX9_richest 2 = .ok (.putfield 77, 3) := by decide +kernel
theorem dX9_richest_5 : decode cX9_richest 5 = .ok (.aload_n 0, 1) := by decide +kernel
theorem dX9_richest_6 : decode cX9_richest 6 = .ok (.invokevirtual 335, 3) := by decide +kernel
theorem dX9_richest_9 : decode cX9_richest 9 = .ok (.iconst (-1), 1) := by decide +kernel
theorem dX9_richest_10 : decode cX9_richest 10 = .ok (.istore_n 1, 1) := by decide +kernel
theorem dX9_richest_11 : decode cX9_richest 11 = .ok (.iconst 0, 1) := by decide +kernel
theorem dX9_richest_12 : decode cX9_richest 12 = .ok (.istore_n 2, 1) := by decide +kernel
theorem dX9_richest_13 : decode cX9_richest 13 = .ok (.iload_n 2, 1) := by decide +kernel
theorem dX9_richest_14 : decode cX9_richest 14 = .ok (.aload_n 0, 1) := by decide +kernel
theorem dX9_richest_15 : decode cX9_richest 15 = .ok (.getfield 229, 3) := by decide +kernel
theorem dX9_richest_18 : decode cX9_richest 18 = .ok (.if_icmp .ge 28, 3) := by decide +kernel
theorem dX9_richest_21 : decode cX9_richest 21 = .ok (.iload_n 1, 1) := by decide +kernel
theorem dX9_richest_22 : decode cX9_richest 22 = .ok (.ifCond .lt 16, 3) := by decide +kernel
theorem dX9_richest_25 : decode cX9_richest 25 = .ok (.aload_n 0, 1) := by decide +kernel
theorem dX9_richest_26 : decode cX9_richest 26 = .ok (.iload_n 2, 1) := by decide +kernel
theorem dX9_richest_27 : decode cX9_richest 27 = .ok (.invokevirtual 374, 3) := by decide +kernel
theorem dX9_richest_30 : decode cX9_richest 30 = .ok (.aload_n 0, 1) := by decide +kernel
theorem dX9_richest_31 : decode cX9_richest 31 = .ok (.iload_n 1, 1) := by decide +kernel
theorem dX9_richest_32 : decode cX9_richest 32 = .ok (.invokevirtual 374, 3) := by decide +kernel
theorem dX9_richest_35 : decode cX9_richest 35 = .ok (.if_icmp .le 5, 3) := by decide +kernel
theorem dX9_richest_38 : decode cX9_richest 38 = .ok (.iload_n 2, 1) := by decide +kernel
theorem dX9_richest_39 : decode cX9_richest 39 = .ok (.istore_n 1, 1) := by decide +kernel
theorem dX9_richest_40 : decode cX9_richest 40 = .ok (.iinc 2 1, 3) := by decide +kernel
theorem dX9_richest_43 : decode cX9_richest 43 = .ok (.goto (-30), 3) := by decide +kernel
theorem dX9_richest_46 : decode cX9_richest 46 = .ok (.iload_n 1, 1) := by decide +kernel
theorem dX9_richest_47 : decode cX9_richest 47 = .ok (.ireturn, 1) := by decide +kernel
theorem dX9_change_0 : decode cX9_change 0 = .ok (.aload_n 0, 1) := by decide +kernel
theorem dX9_change_1 : decode cX9_change 1 = .ok (.invokevirtual 377, 3) := by decide +kernel
theorem dX9_change_4 : decode cX9_change 4 = .ok (.aload_n 0, 1) := by decide +kernel
theorem dX9_change_5 : decode cX9_change 5 = .ok (.getfield 7, 3) := by decide +kernel
theorem dX9_change_8 : decode cX9_change 8 = .ok (.iload_n 1, 1) := by decide +kernel
theorem dX9_change_9 : decode cX9_change 9 = .ok (.iaload, 1) := by decide +kernel
theorem dX9_change_10 : decode cX9_change 10 = .ok (.istore_n 3, 1) := by decide +kernel
theorem dX9_change_11 : decode cX9_change 11 = .ok (.aload_n 0, 1) := by decide +kernel
theorem dX9_change_12 : decode cX9_change 12 = .ok (.getfield 7, 3) := by decide +kernel
theorem dX9_change_15 : decode cX9_change 15 = .ok (.iload_n 1, 1) := by decide +kernel
theorem dX9_change_16 : decode cX9_change 16 = .ok (.iload_n 2, 1) := by decide +kernel
theorem dX9_change_17 : decode cX9_change 17 = .ok (.iastore, 1) := by decide +kernel
theorem dX9_change_18 : decode cX9_change 18 = .ok (.iload_n 3, 1) := by decide +kernel
theorem dX9_change_19 : decode cX9_change 19 = .ok (.ireturn, 1) := by decide +kernel
theorem dX9_with_0 : decode cX9_with 0 = .ok (.iload_n 2, 1) := by decide +kernel
theorem dX9_with_1 : decode cX9_with 1 = .ok (.ifCond .eq 11, 3) := by decide +kernel
theorem dX9_with_4 : decode cX9_with 4 = .ok (.iload_n 0, 1) := by decide +kernel
theorem dX9_with_5 : decode cX9_with 5 = .ok (.iconst 1, 1) := by decide +kernel
theorem dX9_with_6 : decode cX9_with 6 = .ok (.iload_n 1, 1) := by decide +kernel
theorem dX9_with_7 : decode cX9_with 7 = .ok (.ishl, 1) := by decide +kernel
theorem dX9_with_8 : decode cX9_with 8 = .ok (.ior, 1) := by decide +kernel
theorem dX9_with_9 : decode cX9_with 9 = .ok (.goto 10, 3) := by decide +kernel
theorem dX9_with_12 : decode cX9_with 12 = .ok (.iload_n 0, 1) := by decide +kernel
theorem dX9_with_13 : decode cX9_with 13 = .ok (.iconst 1, 1) := by decide +kernel
theorem dX9_with_14 : decode cX9_with 14 = .ok (.iload_n 1, 1) := by decide +kernel
theorem dX9_with_15 : decode cX9_with 15 = .ok (.ishl, 1) := by decide +kernel
theorem dX9_with_16 : decode cX9_with 16 = .ok (.iconst (-1), 1) := by decide +kernel
theorem dX9_with_17 : decode cX9_with 17 = .ok (.ixor, 1) := by decide +kernel
theorem dX9_with_18 : decode cX9_with 18 = .ok (.iand, 1) := by decide +kernel
theorem dX9_with_19 : decode cX9_with 19 = .ok (.ireturn, 1) := by decide +kernel
theorem dX9_setBudget_0 : decode cX9_setBudget 0 = .ok (.aload_n 0, 1) := by decide +kernel
theorem dX9_setBudget_1 : decode cX9_setBudget 1 = .ok (.iconst 0, 1) := by decide +kernel
theorem dX9_setBudget_2 : decode cX9_setBudget 2 = .ok (.putfield 77, 3) := by decide +kernel
theorem dX9_setBudget_5 : decode cX9_setBudget 5 = .ok (.aload_n 0, 1) := by decide +kernel
theorem dX9_setBudget_6 : decode cX9_setBudget 6 = .ok (.iload_n 1, 1) := by decide +kernel
theorem dX9_setBudget_7 : decode cX9_setBudget 7 = .ok (.invokevirtual 232, 3) := by decide +kernel
theorem dX9_setBudget_10 : decode cX9_setBudget 10 = .ok (.ifCond .ne 5, 3) := by decide +kernel
theorem dX9_setBudget_13 : decode cX9_setBudget 13 = .ok (.iconst (-1), 1) := by decide +kernel
theorem dX9_setBudget_14 : decode cX9_setBudget 14 = .ok (.ireturn, 1) := by decide +kernel
theorem dX9_setBudget_15 : decode cX9_setBudget 15 = .ok (.iload_n 2, 1) := by decide +kernel
theorem dX9_setBudget_16 : decode cX9_setBudget 16 = .ok (.iconst 0, 1) := by decide +kernel
theorem dX9_setBudget_17 : decode cX9_setBudget 17 = .ok (.ldc 170, 2) := by decide +kernel
theorem dX9_setBudget_19 : decode cX9_setBudget 19 = .ok (.invokestatic 113, 3) := by decide +kernel
theorem dX9_setBudget_22 : decode cX9_setBudget 22 = .ok (.ifCond .eq 14, 3) := by decide +kernel
theorem dX9_setBudget_25 : decode cX9_setBudget 25 = .ok (.aload_n 0, 1) := by decide +kernel
theorem dX9_setBudget_26 : decode cX9_setBudget 26 = .ok (.iconst 4, 1) := by decide +kernel
theorem dX9_setBudget_27 : decode cX9_setBudget 27 = .ok (.iload_n 1, 1) := by decide +kernel
theorem dX9_setBudget_28 : decode cX9_setBudget 28 = .ok (.iadd, 1) := by decide +kernel
theorem dX9_setBudget_29 : decode cX9_setBudget 29 = .ok (.iload_n 2, 1) := by decide +kernel
theorem dX9_setBudget_30 : decode cX9_setBudget 30 = .ok (.invokevirtual 380, 3) := by decide +kernel
theorem dX9_setBudget_33 : decode cX9_setBudget 33 = .ok (.goto 5, 3) := by decide +kernel
theorem dX9_setBudget_36 : decode cX9_setBudget 36 = .ok (.bipush (-2), 2) := by decide +kernel
theorem dX9_setBudget_38 : decode cX9_setBudget 38 = .ok (.ireturn, 1) := by decide +kernel
theorem dX9_setCost_0 : decode cX9_setCost 0 = .ok (.aload_n 0, 1) := by decide +kernel
theorem dX9_setCost_1 : decode cX9_setCost 1 = .ok (.iconst 0, 1) := by decide +kernel
theorem dX9_setCost_2 : decode cX9_setCost 2 = .ok (.putfield 77, 3) := by decide +kernel
theorem dX9_setCost_5 : decode cX9_setCost 5 = .ok (.aload_n 0, 1) := by decide +kernel
theorem dX9_setCost_6 : decode cX9_setCost 6 = .ok (.iload_n 1, 1) := by decide +kernel
theorem dX9_setCost_7 : decode cX9_setCost 7 = .ok (.invokevirtual 240, 3) := by decide +kernel
theorem dX9_setCost_10 : decode cX9_setCost 10 = .ok (.ifCond .ne 5, 3) := by decide +kernel
theorem dX9_setCost_13 : decode cX9_setCost 13 = .ok (.iconst (-1), 1) := by decide +kernel
theorem dX9_setCost_14 : decode cX9_setCost 14 = .ok (.ireturn, 1) := by decide +kernel
theorem dX9_setCost_15 : decode cX9_setCost 15 = .ok (.iload_n 2, 1) := by decide +kernel
theorem dX9_setCost_16 : decode cX9_setCost 16 = .ok (.iconst 1, 1) := by decide +kernel
theorem dX9_setCost_17 : decode cX9_setCost 17 = .ok (.ldc 170, 2) := by decide +kernel
theorem dX9_setCost_19 : decode cX9_setCost 19 = .ok (.invokestatic 113, 3) := by decide +kernel
theorem dX9_setCost_22 : decode cX9_setCost 22 = .ok (.ifCond .eq 15, 3) := by decide +kernel
theorem dX9_setCost_25 : decode cX9_setCost 25 = .ok (.aload_n 0, 1) := by decide +kernel
theorem dX9_setCost_26 : decode cX9_setCost 26 = .ok (.bipush 8, 2) := by decide +kernel
theorem dX9_setCost_28 : decode cX9_setCost 28 = .ok (.iload_n 1, 1) := by decide +kernel
theorem dX9_setCost_29 : decode cX9_setCost 29 = .ok (.iadd, 1) := by decide +kernel
theorem dX9_setCost_30 : decode cX9_setCost 30 = .ok (.iload_n 2, 1) := by decide +kernel
theorem dX9_setCost_31 : decode cX9_setCost 31 = .ok (.invokevirtual 380, 3) := by decide +kernel
theorem dX9_setCost_34 : decode cX9_setCost 34 = .ok (.goto 5, 3) := by decide +kernel
theorem dX9_setCost_37 : decode cX9_setCost 37 = .ok (.bipush (-2), 2) := by decide +kernel
theorem dX9_setCost_39 : decode cX9_setCost 39 = .ok (.ireturn, 1) := by decide +kernel
theorem dX9_setWeight_0 : decode cX9_setWeight 0 = .ok (.aload_n 0, 1) := by decide +kernel
theorem dX9_setWeight_1 : decode cX9_setWeight 1 = .ok (.iconst 0, 1) := by decide +kernel
theorem dX9_setWeight_2 : decode cX9_setWeight 2 = .ok (.putfield 77, 3) := by decide +kernel
theorem dX9_setWeight_5 : decode cX9_setWeight 5 = .ok (.aload_n 0, 1) := by decide +kernel
theorem dX9_setWeight_6 : decode cX9_setWeight 6 = .ok (.iload_n 1, 1) := by decide +kernel
theorem dX9_setWeight_7 : decode cX9_setWeight 7 = .ok (.invokevirtual 243, 3) := by decide +kernel
theorem dX9_setWeight_10 : decode cX9_setWeight 10 = .ok (.ifCond .ne 5, 3) := by decide +kernel
theorem dX9_setWeight_13 : decode cX9_setWeight 13 = .ok (.iconst (-1), 1) := by decide +kernel
theorem dX9_setWeight_14 : decode cX9_setWeight 14 = .ok (.ireturn, 1) := by decide +kernel
theorem dX9_setWeight_15 : decode cX9_setWeight 15 = .ok (.iload_n 2, 1) := by decide +kernel
theorem dX9_setWeight_16 : decode cX9_setWeight 16 = .ok (.iconst 1, 1) := by decide +kernel
theorem dX9_setWeight_17 : decode cX9_setWeight 17 = .ok (.bipush 9, 2) := by decide +kernel
theorem dX9_setWeight_19 : decode cX9_setWeight 19 = .ok (.invokestatic 113, 3) := by decide +kernel
theorem dX9_setWeight_22 : decode cX9_setWeight 22 = .ok (.ifCond .eq 15, 3) := by decide +kernel
theorem dX9_setWeight_25 : decode cX9_setWeight 25 = .ok (.aload_n 0, 1) := by decide +kernel
theorem dX9_setWeight_26 : decode cX9_setWeight 26 = .ok (.bipush 20, 2) := by decide +kernel
theorem dX9_setWeight_28 : decode cX9_setWeight 28 = .ok (.iload_n 1, 1) := by decide +kernel
theorem dX9_setWeight_29 : decode cX9_setWeight 29 = .ok (.iadd, 1) := by decide +kernel
theorem dX9_setWeight_30 : decode cX9_setWeight 30 = .ok (.iload_n 2, 1) := by decide +kernel
theorem dX9_setWeight_31 : decode cX9_setWeight 31 = .ok (.invokevirtual 380, 3) := by decide +kernel
theorem dX9_setWeight_34 : decode cX9_setWeight 34 = .ok (.goto 5, 3) := by decide +kernel
theorem dX9_setWeight_37 : decode cX9_setWeight 37 = .ok (.bipush (-2), 2) := by decide +kernel
theorem dX9_setWeight_39 : decode cX9_setWeight 39 = .ok (.ireturn, 1) := by decide +kernel
theorem dX9_setMember_0 : decode cX9_setMember 0 = .ok (.aload_n 0, 1) := by decide +kernel
theorem dX9_setMember_1 : decode cX9_setMember 1 = .ok (.iconst 0, 1) := by decide +kernel
theorem dX9_setMember_2 : decode cX9_setMember 2 = .ok (.putfield 77, 3) := by decide +kernel
theorem dX9_setMember_5 : decode cX9_setMember 5 = .ok (.aload_n 0, 1) := by decide +kernel
theorem dX9_setMember_6 : decode cX9_setMember 6 = .ok (.iload_n 1, 1) := by decide +kernel
theorem dX9_setMember_7 : decode cX9_setMember 7 = .ok (.invokevirtual 243, 3) := by decide +kernel
theorem dX9_setMember_10 : decode cX9_setMember 10 = .ok (.ifCond .eq 11, 3) := by decide +kernel
theorem dX9_setMember_13 : decode cX9_setMember 13 = .ok (.aload_n 0, 1) := by decide +kernel
theorem dX9_setMember_14 : decode cX9_setMember 14 = .ok (.iload_n 2, 1) := by decide +kernel
theorem dX9_setMember_15 : decode cX9_setMember 15 = .ok (.invokevirtual 232, 3) := by decide +kernel
theorem dX9_setMember_18 : decode cX9_setMember 18 = .ok (.ifCond .ne 5, 3) := by decide +kernel
theorem dX9_setMember_21 : decode cX9_setMember 21 = .ok (.iconst (-1), 1) := by decide +kernel
theorem dX9_setMember_22 : decode cX9_setMember 22 = .ok (.ireturn, 1) := by decide +kernel
theorem dX9_setMember_23 : decode cX9_setMember 23 = .ok (.aload_n 0, 1) := by decide +kernel
theorem dX9_setMember_24 : decode cX9_setMember 24 = .ok (.bipush 44, 2) := by decide +kernel
theorem dX9_setMember_26 : decode cX9_setMember 26 = .ok (.iload_n 1, 1) := by decide +kernel
theorem dX9_setMember_27 : decode cX9_setMember 27 = .ok (.iadd, 1) := by decide +kernel
theorem dX9_setMember_28 : decode cX9_setMember 28 = .ok (.aload_n 0, 1) := by decide +kernel
theorem dX9_setMember_29 : decode cX9_setMember 29 = .ok (.getfield 7, 3) := by decide +kernel
theorem dX9_setMember_32 : decode cX9_setMember 32 = .ok (.bipush 44, 2) := by decide +kernel
theorem dX9_setMember_34 : decode cX9_setMember 34 = .ok (.iload_n 1, 1) := by decide +kernel
theorem dX9_setMember_35 : decode cX9_setMember 35 = .ok (.iadd, 1) := by decide +kernel
theorem dX9_setMember_36 : decode cX9_setMember 36 = .ok (.iaload, 1) := by decide +kernel
theorem dX9_setMember_37 : decode cX9_setMember 37 = .ok (.iload_n 2, 1) := by decide +kernel
theorem dX9_setMember_38 : decode cX9_setMember 38 = .ok (.iload_n 3, 1) := by decide +kernel
theorem dX9_setMember_39 : decode cX9_setMember 39 = .ok (.invokestatic 370, 3) := by decide +kernel
theorem dX9_setMember_42 : decode cX9_setMember 42 = .ok (.invokevirtual 380, 3) := by decide +kernel
theorem dX9_setMember_45 : decode cX9_setMember 45 = .ok (.istore 4, 2) := by decide +kernel
theorem dX9_setMember_47 : decode cX9_setMember 47 = .ok (.iload 4, 2) := by decide +kernel
theorem dX9_setMember_49 : decode cX9_setMember 49 = .ok (.iload_n 2, 1) := by decide +kernel
theorem dX9_setMember_50 : decode cX9_setMember 50 = .ok (.iload_n 3, 1) := by decide +kernel
theorem dX9_setMember_51 : decode cX9_setMember 51 = .ok (.invokestatic 370, 3) := by decide +kernel
theorem dX9_setMember_54 : decode cX9_setMember 54 = .ok (.ireturn, 1) := by decide +kernel
theorem dX9_setApproval_0 : decode cX9_setApproval 0 = .ok (.aload_n 0, 1) := by decide +kernel
theorem dX9_setApproval_1 : decode cX9_setApproval 1 = .ok (.iconst 0, 1) := by decide +kernel
theorem dX9_setApproval_2 : decode cX9_setApproval 2 = .ok (.putfield 77, 3) := by decide +kernel
theorem dX9_setApproval_5 : decode cX9_setApproval 5 = .ok (.aload_n 0, 1) := by decide +kernel
theorem dX9_setApproval_6 : decode cX9_setApproval 6 = .ok (.iload_n 1, 1) := by decide +kernel
theorem dX9_setApproval_7 : decode cX9_setApproval 7 = .ok (.invokevirtual 243, 3) := by decide +kernel
theorem dX9_setApproval_10 : decode cX9_setApproval 10 = .ok (.ifCond .eq 11, 3) := by decide +kernel
theorem dX9_setApproval_13 : decode cX9_setApproval 13 = .ok (.aload_n 0, 1) := by decide +kernel
theorem dX9_setApproval_14 : decode cX9_setApproval 14 = .ok (.iload_n 2, 1) := by decide +kernel
theorem dX9_setApproval_15 : decode cX9_setApproval 15 = .ok (.invokevirtual 240, 3) := by decide +kernel
theorem dX9_setApproval_18 : decode cX9_setApproval 18 = .ok (.ifCond .ne 5, 3) := by decide +kernel
theorem dX9_setApproval_21 : decode cX9_setApproval 21 = .ok (.iconst (-1), 1) := by decide +kernel
theorem dX9_setApproval_22 : decode cX9_setApproval 22 = .ok (.ireturn, 1) := by decide +kernel
theorem dX9_setApproval_23 : decode cX9_setApproval 23 = .ok (.aload_n 0, 1) := by decide +kernel
theorem dX9_setApproval_24 : decode cX9_setApproval 24 = .ok (.bipush 68, 2) := by decide +kernel
theorem dX9_setApproval_26 : decode cX9_setApproval 26 = .ok (.iload_n 1, 1) := by decide +kernel
theorem dX9_setApproval_27 : decode cX9_setApproval 27 = .ok (.iadd, 1) := by decide +kernel
theorem dX9_setApproval_28 : decode cX9_setApproval 28 = .ok (.aload_n 0, 1) := by decide +kernel
theorem dX9_setApproval_29 : decode cX9_setApproval 29 = .ok (.getfield 7, 3) := by decide +kernel
theorem dX9_setApproval_32 : decode cX9_setApproval 32 = .ok (.bipush 68, 2) := by decide +kernel
theorem dX9_setApproval_34 : decode cX9_setApproval 34 = .ok (.iload_n 1, 1) := by decide +kernel
theorem dX9_setApproval_35 : decode cX9_setApproval 35 = .ok (.iadd, 1) := by decide +kernel
theorem dX9_setApproval_36 : decode cX9_setApproval 36 = .ok (.iaload, 1) := by decide +kernel
theorem dX9_setApproval_37 : decode cX9_setApproval 37 = .ok (.iload_n 2, 1) := by decide +kernel
theorem dX9_setApproval_38 : decode cX9_setApproval 38 = .ok (.iload_n 3, 1) := by decide +kernel
theorem dX9_setApproval_39 : decode cX9_setApproval 39 = .ok (.invokestatic 370, 3) := by decide +kernel
theorem dX9_setApproval_42 : decode cX9_setApproval 42 = .ok (.invokevirtual 380, 3) := by decide +kernel
theorem dX9_setApproval_45 : decode cX9_setApproval 45 = .ok (.istore 4, 2) := by decide +kernel
theorem dX9_setApproval_47 : decode cX9_setApproval 47 = .ok (.iload 4, 2) := by decide +kernel
theorem dX9_setApproval_49 : decode cX9_setApproval 49 = .ok (.ifCond .ge 7, 3) := by decide +kernel
theorem dX9_setApproval_52 : decode cX9_setApproval 52 = .ok (.iconst (-1), 1) := by decide +kernel
theorem dX9_setApproval_53 : decode cX9_setApproval 53 = .ok (.goto 8, 3) := by decide +kernel
theorem dX9_setApproval_56 : decode cX9_setApproval 56 = .ok (.aload_n 0, 1) := by decide +kernel
theorem dX9_setApproval_57 : decode cX9_setApproval 57 = .ok (.iload_n 2, 1) := by decide +kernel
theorem dX9_setApproval_58 : decode cX9_setApproval 58 = .ok (.invokevirtual 249, 3) := by decide +kernel
theorem dX9_setApproval_61 : decode cX9_setApproval 61 = .ok (.ireturn, 1) := by decide +kernel
theorem dX9_setSetting_0 : decode cX9_setSetting 0 = .ok (.aload_n 0, 1) := by decide +kernel
theorem dX9_setSetting_1 : decode cX9_setSetting 1 = .ok (.iconst 0, 1) := by decide +kernel
theorem dX9_setSetting_2 : decode cX9_setSetting 2 = .ok (.putfield 77, 3) := by decide +kernel
theorem dX9_setSetting_5 : decode cX9_setSetting 5 = .ok (.iload_n 1, 1) := by decide +kernel
theorem dX9_setSetting_6 : decode cX9_setSetting 6 = .ok (.iconst 0, 1) := by decide +kernel
theorem dX9_setSetting_7 : decode cX9_setSetting 7 = .ok (.iconst 3, 1) := by decide +kernel
theorem dX9_setSetting_8 : decode cX9_setSetting 8 = .ok (.invokestatic 113, 3) := by decide +kernel
theorem dX9_setSetting_11 : decode cX9_setSetting 11 = .ok (.ifCond .eq 18, 3) := by decide +kernel
theorem dX9_setSetting_14 : decode cX9_setSetting 14 = .ok (.iload_n 2, 1) := by decide +kernel
theorem dX9_setSetting_15 : decode cX9_setSetting 15 = .ok (.iload_n 1, 1) := by decide +kernel
theorem dX9_setSetting_16 : decode cX9_setSetting 16 = .ok (.invokestatic 194, 3) := by decide +kernel
theorem dX9_setSetting_19 : decode cX9_setSetting 19 = .ok (.iload_n 1, 1) := by decide +kernel
theorem dX9_setSetting_20 : decode cX9_setSetting 20 = .ok (.invokestatic 198, 3) := by decide +kernel
theorem dX9_setSetting_23 : decode cX9_setSetting 23 = .ok (.invokestatic 113, 3) := by decide +kernel
theorem dX9_setSetting_26 : decode cX9_setSetting 26 = .ok (.ifCond .ne 6, 3) := by decide +kernel
theorem dX9_setSetting_29 : decode cX9_setSetting 29 = .ok (.bipush (-2), 2) := by decide +kernel
theorem dX9_setSetting_31 : decode cX9_setSetting 31 = .ok (.ireturn, 1) := by decide +kernel
theorem dX9_setSetting_32 : decode cX9_setSetting 32 = .ok (.aload_n 0, 1) := by decide +kernel
theorem dX9_setSetting_33 : decode cX9_setSetting 33 = .ok (.iload_n 1, 1) := by decide +kernel
theorem dX9_setSetting_34 : decode cX9_setSetting 34 = .ok (.iload_n 2, 1) := by decide +kernel
theorem dX9_setSetting_35 : decode cX9_setSetting 35 = .ok (.invokevirtual 380, 3) := by decide +kernel
theorem dX9_setSetting_38 : decode cX9_setSetting 38 = .ok (.ireturn, 1) := by decide +kernel
theorem dJ6_bitCount_0f7a4_0 : decode cJ6_bitCount_0f7a4 0 = .ok (.iload_n 0, 1) := by decide +kernel
theorem dJ6_bitCount_0f7a4_1 : decode cJ6_bitCount_0f7a4 1 = .ok (.iload_n 0, 1) := by decide +kernel
theorem dJ6_bitCount_0f7a4_2 : decode cJ6_bitCount_0f7a4 2 = .ok (.iconst 1, 1) := by decide +kernel
theorem dJ6_bitCount_0f7a4_3 : decode cJ6_bitCount_0f7a4 3 = .ok (.iushr, 1) := by decide +kernel
theorem dJ6_bitCount_0f7a4_4 : decode cJ6_bitCount_0f7a4 4 = .ok (.ldc_w 265, 3) := by decide +kernel
theorem dJ6_bitCount_0f7a4_7 : decode cJ6_bitCount_0f7a4 7 = .ok (.iand, 1) := by decide +kernel
theorem dJ6_bitCount_0f7a4_8 : decode cJ6_bitCount_0f7a4 8 = .ok (.isub, 1) := by decide +kernel
theorem dJ6_bitCount_0f7a4_9 : decode cJ6_bitCount_0f7a4 9 = .ok (.istore_n 0, 1) := by decide +kernel
theorem dJ6_bitCount_0f7a4_10 : decode cJ6_bitCount_0f7a4 10 = .ok (.iload_n 0, 1) := by decide +kernel
theorem dJ6_bitCount_0f7a4_11 : decode cJ6_bitCount_0f7a4 11 = .ok (.ldc_w 266, 3) := by decide +kernel
theorem dJ6_bitCount_0f7a4_14 : decode cJ6_bitCount_0f7a4 14 = .ok (.iand, 1) := by decide +kernel
theorem dJ6_bitCount_0f7a4_15 : decode cJ6_bitCount_0f7a4 15 = .ok (.iload_n 0, 1) := by decide +kernel
theorem dJ6_bitCount_0f7a4_16 : decode cJ6_bitCount_0f7a4 16 = .ok (.iconst 2, 1) := by decide +kernel
theorem dJ6_bitCount_0f7a4_17 : decode cJ6_bitCount_0f7a4 17 = .ok (.iushr, 1) := by decide +kernel
theorem dJ6_bitCount_0f7a4_18 : decode cJ6_bitCount_0f7a4 18 = .ok (.ldc_w 266, 3) := by decide +kernel
theorem dJ6_bitCount_0f7a4_21 : decode cJ6_bitCount_0f7a4 21 = .ok (.iand, 1) := by decide +kernel
theorem dJ6_bitCount_0f7a4_22 : decode cJ6_bitCount_0f7a4 22 = .ok (.iadd, 1) := by decide +kernel
theorem dJ6_bitCount_0f7a4_23 : decode cJ6_bitCount_0f7a4 23 = .ok (.istore_n 0, 1) := by decide +kernel
theorem dJ6_bitCount_0f7a4_24 : decode cJ6_bitCount_0f7a4 24 = .ok (.iload_n 0, 1) := by decide +kernel
theorem dJ6_bitCount_0f7a4_25 : decode cJ6_bitCount_0f7a4 25 = .ok (.iload_n 0, 1) := by decide +kernel
theorem dJ6_bitCount_0f7a4_26 : decode cJ6_bitCount_0f7a4 26 = .ok (.iconst 4, 1) := by decide +kernel
theorem dJ6_bitCount_0f7a4_27 : decode cJ6_bitCount_0f7a4 27 = .ok (.iushr, 1) := by decide +kernel
theorem dJ6_bitCount_0f7a4_28 : decode cJ6_bitCount_0f7a4 28 = .ok (.iadd, 1) := by decide +kernel
theorem dJ6_bitCount_0f7a4_29 : decode cJ6_bitCount_0f7a4 29 = .ok (.ldc_w 267, 3) := by decide +kernel
theorem dJ6_bitCount_0f7a4_32 : decode cJ6_bitCount_0f7a4 32 = .ok (.iand, 1) := by decide +kernel
theorem dJ6_bitCount_0f7a4_33 : decode cJ6_bitCount_0f7a4 33 = .ok (.istore_n 0, 1) := by decide +kernel
theorem dJ6_bitCount_0f7a4_34 : decode cJ6_bitCount_0f7a4 34 = .ok (.iload_n 0, 1) := by decide +kernel
theorem dJ6_bitCount_0f7a4_35 : decode cJ6_bitCount_0f7a4 35 = .ok (.iload_n 0, 1) := by decide +kernel
theorem dJ6_bitCount_0f7a4_36 : decode cJ6_bitCount_0f7a4 36 = .ok (.bipush 8, 2) := by decide +kernel
theorem dJ6_bitCount_0f7a4_38 : decode cJ6_bitCount_0f7a4 38 = .ok (.iushr, 1) := by decide +kernel
theorem dJ6_bitCount_0f7a4_39 : decode cJ6_bitCount_0f7a4 39 = .ok (.iadd, 1) := by decide +kernel
theorem dJ6_bitCount_0f7a4_40 : decode cJ6_bitCount_0f7a4 40 = .ok (.istore_n 0, 1) := by decide +kernel
theorem dJ6_bitCount_0f7a4_41 : decode cJ6_bitCount_0f7a4 41 = .ok (.iload_n 0, 1) := by decide +kernel
theorem dJ6_bitCount_0f7a4_42 : decode cJ6_bitCount_0f7a4 42 = .ok (.iload_n 0, 1) := by decide +kernel
theorem dJ6_bitCount_0f7a4_43 : decode cJ6_bitCount_0f7a4 43 = .ok (.bipush 16, 2) := by decide +kernel
theorem dJ6_bitCount_0f7a4_45 : decode cJ6_bitCount_0f7a4 45 = .ok (.iushr, 1) := by decide +kernel
theorem dJ6_bitCount_0f7a4_46 : decode cJ6_bitCount_0f7a4 46 = .ok (.iadd, 1) := by decide +kernel
theorem dJ6_bitCount_0f7a4_47 : decode cJ6_bitCount_0f7a4 47 = .ok (.istore_n 0, 1) := by decide +kernel
theorem dJ6_bitCount_0f7a4_48 : decode cJ6_bitCount_0f7a4 48 = .ok (.iload_n 0, 1) := by decide +kernel
theorem dJ6_bitCount_0f7a4_49 : decode cJ6_bitCount_0f7a4 49 = .ok (.bipush 63, 2) := by decide +kernel
theorem dJ6_bitCount_0f7a4_51 : decode cJ6_bitCount_0f7a4 51 = .ok (.iand, 1) := by decide +kernel
theorem dJ6_bitCount_0f7a4_52 : decode cJ6_bitCount_0f7a4 52 = .ok (.ireturn, 1) := by decide +kernel
theorem dJ9_max_7cf53_0 : decode cJ9_max_7cf53 0 = .ok (.iload_n 0, 1) := by decide +kernel
theorem dJ9_max_7cf53_1 : decode cJ9_max_7cf53 1 = .ok (.iload_n 1, 1) := by decide +kernel
theorem dJ9_max_7cf53_2 : decode cJ9_max_7cf53 2 = .ok (.if_icmp .lt 7, 3) := by decide +kernel
theorem dJ9_max_7cf53_5 : decode cJ9_max_7cf53 5 = .ok (.iload_n 0, 1) := by decide +kernel
theorem dJ9_max_7cf53_6 : decode cJ9_max_7cf53 6 = .ok (.goto 4, 3) := by decide +kernel
theorem dJ9_max_7cf53_9 : decode cJ9_max_7cf53 9 = .ok (.iload_n 1, 1) := by decide +kernel
theorem dJ9_max_7cf53_10 : decode cJ9_max_7cf53 10 = .ok (.ireturn, 1) := by decide +kernel
theorem dJ9_min_7cf53_0 : decode cJ9_min_7cf53 0 = .ok (.iload_n 0, 1) := by decide +kernel
theorem dJ9_min_7cf53_1 : decode cJ9_min_7cf53 1 = .ok (.iload_n 1, 1) := by decide +kernel
theorem dJ9_min_7cf53_2 : decode cJ9_min_7cf53 2 = .ok (.if_icmp .gt 7, 3) := by decide +kernel
theorem dJ9_min_7cf53_5 : decode cJ9_min_7cf53 5 = .ok (.iload_n 0, 1) := by decide +kernel
theorem dJ9_min_7cf53_6 : decode cJ9_min_7cf53 6 = .ok (.goto 4, 3) := by decide +kernel
theorem dJ9_min_7cf53_9 : decode cJ9_min_7cf53 9 = .ok (.iload_n 1, 1) := by decide +kernel
theorem dJ9_min_7cf53_10 : decode cJ9_min_7cf53 10 = .ok (.ireturn, 1) := by decide +kernel
theorem dJ0_length_8abf5_0 : decode cJ0_length_8abf5 0 = .ok (.aload_n 0, 1) := by decide +kernel
theorem dJ0_length_8abf5_1 : decode cJ0_length_8abf5 1 = .ok (.getfield 9, 3) := by decide +kernel
theorem dJ0_length_8abf5_4 : decode cJ0_length_8abf5 4 = .ok (.arraylength, 1) := by decide +kernel
theorem dJ0_length_8abf5_5 : decode cJ0_length_8abf5 5 = .ok (.aload_n 0, 1) := by decide +kernel
theorem dJ0_length_8abf5_6 : decode cJ0_length_8abf5 6 = .ok (.invokevirtual 335, 3) := by decide +kernel
theorem dJ0_length_8abf5_9 : decode cJ0_length_8abf5 9 = .ok (.ishr, 1) := by decide +kernel
theorem dJ0_length_8abf5_10 : decode cJ0_length_8abf5 10 = .ok (.ireturn, 1) := by decide +kernel
theorem dJ0_charAt_5068e_0 : decode cJ0_charAt_5068e 0 = .ok (.aload_n 0, 1) := by decide +kernel
theorem dJ0_charAt_5068e_1 : decode cJ0_charAt_5068e 1 = .ok (.invokevirtual 492, 3) := by decide +kernel
theorem dJ0_charAt_5068e_4 : decode cJ0_charAt_5068e 4 = .ok (.ifCond .eq 12, 3) := by decide +kernel
theorem dJ0_charAt_5068e_7 : decode cJ0_charAt_5068e 7 = .ok (.aload_n 0, 1) := by decide +kernel
theorem dJ0_charAt_5068e_8 : decode cJ0_charAt_5068e 8 = .ok (.getfield 9, 3) := by decide +kernel
theorem dJ0_charAt_5068e_11 : decode cJ0_charAt_5068e 11 = .ok (.iload_n 1, 1) := by decide +kernel
theorem dJ0_charAt_5068e_12 : decode cJ0_charAt_5068e 12 = .ok (.invokestatic 495, 3) := by decide +kernel
theorem dJ0_charAt_5068e_15 : decode cJ0_charAt_5068e 15 = .ok (.ireturn, 1) := by decide +kernel
theorem dJ0_charAt_5068e_16 : decode cJ0_charAt_5068e 16 = .ok (.aload_n 0, 1) := by decide +kernel
theorem dJ0_charAt_5068e_17 : decode cJ0_charAt_5068e 17 = .ok (.getfield 9, 3) := by decide +kernel
theorem dJ0_charAt_5068e_20 : decode cJ0_charAt_5068e 20 = .ok (.iload_n 1, 1) := by decide +kernel
theorem dJ0_charAt_5068e_21 : decode cJ0_charAt_5068e 21 = .ok (.invokestatic 498, 3) := by decide +kernel
theorem dJ0_charAt_5068e_24 : decode cJ0_charAt_5068e 24 = .ok (.ireturn, 1) := by decide +kernel
theorem dJ0_coder_7d493_0 : decode cJ0_coder_7d493 0 = .ok (.getstatic 38, 3) := by decide +kernel
theorem dJ0_coder_7d493_3 : decode cJ0_coder_7d493 3 = .ok (.ifCond .eq 10, 3) := by decide +kernel
theorem dJ0_coder_7d493_6 : decode cJ0_coder_7d493 6 = .ok (.aload_n 0, 1) := by decide +kernel
theorem dJ0_coder_7d493_7 : decode cJ0_coder_7d493 7 = .ok (.getfield 15, 3) := by decide +kernel
theorem dJ0_coder_7d493_10 : decode cJ0_coder_7d493 10 = .ok (.goto 4, 3) := by decide +kernel
theorem dJ0_coder_7d493_13 : decode cJ0_coder_7d493 13 = .ok (.iconst 1, 1) := by decide +kernel
theorem dJ0_coder_7d493_14 : decode cJ0_coder_7d493 14 = .ok (.ireturn, 1) := by decide +kernel
theorem dJ0_isLatin1_aae02_0 : decode cJ0_isLatin1_aae02 0 = .ok (.getstatic 38, 3) := by decide +kernel
theorem dJ0_isLatin1_aae02_3 : decode cJ0_isLatin1_aae02 3 = .ok (.ifCond .eq 14, 3) := by decide +kernel
theorem dJ0_isLatin1_aae02_6 : decode cJ0_isLatin1_aae02 6 = .ok (.aload_n 0, 1) := by decide +kernel
theorem dJ0_isLatin1_aae02_7 : decode cJ0_isLatin1_aae02 7 = .ok (.getfield 15, 3) := by decide +kernel
theorem dJ0_isLatin1_aae02_10 : decode cJ0_isLatin1_aae02 10 = .ok (.ifCond .ne 7, 3) := by decide +kernel
theorem dJ0_isLatin1_aae02_13 : decode cJ0_isLatin1_aae02 13 = .ok (.iconst 1, 1) := by decide +kernel
theorem dJ0_isLatin1_aae02_14 : decode cJ0_isLatin1_aae02 14 = .ok (.goto 4, 3) := by decide +kernel
theorem dJ0_isLatin1_aae02_17 : decode cJ0_isLatin1_aae02 17 = .ok (.iconst 0, 1) := by decide +kernel
theorem dJ0_isLatin1_aae02_18 : decode cJ0_isLatin1_aae02 18 = .ok (.ireturn, 1) := by decide +kernel
theorem dJ0_checkIndex_df160_0 : decode cJ0_checkIndex_df160 0 = .ok (.iload_n 0, 1) := by decide +kernel
theorem dJ0_checkIndex_df160_1 : decode cJ0_checkIndex_df160 1 = .ok (.iload_n 1, 1) := by decide +kernel
theorem dJ0_checkIndex_df160_2 : decode cJ0_checkIndex_df160 2 = .ok (.getstatic 1053, 3) := by decide +kernel
theorem dJ0_checkIndex_df160_5 : decode cJ0_checkIndex_df160 5 = .ok (.invokestatic 1059, 3) := by decide +kernel
theorem dJ0_checkIndex_df160_8 : decode cJ0_checkIndex_df160 8 = .ok (.pop, 1) := by decide +kernel
theorem dJ0_checkIndex_df160_9 : decode cJ0_checkIndex_df160 9 = .ok (.return_, 1) := by decide +kernel
theorem dJ1_charAt_3b067_0 : decode cJ1_charAt_3b067 0 = .ok (.iload_n 1, 1) := by decide +kernel
theorem dJ1_charAt_3b067_1 : decode cJ1_charAt_3b067 1 = .ok (.aload_n 0, 1) := by decide +kernel
theorem dJ1_charAt_3b067_2 : decode cJ1_charAt_3b067 2 = .ok (.arraylength, 1) := by decide +kernel
theorem dJ1_charAt_3b067_3 : decode cJ1_charAt_3b067 3 = .ok (.invokestatic 9, 3) := by decide +kernel
theorem dJ1_charAt_3b067_6 : decode cJ1_charAt_3b067 6 = .ok (.aload_n 0, 1) := by decide +kernel
theorem dJ1_charAt_3b067_7 : decode cJ1_charAt_3b067 7 = .ok (.iload_n 1, 1) := by decide +kernel
theorem dJ1_charAt_3b067_8 : decode cJ1_charAt_3b067 8 = .ok (.baload, 1) := by decide +kernel
theorem dJ1_charAt_3b067_9 : decode cJ1_charAt_3b067 9 = .ok (.sipush 255, 3) := by decide +kernel
theorem dJ1_charAt_3b067_12 : decode cJ1_charAt_3b067 12 = .ok (.iand, 1) := by decide +kernel
theorem dJ1_charAt_3b067_13 : decode cJ1_charAt_3b067 13 = .ok (.i2c, 1) := by decide +kernel
theorem dJ1_charAt_3b067_14 : decode cJ1_charAt_3b067 14 = .ok (.ireturn, 1) := by decide +kernel
theorem dJ2_getChar_3b067_0 : decode cJ2_getChar_3b067 0 = .ok (.getstatic 44, 3) := by decide +kernel
theorem dJ2_getChar_3b067_3 : decode cJ2_getChar_3b067 3 = .ok (.ifCond .ne 25, 3) := by decide +kernel
theorem dJ2_getChar_3b067_6 : decode cJ2_getChar_3b067 6 = .ok (.iload_n 1, 1) := by decide +kernel
theorem dJ2_getChar_3b067_7 : decode cJ2_getChar_3b067 7 = .ok (.ifCond .lt 11, 3) := by decide +kernel
theorem dJ2_getChar_3b067_10 : decode cJ2_getChar_3b067 10 = .ok (.iload_n 1, 1) := by decide +kernel
theorem dJ2_getChar_3b067_11 : decode cJ2_getChar_3b067 11 = .ok (.aload_n 0, 1) := by decide +kernel
theorem dJ2_getChar_3b067_12 : decode cJ2_getChar_3b067 12 = .ok (.invokestatic 48, 3) := by decide +kernel
theorem dJ2_getChar_3b067_15 : decode cJ2_getChar_3b067 15 = .ok (.if_icmp .lt 13, 3) := by decide +kernel
theorem dJ2_getChar_3b067_18 : decode cJ2_getChar_3b067 18 = .ok (.new 52, 3) := by decide +kernel
theorem dJ2_getChar_3b067_21 : decode cJ2_getChar_3b067 21 = .ok (.dup, 1) := by decide +kernel
theorem dJ2_getChar_3b067_22 : decode cJ2_getChar_3b067 22 = .ok (.ldc 54, 2) := by decide +kernel
theorem dJ2_getChar_3b067_24 : decode cJ2_getChar_3b067 24 = .ok (.invokespecial 56, 3) := by decide +kernel
theorem dJ2_getChar_3b067_27 : decode cJ2_getChar_3b067 27 = .ok (.athrow, 1) := by decide +kernel
theorem dJ2_getChar_3b067_28 : decode cJ2_getChar_3b067 28 = .ok (.iload_n 1, 1) := by decide +kernel
theorem dJ2_getChar_3b067_29 : decode cJ2_getChar_3b067 29 = .ok (.iconst 1, 1) := by decide +kernel
theorem dJ2_getChar_3b067_30 : decode cJ2_getChar_3b067 30 = .ok (.ishl, 1) := by decide +kernel
theorem dJ2_getChar_3b067_31 : decode cJ2_getChar_3b067 31 = .ok (.istore_n 1, 1) := by decide +kernel
theorem dJ2_getChar_3b067_32 : decode cJ2_getChar_3b067 32 = .ok (.aload_n 0, 1) := by decide +kernel
theorem dJ2_getChar_3b067_33 : decode cJ2_getChar_3b067 33 = .ok (.iload_n 1, 1) := by decide +kernel
theorem dJ2_getChar_3b067_34 : decode cJ2_getChar_3b067 34 = .ok (.iinc 1 1, 3) := by decide +kernel
theorem dJ2_getChar_3b067_37 : decode cJ2_getChar_3b067 37 = .ok (.baload, 1) := by decide +kernel
theorem dJ2_getChar_3b067_38 : decode cJ2_getChar_3b067 38 = .ok (.sipush 255, 3) := by decide +kernel
theorem dJ2_getChar_3b067_41 : decode cJ2_getChar_3b067 41 = .ok (.iand, 1) := by decide +kernel
theorem dJ2_getChar_3b067_42 : decode cJ2_getChar_3b067 42 = .ok (.getstatic 59, 3) := by decide +kernel
theorem dJ2_getChar_3b067_45 : decode cJ2_getChar_3b067 45 = .ok (.ishl, 1) := by decide +kernel
theorem dJ2_getChar_3b067_46 : decode cJ2_getChar_3b067 46 = .ok (.aload_n 0, 1) := by decide +kernel
theorem dJ2_getChar_3b067_47 : decode cJ2_getChar_3b067 47 = .ok (.iload_n 1, 1) := by decide +kernel
theorem dJ2_getChar_3b067_48 : decode cJ2_getChar_3b067 48 = .ok (.baload, 1) := by decide +kernel
theorem dJ2_getChar_3b067_49 : decode cJ2_getChar_3b067 49 = .ok (.sipush 255, 3) := by decide +kernel
theorem dJ2_getChar_3b067_52 : decode cJ2_getChar_3b067 52 = .ok (.iand, 1) := by decide +kernel
theorem dJ2_getChar_3b067_53 : decode cJ2_getChar_3b067 53 = .ok (.getstatic 63, 3) := by decide +kernel
theorem dJ2_getChar_3b067_56 : decode cJ2_getChar_3b067 56 = .ok (.ishl, 1) := by decide +kernel
theorem dJ2_getChar_3b067_57 : decode cJ2_getChar_3b067 57 = .ok (.ior, 1) := by decide +kernel
theorem dJ2_getChar_3b067_58 : decode cJ2_getChar_3b067 58 = .ok (.i2c, 1) := by decide +kernel
theorem dJ2_getChar_3b067_59 : decode cJ2_getChar_3b067 59 = .ok (.ireturn, 1) := by decide +kernel
theorem dJ2_length_9d52b_0 : decode cJ2_length_9d52b 0 = .ok (.aload_n 0, 1) := by decide +kernel
theorem dJ2_length_9d52b_1 : decode cJ2_length_9d52b 1 = .ok (.arraylength, 1) := by decide +kernel
theorem dJ2_length_9d52b_2 : decode cJ2_length_9d52b 2 = .ok (.iconst 1, 1) := by decide +kernel
theorem dJ2_length_9d52b_3 : decode cJ2_length_9d52b 3 = .ok (.ishr, 1) := by decide +kernel
theorem dJ2_length_9d52b_4 : decode cJ2_length_9d52b 4 = .ok (.ireturn, 1) := by decide +kernel
theorem dJ2_charAt_3b067_0 : decode cJ2_charAt_3b067 0 = .ok (.iload_n 1, 1) := by decide +kernel
theorem dJ2_charAt_3b067_1 : decode cJ2_charAt_3b067 1 = .ok (.aload_n 0, 1) := by decide +kernel
theorem dJ2_charAt_3b067_2 : decode cJ2_charAt_3b067 2 = .ok (.invokestatic 67, 3) := by decide +kernel
theorem dJ2_charAt_3b067_5 : decode cJ2_charAt_3b067 5 = .ok (.aload_n 0, 1) := by decide +kernel
theorem dJ2_charAt_3b067_6 : decode cJ2_charAt_3b067 6 = .ok (.iload_n 1, 1) := by decide +kernel
theorem dJ2_charAt_3b067_7 : decode cJ2_charAt_3b067 7 = .ok (.invokestatic 71, 3) := by decide +kernel
theorem dJ2_charAt_3b067_10 : decode cJ2_charAt_3b067 10 = .ok (.ireturn, 1) := by decide +kernel
theorem dJ2_checkIndex_2214a_0 : decode cJ2_checkIndex_2214a 0 = .ok (.iload_n 0, 1) := by decide +kernel
theorem dJ2_checkIndex_2214a_1 : decode cJ2_checkIndex_2214a 1 = .ok (.aload_n 1, 1) := by decide +kernel
theorem dJ2_checkIndex_2214a_2 : decode cJ2_checkIndex_2214a 2 = .ok (.invokestatic 48, 3) := by decide +kernel
theorem dJ2_checkIndex_2214a_5 : decode cJ2_checkIndex_2214a 5 = .ok (.invokestatic 414, 3) := by decide +kernel
theorem dJ2_checkIndex_2214a_8 : decode cJ2_checkIndex_2214a 8 = .ok (.return_, 1) := by decide +kernel
theorem dJ7_fill_53178_0 : decode cJ7_fill_53178 0 = .ok (.iconst 0, 1) := by decide +kernel
theorem dJ7_fill_53178_1 : decode cJ7_fill_53178 1 = .ok (.istore_n 2, 1) := by decide +kernel
theorem dJ7_fill_53178_2 : decode cJ7_fill_53178 2 = .ok (.aload_n 0, 1) := by decide +kernel
theorem dJ7_fill_53178_3 : decode cJ7_fill_53178 3 = .ok (.arraylength, 1) := by decide +kernel
theorem dJ7_fill_53178_4 : decode cJ7_fill_53178 4 = .ok (.istore_n 3, 1) := by decide +kernel
theorem dJ7_fill_53178_5 : decode cJ7_fill_53178 5 = .ok (.iload_n 2, 1) := by decide +kernel
theorem dJ7_fill_53178_6 : decode cJ7_fill_53178 6 = .ok (.iload_n 3, 1) := by decide +kernel
theorem dJ7_fill_53178_7 : decode cJ7_fill_53178 7 = .ok (.if_icmp .ge 13, 3) := by decide +kernel
theorem dJ7_fill_53178_10 : decode cJ7_fill_53178 10 = .ok (.aload_n 0, 1) := by decide +kernel
theorem dJ7_fill_53178_11 : decode cJ7_fill_53178 11 = .ok (.iload_n 2, 1) := by decide +kernel
theorem dJ7_fill_53178_12 : decode cJ7_fill_53178 12 = .ok (.iload_n 1, 1) := by decide +kernel
theorem dJ7_fill_53178_13 : decode cJ7_fill_53178 13 = .ok (.iastore, 1) := by decide +kernel
theorem dJ7_fill_53178_14 : decode cJ7_fill_53178 14 = .ok (.iinc 2 1, 3) := by decide +kernel
theorem dJ7_fill_53178_17 : decode cJ7_fill_53178 17 = .ok (.goto (-12), 3) := by decide +kernel
theorem dJ7_fill_53178_20 : decode cJ7_fill_53178 20 = .ok (.return_, 1) := by decide +kernel
theorem dJ3_checkIndex_8e157_0 : decode cJ3_checkIndex_8e157 0 = .ok (.iload_n 0, 1) := by decide +kernel
theorem dJ3_checkIndex_8e157_1 : decode cJ3_checkIndex_8e157 1 = .ok (.ifCond .lt 8, 3) := by decide +kernel
theorem dJ3_checkIndex_8e157_4 : decode cJ3_checkIndex_8e157 4 = .ok (.iload_n 0, 1) := by decide +kernel
theorem dJ3_checkIndex_8e157_5 : decode cJ3_checkIndex_8e157 5 = .ok (.iload_n 1, 1) := by decide +kernel
theorem dJ3_checkIndex_8e157_6 : decode cJ3_checkIndex_8e157 6 = .ok (.if_icmp .lt 10, 3) := by decide +kernel
theorem dJ3_checkIndex_8e157_9 : decode cJ3_checkIndex_8e157 9 = .ok (.aload_n 2, 1) := by decide +kernel
theorem dJ3_checkIndex_8e157_10 : decode cJ3_checkIndex_8e157 10 = .ok (.iload_n 0, 1) := by decide +kernel
theorem dJ3_checkIndex_8e157_11 : decode cJ3_checkIndex_8e157 11 = .ok (.iload_n 1, 1) := by decide +kernel
theorem dJ3_checkIndex_8e157_12 : decode cJ3_checkIndex_8e157 12 = .ok (.invokestatic 95, 3) := by decide +kernel
theorem dJ3_checkIndex_8e157_15 : decode cJ3_checkIndex_8e157 15 = .ok (.athrow, 1) := by decide +kernel
theorem dJ3_checkIndex_8e157_16 : decode cJ3_checkIndex_8e157 16 = .ok (.iload_n 0, 1) := by decide +kernel
theorem dJ3_checkIndex_8e157_17 : decode cJ3_checkIndex_8e157 17 = .ok (.ireturn, 1) := by decide +kernel
theorem dL_budgetOf_0 : decode cL_budgetOf 0 = .ok (.aload_n 2, 1) := by decide +kernel
theorem dL_budgetOf_1 : decode cL_budgetOf 1 = .ok (.iconst 0, 1) := by decide +kernel
theorem dL_budgetOf_2 : decode cL_budgetOf 2 = .ok (.aload_n 0, 1) := by decide +kernel
theorem dL_budgetOf_3 : decode cL_budgetOf 3 = .ok (.iload_n 1, 1) := by decide +kernel
theorem dL_budgetOf_4 : decode cL_budgetOf 4 = .ok (.invokevirtual 7, 3) := by decide +kernel
theorem dL_budgetOf_7 : decode cL_budgetOf 7 = .ok (.i2l, 1) := by decide +kernel
theorem dL_budgetOf_8 : decode cL_budgetOf 8 = .ok (.lastore, 1) := by decide +kernel
theorem dL_budgetOf_9 : decode cL_budgetOf 9 = .ok (.goto 6, 3) := by decide +kernel
theorem dL_budgetOf_12 : decode cL_budgetOf 12 = .ok (.astore_n 3, 1) := by decide +kernel
theorem dL_budgetOf_13 : decode cL_budgetOf 13 = .ok (.iconst 1, 1) := by decide +kernel
theorem dL_budgetOf_14 : decode cL_budgetOf 14 = .ok (.ireturn, 1) := by decide +kernel
theorem dL_budgetOf_15 : decode cL_budgetOf 15 = .ok (.iconst 0, 1) := by decide +kernel
theorem dL_budgetOf_16 : decode cL_budgetOf 16 = .ok (.ireturn, 1) := by decide +kernel
theorem dL_costOf_0 : decode cL_costOf 0 = .ok (.aload_n 2, 1) := by decide +kernel
theorem dL_costOf_1 : decode cL_costOf 1 = .ok (.iconst 0, 1) := by decide +kernel
theorem dL_costOf_2 : decode cL_costOf 2 = .ok (.aload_n 0, 1) := by decide +kernel
theorem dL_costOf_3 : decode cL_costOf 3 = .ok (.iload_n 1, 1) := by decide +kernel
theorem dL_costOf_4 : decode cL_costOf 4 = .ok (.invokevirtual 15, 3) := by decide +kernel
theorem dL_costOf_7 : decode cL_costOf 7 = .ok (.i2l, 1) := by decide +kernel
theorem dL_costOf_8 : decode cL_costOf 8 = .ok (.lastore, 1) := by decide +kernel
theorem dL_costOf_9 : decode cL_costOf 9 = .ok (.goto 6, 3) := by decide +kernel
theorem dL_costOf_12 : decode cL_costOf 12 = .ok (.astore_n 3, 1) := by decide +kernel
theorem dL_costOf_13 : decode cL_costOf 13 = .ok (.iconst 1, 1) := by decide +kernel
theorem dL_costOf_14 : decode cL_costOf 14 = .ok (.ireturn, 1) := by decide +kernel
theorem dL_costOf_15 : decode cL_costOf 15 = .ok (.iconst 0, 1) := by decide +kernel
theorem dL_costOf_16 : decode cL_costOf 16 = .ok (.ireturn, 1) := by decide +kernel
theorem dL_districtsOf_0 : decode cL_districtsOf 0 = .ok (.aload_n 2, 1) := by decide +kernel
theorem dL_districtsOf_1 : decode cL_districtsOf 1 = .ok (.iconst 0, 1) := by decide +kernel
theorem dL_districtsOf_2 : decode cL_districtsOf 2 = .ok (.aload_n 0, 1) := by decide +kernel
theorem dL_districtsOf_3 : decode cL_districtsOf 3 = .ok (.iload_n 1, 1) := by decide +kernel
theorem dL_districtsOf_4 : decode cL_districtsOf 4 = .ok (.invokevirtual 18, 3) := by decide +kernel
theorem dL_districtsOf_7 : decode cL_districtsOf 7 = .ok (.i2l, 1) := by decide +kernel
theorem dL_districtsOf_8 : decode cL_districtsOf 8 = .ok (.lastore, 1) := by decide +kernel
theorem dL_districtsOf_9 : decode cL_districtsOf 9 = .ok (.goto 6, 3) := by decide +kernel
theorem dL_districtsOf_12 : decode cL_districtsOf 12 = .ok (.astore_n 3, 1) := by decide +kernel
theorem dL_districtsOf_13 : decode cL_districtsOf 13 = .ok (.iconst 1, 1) := by decide +kernel
theorem dL_districtsOf_14 : decode cL_districtsOf 14 = .ok (.ireturn, 1) := by decide +kernel
theorem dL_districtsOf_15 : decode cL_districtsOf 15 = .ok (.iconst 0, 1) := by decide +kernel
theorem dL_districtsOf_16 : decode cL_districtsOf 16 = .ok (.ireturn, 1) := by decide +kernel
theorem dL_memberships_0 : decode cL_memberships 0 = .ok (.aload_n 2, 1) := by decide +kernel
theorem dL_memberships_1 : decode cL_memberships 1 = .ok (.iconst 0, 1) := by decide +kernel
theorem dL_memberships_2 : decode cL_memberships 2 = .ok (.aload_n 0, 1) := by decide +kernel
theorem dL_memberships_3 : decode cL_memberships 3 = .ok (.iload_n 1, 1) := by decide +kernel
theorem dL_memberships_4 : decode cL_memberships 4 = .ok (.invokevirtual 21, 3) := by decide +kernel
theorem dL_memberships_7 : decode cL_memberships 7 = .ok (.i2l, 1) := by decide +kernel
theorem dL_memberships_8 : decode cL_memberships 8 = .ok (.lastore, 1) := by decide +kernel
theorem dL_memberships_9 : decode cL_memberships 9 = .ok (.goto 6, 3) := by decide +kernel
theorem dL_memberships_12 : decode cL_memberships 12 = .ok (.astore_n 3, 1) := by decide +kernel
theorem dL_memberships_13 : decode cL_memberships 13 = .ok (.iconst 1, 1) := by decide +kernel
theorem dL_memberships_14 : decode cL_memberships 14 = .ok (.ireturn, 1) := by decide +kernel
theorem dL_memberships_15 : decode cL_memberships 15 = .ok (.iconst 0, 1) := by decide +kernel
theorem dL_memberships_16 : decode cL_memberships 16 = .ok (.ireturn, 1) := by decide +kernel
theorem dL_approvals_0 : decode cL_approvals 0 = .ok (.aload_n 2, 1) := by decide +kernel
theorem dL_approvals_1 : decode cL_approvals 1 = .ok (.iconst 0, 1) := by decide +kernel
theorem dL_approvals_2 : decode cL_approvals 2 = .ok (.aload_n 0, 1) := by decide +kernel
theorem dL_approvals_3 : decode cL_approvals 3 = .ok (.iload_n 1, 1) := by decide +kernel
theorem dL_approvals_4 : decode cL_approvals 4 = .ok (.invokevirtual 24, 3) := by decide +kernel
theorem dL_approvals_7 : decode cL_approvals 7 = .ok (.i2l, 1) := by decide +kernel
theorem dL_approvals_8 : decode cL_approvals 8 = .ok (.lastore, 1) := by decide +kernel
theorem dL_approvals_9 : decode cL_approvals 9 = .ok (.goto 6, 3) := by decide +kernel
theorem dL_approvals_12 : decode cL_approvals 12 = .ok (.astore_n 3, 1) := by decide +kernel
theorem dL_approvals_13 : decode cL_approvals 13 = .ok (.iconst 1, 1) := by decide +kernel
theorem dL_approvals_14 : decode cL_approvals 14 = .ok (.ireturn, 1) := by decide +kernel
theorem dL_approvals_15 : decode cL_approvals 15 = .ok (.iconst 0, 1) := by decide +kernel
theorem dL_approvals_16 : decode cL_approvals 16 = .ok (.ireturn, 1) := by decide +kernel
theorem dL_weightOf_0 : decode cL_weightOf 0 = .ok (.aload_n 2, 1) := by decide +kernel
theorem dL_weightOf_1 : decode cL_weightOf 1 = .ok (.iconst 0, 1) := by decide +kernel
theorem dL_weightOf_2 : decode cL_weightOf 2 = .ok (.aload_n 0, 1) := by decide +kernel
theorem dL_weightOf_3 : decode cL_weightOf 3 = .ok (.iload_n 1, 1) := by decide +kernel
theorem dL_weightOf_4 : decode cL_weightOf 4 = .ok (.invokevirtual 27, 3) := by decide +kernel
theorem dL_weightOf_7 : decode cL_weightOf 7 = .ok (.i2l, 1) := by decide +kernel
theorem dL_weightOf_8 : decode cL_weightOf 8 = .ok (.lastore, 1) := by decide +kernel
theorem dL_weightOf_9 : decode cL_weightOf 9 = .ok (.goto 6, 3) := by decide +kernel
theorem dL_weightOf_12 : decode cL_weightOf 12 = .ok (.astore_n 3, 1) := by decide +kernel
theorem dL_weightOf_13 : decode cL_weightOf 13 = .ok (.iconst 1, 1) := by decide +kernel
theorem dL_weightOf_14 : decode cL_weightOf 14 = .ok (.ireturn, 1) := by decide +kernel
theorem dL_weightOf_15 : decode cL_weightOf 15 = .ok (.iconst 0, 1) := by decide +kernel
theorem dL_weightOf_16 : decode cL_weightOf 16 = .ok (.ireturn, 1) := by decide +kernel
theorem dL_supporters_0 : decode cL_supporters 0 = .ok (.aload_n 2, 1) := by decide +kernel
theorem dL_supporters_1 : decode cL_supporters 1 = .ok (.iconst 0, 1) := by decide +kernel
theorem dL_supporters_2 : decode cL_supporters 2 = .ok (.aload_n 0, 1) := by decide +kernel
theorem dL_supporters_3 : decode cL_supporters 3 = .ok (.iload_n 1, 1) := by decide +kernel
theorem dL_supporters_4 : decode cL_supporters 4 = .ok (.invokevirtual 30, 3) := by decide +kernel
theorem dL_supporters_7 : decode cL_supporters 7 = .ok (.i2l, 1) := by decide +kernel
theorem dL_supporters_8 : decode cL_supporters 8 = .ok (.lastore, 1) := by decide +kernel
theorem dL_supporters_9 : decode cL_supporters 9 = .ok (.goto 6, 3) := by decide +kernel
theorem dL_supporters_12 : decode cL_supporters 12 = .ok (.astore_n 3, 1) := by decide +kernel
theorem dL_supporters_13 : decode cL_supporters 13 = .ok (.iconst 1, 1) := by decide +kernel
theorem dL_supporters_14 : decode cL_supporters 14 = .ok (.ireturn, 1) := by decide +kernel
theorem dL_supporters_15 : decode cL_supporters 15 = .ok (.iconst 0, 1) := by decide +kernel
theorem dL_supporters_16 : decode cL_supporters 16 = .ok (.ireturn, 1) := by decide +kernel
theorem dL_votesFor_0 : decode cL_votesFor 0 = .ok (.aload_n 2, 1) := by decide +kernel
theorem dL_votesFor_1 : decode cL_votesFor 1 = .ok (.iconst 0, 1) := by decide +kernel
theorem dL_votesFor_2 : decode cL_votesFor 2 = .ok (.aload_n 0, 1) := by decide +kernel
theorem dL_votesFor_3 : decode cL_votesFor 3 = .ok (.iload_n 1, 1) := by decide +kernel
theorem dL_votesFor_4 : decode cL_votesFor 4 = .ok (.invokevirtual 33, 3) := by decide +kernel
theorem dL_votesFor_7 : decode cL_votesFor 7 = .ok (.i2l, 1) := by decide +kernel
theorem dL_votesFor_8 : decode cL_votesFor 8 = .ok (.lastore, 1) := by decide +kernel
theorem dL_votesFor_9 : decode cL_votesFor 9 = .ok (.goto 6, 3) := by decide +kernel
theorem dL_votesFor_12 : decode cL_votesFor 12 = .ok (.astore_n 3, 1) := by decide +kernel
theorem dL_votesFor_13 : decode cL_votesFor 13 = .ok (.iconst 1, 1) := by decide +kernel
theorem dL_votesFor_14 : decode cL_votesFor 14 = .ok (.ireturn, 1) := by decide +kernel
theorem dL_votesFor_15 : decode cL_votesFor 15 = .ok (.iconst 0, 1) := by decide +kernel
theorem dL_votesFor_16 : decode cL_votesFor 16 = .ok (.ireturn, 1) := by decide +kernel
theorem dL_purse_0 : decode cL_purse 0 = .ok (.aload_n 3, 1) := by decide +kernel
theorem dL_purse_1 : decode cL_purse 1 = .ok (.iconst 0, 1) := by decide +kernel
theorem dL_purse_2 : decode cL_purse 2 = .ok (.aload_n 0, 1) := by decide +kernel
theorem dL_purse_3 : decode cL_purse 3 = .ok (.iload_n 1, 1) := by decide +kernel
theorem dL_purse_4 : decode cL_purse 4 = .ok (.iload_n 2, 1) := by decide +kernel
theorem dL_purse_5 : decode cL_purse 5 = .ok (.invokevirtual 36, 3) := by decide +kernel
theorem dL_purse_8 : decode cL_purse 8 = .ok (.i2l, 1) := by decide +kernel
theorem dL_purse_9 : decode cL_purse 9 = .ok (.lastore, 1) := by decide +kernel
theorem dL_purse_10 : decode cL_purse 10 = .ok (.goto 7, 3) := by decide +kernel
theorem dL_purse_13 : decode cL_purse 13 = .ok (.astore 4, 2) := by decide +kernel
theorem dL_purse_15 : decode cL_purse 15 = .ok (.iconst 1, 1) := by decide +kernel
theorem dL_purse_16 : decode cL_purse 16 = .ok (.ireturn, 1) := by decide +kernel
theorem dL_purse_17 : decode cL_purse 17 = .ok (.iconst 0, 1) := by decide +kernel
theorem dL_purse_18 : decode cL_purse 18 = .ok (.ireturn, 1) := by decide +kernel
theorem dL_firstPrice_0 : decode cL_firstPrice 0 = .ok (.aload_n 2, 1) := by decide +kernel
theorem dL_firstPrice_1 : decode cL_firstPrice 1 = .ok (.iconst 0, 1) := by decide +kernel
theorem dL_firstPrice_2 : decode cL_firstPrice 2 = .ok (.aload_n 0, 1) := by decide +kernel
theorem dL_firstPrice_3 : decode cL_firstPrice 3 = .ok (.iload_n 1, 1) := by decide +kernel
theorem dL_firstPrice_4 : decode cL_firstPrice 4 = .ok (.invokevirtual 40, 3) := by decide +kernel
theorem dL_firstPrice_7 : decode cL_firstPrice 7 = .ok (.i2l, 1) := by decide +kernel
theorem dL_firstPrice_8 : decode cL_firstPrice 8 = .ok (.lastore, 1) := by decide +kernel
theorem dL_firstPrice_9 : decode cL_firstPrice 9 = .ok (.goto 6, 3) := by decide +kernel
theorem dL_firstPrice_12 : decode cL_firstPrice 12 = .ok (.astore_n 3, 1) := by decide +kernel
theorem dL_firstPrice_13 : decode cL_firstPrice 13 = .ok (.iconst 1, 1) := by decide +kernel
theorem dL_firstPrice_14 : decode cL_firstPrice 14 = .ok (.ireturn, 1) := by decide +kernel
theorem dL_firstPrice_15 : decode cL_firstPrice 15 = .ok (.iconst 0, 1) := by decide +kernel
theorem dL_firstPrice_16 : decode cL_firstPrice 16 = .ok (.ireturn, 1) := by decide +kernel
theorem dL_priceOf_0 : decode cL_priceOf 0 = .ok (.aload_n 2, 1) := by decide +kernel
theorem dL_priceOf_1 : decode cL_priceOf 1 = .ok (.iconst 0, 1) := by decide +kernel
theorem dL_priceOf_2 : decode cL_priceOf 2 = .ok (.aload_n 0, 1) := by decide +kernel
theorem dL_priceOf_3 : decode cL_priceOf 3 = .ok (.iload_n 1, 1) := by decide +kernel
theorem dL_priceOf_4 : decode cL_priceOf 4 = .ok (.invokevirtual 43, 3) := by decide +kernel
theorem dL_priceOf_7 : decode cL_priceOf 7 = .ok (.i2l, 1) := by decide +kernel
theorem dL_priceOf_8 : decode cL_priceOf 8 = .ok (.lastore, 1) := by decide +kernel
theorem dL_priceOf_9 : decode cL_priceOf 9 = .ok (.goto 6, 3) := by decide +kernel
theorem dL_priceOf_12 : decode cL_priceOf 12 = .ok (.astore_n 3, 1) := by decide +kernel
theorem dL_priceOf_13 : decode cL_priceOf 13 = .ok (.iconst 1, 1) := by decide +kernel
theorem dL_priceOf_14 : decode cL_priceOf 14 = .ok (.ireturn, 1) := by decide +kernel
theorem dL_priceOf_15 : decode cL_priceOf 15 = .ok (.iconst 0, 1) := by decide +kernel
theorem dL_priceOf_16 : decode cL_priceOf 16 = .ok (.ireturn, 1) := by decide +kernel
theorem dL_paidBy_0 : decode cL_paidBy 0 = .ok (.aload_n 3, 1) := by decide +kernel
theorem dL_paidBy_1 : decode cL_paidBy 1 = .ok (.iconst 0, 1) := by decide +kernel
theorem dL_paidBy_2 : decode cL_paidBy 2 = .ok (.aload_n 0, 1) := by decide +kernel
theorem dL_paidBy_3 : decode cL_paidBy 3 = .ok (.iload_n 1, 1) := by decide +kernel
theorem dL_paidBy_4 : decode cL_paidBy 4 = .ok (.iload_n 2, 1) := by decide +kernel
theorem dL_paidBy_5 : decode cL_paidBy 5 = .ok (.invokevirtual 46, 3) := by decide +kernel
theorem dL_paidBy_8 : decode cL_paidBy 8 = .ok (.i2l, 1) := by decide +kernel
theorem dL_paidBy_9 : decode cL_paidBy 9 = .ok (.lastore, 1) := by decide +kernel
theorem dL_paidBy_10 : decode cL_paidBy 10 = .ok (.goto 7, 3) := by decide +kernel
theorem dL_paidBy_13 : decode cL_paidBy 13 = .ok (.astore 4, 2) := by decide +kernel
theorem dL_paidBy_15 : decode cL_paidBy 15 = .ok (.iconst 1, 1) := by decide +kernel
theorem dL_paidBy_16 : decode cL_paidBy 16 = .ok (.ireturn, 1) := by decide +kernel
theorem dL_paidBy_17 : decode cL_paidBy 17 = .ok (.iconst 0, 1) := by decide +kernel
theorem dL_paidBy_18 : decode cL_paidBy 18 = .ok (.ireturn, 1) := by decide +kernel
theorem dL_paidFrom_0 : decode cL_paidFrom 0 = .ok (.aload 4, 2) := by decide +kernel
theorem dL_paidFrom_2 : decode cL_paidFrom 2 = .ok (.iconst 0, 1) := by decide +kernel
theorem dL_paidFrom_3 : decode cL_paidFrom 3 = .ok (.aload_n 0, 1) := by decide +kernel
theorem dL_paidFrom_4 : decode cL_paidFrom 4 = .ok (.iload_n 1, 1) := by decide +kernel
theorem dL_paidFrom_5 : decode cL_paidFrom 5 = .ok (.iload_n 2, 1) := by decide +kernel
theorem dL_paidFrom_6 : decode cL_paidFrom 6 = .ok (.iload_n 3, 1) := by decide +kernel
theorem dL_paidFrom_7 : decode cL_paidFrom 7 = .ok (.invokevirtual 49, 3) := by decide +kernel
theorem dL_paidFrom_10 : decode cL_paidFrom 10 = .ok (.i2l, 1) := by decide +kernel
theorem dL_paidFrom_11 : decode cL_paidFrom 11 = .ok (.lastore, 1) := by decide +kernel
theorem dL_paidFrom_12 : decode cL_paidFrom 12 = .ok (.goto 7, 3) := by decide +kernel
theorem dL_paidFrom_15 : decode cL_paidFrom 15 = .ok (.astore 5, 2) := by decide +kernel
theorem dL_paidFrom_17 : decode cL_paidFrom 17 = .ok (.iconst 1, 1) := by decide +kernel
theorem dL_paidFrom_18 : decode cL_paidFrom 18 = .ok (.ireturn, 1) := by decide +kernel
theorem dL_paidFrom_19 : decode cL_paidFrom 19 = .ok (.iconst 0, 1) := by decide +kernel
theorem dL_paidFrom_20 : decode cL_paidFrom 20 = .ok (.ireturn, 1) := by decide +kernel
theorem dL_leftOf_0 : decode cL_leftOf 0 = .ok (.aload_n 3, 1) := by decide +kernel
theorem dL_leftOf_1 : decode cL_leftOf 1 = .ok (.iconst 0, 1) := by decide +kernel
theorem dL_leftOf_2 : decode cL_leftOf 2 = .ok (.aload_n 0, 1) := by decide +kernel
theorem dL_leftOf_3 : decode cL_leftOf 3 = .ok (.iload_n 1, 1) := by decide +kernel
theorem dL_leftOf_4 : decode cL_leftOf 4 = .ok (.iload_n 2, 1) := by decide +kernel
theorem dL_leftOf_5 : decode cL_leftOf 5 = .ok (.invokevirtual 53, 3) := by decide +kernel
theorem dL_leftOf_8 : decode cL_leftOf 8 = .ok (.i2l, 1) := by decide +kernel
theorem dL_leftOf_9 : decode cL_leftOf 9 = .ok (.lastore, 1) := by decide +kernel
theorem dL_leftOf_10 : decode cL_leftOf 10 = .ok (.goto 7, 3) := by decide +kernel
theorem dL_leftOf_13 : decode cL_leftOf 13 = .ok (.astore 4, 2) := by decide +kernel
theorem dL_leftOf_15 : decode cL_leftOf 15 = .ok (.iconst 1, 1) := by decide +kernel
theorem dL_leftOf_16 : decode cL_leftOf 16 = .ok (.ireturn, 1) := by decide +kernel
theorem dL_leftOf_17 : decode cL_leftOf 17 = .ok (.iconst 0, 1) := by decide +kernel
theorem dL_leftOf_18 : decode cL_leftOf 18 = .ok (.ireturn, 1) := by decide +kernel
theorem dL_purseLeft_0 : decode cL_purseLeft 0 = .ok (.aload_n 3, 1) := by decide +kernel
theorem dL_purseLeft_1 : decode cL_purseLeft 1 = .ok (.iconst 0, 1) := by decide +kernel
theorem dL_purseLeft_2 : decode cL_purseLeft 2 = .ok (.aload_n 0, 1) := by decide +kernel
theorem dL_purseLeft_3 : decode cL_purseLeft 3 = .ok (.iload_n 1, 1) := by decide +kernel
theorem dL_purseLeft_4 : decode cL_purseLeft 4 = .ok (.iload_n 2, 1) := by decide +kernel
theorem dL_purseLeft_5 : decode cL_purseLeft 5 = .ok (.invokevirtual 56, 3) := by decide +kernel
theorem dL_purseLeft_8 : decode cL_purseLeft 8 = .ok (.i2l, 1) := by decide +kernel
theorem dL_purseLeft_9 : decode cL_purseLeft 9 = .ok (.lastore, 1) := by decide +kernel
theorem dL_purseLeft_10 : decode cL_purseLeft 10 = .ok (.goto 7, 3) := by decide +kernel
theorem dL_purseLeft_13 : decode cL_purseLeft 13 = .ok (.astore 4, 2) := by decide +kernel
theorem dL_purseLeft_15 : decode cL_purseLeft 15 = .ok (.iconst 1, 1) := by decide +kernel
theorem dL_purseLeft_16 : decode cL_purseLeft 16 = .ok (.ireturn, 1) := by decide +kernel
theorem dL_purseLeft_17 : decode cL_purseLeft 17 = .ok (.iconst 0, 1) := by decide +kernel
theorem dL_purseLeft_18 : decode cL_purseLeft 18 = .ok (.ireturn, 1) := by decide +kernel
theorem dL_meansLeft_0 : decode cL_meansLeft 0 = .ok (.aload_n 2, 1) := by decide +kernel
theorem dL_meansLeft_1 : decode cL_meansLeft 1 = .ok (.iconst 0, 1) := by decide +kernel
theorem dL_meansLeft_2 : decode cL_meansLeft 2 = .ok (.aload_n 0, 1) := by decide +kernel
theorem dL_meansLeft_3 : decode cL_meansLeft 3 = .ok (.iload_n 1, 1) := by decide +kernel
theorem dL_meansLeft_4 : decode cL_meansLeft 4 = .ok (.invokevirtual 59, 3) := by decide +kernel
theorem dL_meansLeft_7 : decode cL_meansLeft 7 = .ok (.i2l, 1) := by decide +kernel
theorem dL_meansLeft_8 : decode cL_meansLeft 8 = .ok (.lastore, 1) := by decide +kernel
theorem dL_meansLeft_9 : decode cL_meansLeft 9 = .ok (.goto 6, 3) := by decide +kernel
theorem dL_meansLeft_12 : decode cL_meansLeft 12 = .ok (.astore_n 3, 1) := by decide +kernel
theorem dL_meansLeft_13 : decode cL_meansLeft 13 = .ok (.iconst 1, 1) := by decide +kernel
theorem dL_meansLeft_14 : decode cL_meansLeft 14 = .ok (.ireturn, 1) := by decide +kernel
theorem dL_meansLeft_15 : decode cL_meansLeft 15 = .ok (.iconst 0, 1) := by decide +kernel
theorem dL_meansLeft_16 : decode cL_meansLeft 16 = .ok (.ireturn, 1) := by decide +kernel
theorem dL_satisfaction_0 : decode cL_satisfaction 0 = .ok (.aload_n 3, 1) := by decide +kernel
theorem dL_satisfaction_1 : decode cL_satisfaction 1 = .ok (.iconst 0, 1) := by decide +kernel
theorem dL_satisfaction_2 : decode cL_satisfaction 2 = .ok (.aload_n 0, 1) := by decide +kernel
theorem dL_satisfaction_3 : decode cL_satisfaction 3 = .ok (.iload_n 1, 1) := by decide +kernel
