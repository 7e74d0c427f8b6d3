theorem dX8_memberships_5 : decode cX8_memberships 5 = .ok (.getfield 100, 3) := by decide +kernel
theorem dX8_memberships_8 : decode cX8_memberships 8 = .ok (.invokestatic 114, 3) := by decide +kernel
theorem dX8_memberships_11 : decode cX8_memberships 11 = .ok (.aload_n 0, 1) := by decide +kernel
theorem dX8_memberships_12 : decode cX8_memberships 12 = .ok (.getfield 60, 3) := by decide +kernel
theorem dX8_memberships_15 : decode cX8_memberships 15 = .ok (.getfield 127, 3) := by decide +kernel
theorem dX8_memberships_18 : decode cX8_memberships 18 = .ok (.iload_n 1, 1) := by decide +kernel
theorem dX8_memberships_19 : decode cX8_memberships 19 = .ok (.iaload, 1) := by decide +kernel
theorem dX8_memberships_20 : decode cX8_memberships 20 = .ok (.ireturn, 1) := by decide +kernel
theorem dX8_approvals_0 : decode cX8_approvals 0 = .ok (.iload_n 1, 1) := by decide +kernel
theorem dX8_approvals_1 : decode cX8_approvals 1 = .ok (.aload_n 0, 1) := by decide +kernel
theorem dX8_approvals_2 : decode cX8_approvals 2 = .ok (.getfield 60, 3) := by decide +kernel
theorem dX8_approvals_5 : decode cX8_approvals 5 = .ok (.getfield 100, 3) := by decide +kernel
theorem dX8_approvals_8 : decode cX8_approvals 8 = .ok (.invokestatic 114, 3) := by decide +kernel
theorem dX8_approvals_11 : decode cX8_approvals 11 = .ok (.aload_n 0, 1) := by decide +kernel
theorem dX8_approvals_12 : decode cX8_approvals 12 = .ok (.getfield 60, 3) := by decide +kernel
theorem dX8_approvals_15 : decode cX8_approvals 15 = .ok (.getfield 130, 3) := by decide +kernel
theorem dX8_approvals_18 : decode cX8_approvals 18 = .ok (.iload_n 1, 1) := by decide +kernel
theorem dX8_approvals_19 : decode cX8_approvals 19 = .ok (.iaload, 1) := by decide +kernel
theorem dX8_approvals_20 : decode cX8_approvals 20 = .ok (.ireturn, 1) := by decide +kernel
theorem dX8_weightOf_0 : decode cX8_weightOf 0 = .ok (.iload_n 1, 1) := by decide +kernel
theorem dX8_weightOf_1 : decode cX8_weightOf 1 = .ok (.aload_n 0, 1) := by decide +kernel
theorem dX8_weightOf_2 : decode cX8_weightOf 2 = .ok (.getfield 60, 3) := by decide +kernel
theorem dX8_weightOf_5 : decode cX8_weightOf 5 = .ok (.getfield 100, 3) := by decide +kernel
theorem dX8_weightOf_8 : decode cX8_weightOf 8 = .ok (.invokestatic 114, 3) := by decide +kernel
theorem dX8_weightOf_11 : decode cX8_weightOf 11 = .ok (.aload_n 0, 1) := by decide +kernel
theorem dX8_weightOf_12 : decode cX8_weightOf 12 = .ok (.getfield 60, 3) := by decide +kernel
theorem dX8_weightOf_15 : decode cX8_weightOf 15 = .ok (.getfield 133, 3) := by decide +kernel
theorem dX8_weightOf_18 : decode cX8_weightOf 18 = .ok (.iload_n 1, 1) := by decide +kernel
theorem dX8_weightOf_19 : decode cX8_weightOf 19 = .ok (.iaload, 1) := by decide +kernel
theorem dX8_weightOf_20 : decode cX8_weightOf 20 = .ok (.ireturn, 1) := by decide +kernel
theorem dX8_getSetting_0 : decode cX8_getSetting 0 = .ok (.iload_n 1, 1) := by decide +kernel
theorem dX8_getSetting_1 : decode cX8_getSetting 1 = .ok (.iconst 4, 1) := by decide +kernel
theorem dX8_getSetting_2 : decode cX8_getSetting 2 = .ok (.invokestatic 136, 3) := by decide +kernel
theorem dX8_getSetting_5 : decode cX8_getSetting 5 = .ok (.ifCond .eq 15, 3) := by decide +kernel
theorem dX8_getSetting_8 : decode cX8_getSetting 8 = .ok (.aload_n 0, 1) := by decide +kernel
theorem dX8_getSetting_9 : decode cX8_getSetting 9 = .ok (.getfield 60, 3) := by decide +kernel
theorem dX8_getSetting_12 : decode cX8_getSetting 12 = .ok (.getfield 140, 3) := by decide +kernel
theorem dX8_getSetting_15 : decode cX8_getSetting 15 = .ok (.iload_n 1, 1) := by decide +kernel
theorem dX8_getSetting_16 : decode cX8_getSetting 16 = .ok (.iaload, 1) := by decide +kernel
theorem dX8_getSetting_17 : decode cX8_getSetting 17 = .ok (.goto 5, 3) := by decide +kernel
theorem dX8_getSetting_20 : decode cX8_getSetting 20 = .ok (.bipush (-2), 2) := by decide +kernel
theorem dX8_getSetting_22 : decode cX8_getSetting 22 = .ok (.ireturn, 1) := by decide +kernel
theorem dX8_supporters_0 : decode cX8_supporters 0 = .ok (.iload_n 1, 1) := by decide +kernel
theorem dX8_supporters_1 : decode cX8_supporters 1 = .ok (.aload_n 0, 1) := by decide +kernel
theorem dX8_supporters_2 : decode cX8_supporters 2 = .ok (.getfield 60, 3) := by decide +kernel
theorem dX8_supporters_5 : decode cX8_supporters 5 = .ok (.getfield 97, 3) := by decide +kernel
theorem dX8_supporters_8 : decode cX8_supporters 8 = .ok (.invokestatic 114, 3) := by decide +kernel
theorem dX8_supporters_11 : decode cX8_supporters 11 = .ok (.aload_n 0, 1) := by decide +kernel
theorem dX8_supporters_12 : decode cX8_supporters 12 = .ok (.getfield 60, 3) := by decide +kernel
theorem dX8_supporters_15 : decode cX8_supporters 15 = .ok (.getfield 143, 3) := by decide +kernel
theorem dX8_supporters_18 : decode cX8_supporters 18 = .ok (.iload_n 1, 1) := by decide +kernel
theorem dX8_supporters_19 : decode cX8_supporters 19 = .ok (.iaload, 1) := by decide +kernel
theorem dX8_supporters_20 : decode cX8_supporters 20 = .ok (.ireturn, 1) := by decide +kernel
theorem dX8_votesFor_0 : decode cX8_votesFor 0 = .ok (.iload_n 1, 1) := by decide +kernel
theorem dX8_votesFor_1 : decode cX8_votesFor 1 = .ok (.aload_n 0, 1) := by decide +kernel
theorem dX8_votesFor_2 : decode cX8_votesFor 2 = .ok (.getfield 60, 3) := by decide +kernel
theorem dX8_votesFor_5 : decode cX8_votesFor 5 = .ok (.getfield 97, 3) := by decide +kernel
theorem dX8_votesFor_8 : decode cX8_votesFor 8 = .ok (.invokestatic 114, 3) := by decide +kernel
theorem dX8_votesFor_11 : decode cX8_votesFor 11 = .ok (.aload_n 0, 1) := by decide +kernel
theorem dX8_votesFor_12 : decode cX8_votesFor 12 = .ok (.getfield 60, 3) := by decide +kernel
theorem dX8_votesFor_15 : decode cX8_votesFor 15 = .ok (.getfield 146, 3) := by decide +kernel
theorem dX8_votesFor_18 : decode cX8_votesFor 18 = .ok (.iload_n 1, 1) := by decide +kernel
theorem dX8_votesFor_19 : decode cX8_votesFor 19 = .ok (.iaload, 1) := by decide +kernel
theorem dX8_votesFor_20 : decode cX8_votesFor 20 = .ok (.ireturn, 1) := by decide +kernel
theorem dX8_commonSupport_0 : decode cX8_commonSupport 0 = .ok (.iload_n 1, 1) := by decide +kernel
theorem dX8_commonSupport_1 : decode cX8_commonSupport 1 = .ok (.aload_n 0, 1) := by decide +kernel
theorem dX8_commonSupport_2 : decode cX8_commonSupport 2 = .ok (.getfield 60, 3) := by decide +kernel
theorem dX8_commonSupport_5 : decode cX8_commonSupport 5 = .ok (.getfield 97, 3) := by decide +kernel
theorem dX8_commonSupport_8 : decode cX8_commonSupport 8 = .ok (.invokestatic 114, 3) := by decide +kernel
theorem dX8_commonSupport_11 : decode cX8_commonSupport 11 = .ok (.iload_n 2, 1) := by decide +kernel
theorem dX8_commonSupport_12 : decode cX8_commonSupport 12 = .ok (.aload_n 0, 1) := by decide +kernel
theorem dX8_commonSupport_13 : decode cX8_commonSupport 13 = .ok (.getfield 60, 3) := by decide +kernel
theorem dX8_commonSupport_16 : decode cX8_commonSupport 16 = .ok (.getfield 97, 3) := by decide +kernel
theorem dX8_commonSupport_19 : decode cX8_commonSupport 19 = .ok (.invokestatic 114, 3) := by decide +kernel
theorem dX8_commonSupport_22 : decode cX8_commonSupport 22 = .ok (.aload_n 0, 1) := by decide +kernel
theorem dX8_commonSupport_23 : decode cX8_commonSupport 23 = .ok (.getfield 60, 3) := by decide +kernel
theorem dX8_commonSupport_26 : decode cX8_commonSupport 26 = .ok (.getfield 143, 3) := by decide +kernel
theorem dX8_commonSupport_29 : decode cX8_commonSupport 29 = .ok (.iload_n 1, 1) := by decide +kernel
theorem dX8_commonSupport_30 : decode cX8_commonSupport 30 = .ok (.iaload, 1) := by decide +kernel
theorem dX8_commonSupport_31 : decode cX8_commonSupport 31 = .ok (.aload_n 0, 1) := by decide +kernel
theorem dX8_commonSupport_32 : decode cX8_commonSupport 32 = .ok (.getfield 60, 3) := by decide +kernel
theorem dX8_commonSupport_35 : decode cX8_commonSupport 35 = .ok (.getfield 143, 3) := by decide +kernel
theorem dX8_commonSupport_38 : decode cX8_commonSupport 38 = .ok (.iload_n 2, 1) := by decide +kernel
theorem dX8_commonSupport_39 : decode cX8_commonSupport 39 = .ok (.iaload, 1) := by decide +kernel
theorem dX8_commonSupport_40 : decode cX8_commonSupport 40 = .ok (.iand, 1) := by decide +kernel
theorem dX8_commonSupport_41 : decode cX8_commonSupport 41 = .ok (.invokestatic 149, 3) := by decide +kernel
theorem dX8_commonSupport_44 : decode cX8_commonSupport 44 = .ok (.ireturn, 1) := by decide +kernel
theorem dX8_purse_0 : decode cX8_purse 0 = .ok (.iload_n 1, 1) := by decide +kernel
theorem dX8_purse_1 : decode cX8_purse 1 = .ok (.aload_n 0, 1) := by decide +kernel
theorem dX8_purse_2 : decode cX8_purse 2 = .ok (.getfield 60, 3) := by decide +kernel
theorem dX8_purse_5 : decode cX8_purse 5 = .ok (.getfield 100, 3) := by decide +kernel
theorem dX8_purse_8 : decode cX8_purse 8 = .ok (.invokestatic 114, 3) := by decide +kernel
theorem dX8_purse_11 : decode cX8_purse 11 = .ok (.iload_n 2, 1) := by decide +kernel
theorem dX8_purse_12 : decode cX8_purse 12 = .ok (.aload_n 0, 1) := by decide +kernel
theorem dX8_purse_13 : decode cX8_purse 13 = .ok (.getfield 60, 3) := by decide +kernel
theorem dX8_purse_16 : decode cX8_purse 16 = .ok (.getfield 94, 3) := by decide +kernel
theorem dX8_purse_19 : decode cX8_purse 19 = .ok (.invokestatic 114, 3) := by decide +kernel
theorem dX8_purse_22 : decode cX8_purse 22 = .ok (.aload_n 0, 1) := by decide +kernel
theorem dX8_purse_23 : decode cX8_purse 23 = .ok (.getfield 60, 3) := by decide +kernel
theorem dX8_purse_26 : decode cX8_purse 26 = .ok (.iload_n 1, 1) := by decide +kernel
theorem dX8_purse_27 : decode cX8_purse 27 = .ok (.iload_n 2, 1) := by decide +kernel
theorem dX8_purse_28 : decode cX8_purse 28 = .ok (.invokevirtual 155, 3) := by decide +kernel
theorem dX8_purse_31 : decode cX8_purse 31 = .ok (.ireturn, 1) := by decide +kernel
theorem dX8_endowment_0 : decode cX8_endowment 0 = .ok (.iload_n 1, 1) := by decide +kernel
theorem dX8_endowment_1 : decode cX8_endowment 1 = .ok (.aload_n 0, 1) := by decide +kernel
theorem dX8_endowment_2 : decode cX8_endowment 2 = .ok (.getfield 60, 3) := by decide +kernel
theorem dX8_endowment_5 : decode cX8_endowment 5 = .ok (.getfield 100, 3) := by decide +kernel
theorem dX8_endowment_8 : decode cX8_endowment 8 = .ok (.invokestatic 114, 3) := by decide +kernel
theorem dX8_endowment_11 : decode cX8_endowment 11 = .ok (.aload_n 0, 1) := by decide +kernel
theorem dX8_endowment_12 : decode cX8_endowment 12 = .ok (.getfield 60, 3) := by decide +kernel
theorem dX8_endowment_15 : decode cX8_endowment 15 = .ok (.iload_n 1, 1) := by decide +kernel
theorem dX8_endowment_16 : decode cX8_endowment 16 = .ok (.aload_n 0, 1) := by decide +kernel
theorem dX8_endowment_17 : decode cX8_endowment 17 = .ok (.getfield 60, 3) := by decide +kernel
theorem dX8_endowment_20 : decode cX8_endowment 20 = .ok (.getfield 127, 3) := by decide +kernel
theorem dX8_endowment_23 : decode cX8_endowment 23 = .ok (.iload_n 1, 1) := by decide +kernel
theorem dX8_endowment_24 : decode cX8_endowment 24 = .ok (.iaload, 1) := by decide +kernel
theorem dX8_endowment_25 : decode cX8_endowment 25 = .ok (.invokevirtual 159, 3) := by decide +kernel
theorem dX8_endowment_28 : decode cX8_endowment 28 = .ok (.ireturn, 1) := by decide +kernel
theorem dX8_firstPrice_0 : decode cX8_firstPrice 0 = .ok (.iload_n 1, 1) := by decide +kernel
theorem dX8_firstPrice_1 : decode cX8_firstPrice 1 = .ok (.aload_n 0, 1) := by decide +kernel
theorem dX8_firstPrice_2 : decode cX8_firstPrice 2 = .ok (.getfield 60, 3) := by decide +kernel
theorem dX8_firstPrice_5 : decode cX8_firstPrice 5 = .ok (.getfield 97, 3) := by decide +kernel
theorem dX8_firstPrice_8 : decode cX8_firstPrice 8 = .ok (.invokestatic 114, 3) := by decide +kernel
theorem dX8_firstPrice_11 : decode cX8_firstPrice 11 = .ok (.aload_n 0, 1) := by decide +kernel
theorem dX8_firstPrice_12 : decode cX8_firstPrice 12 = .ok (.invokevirtual 162, 3) := by decide +kernel
theorem dX8_firstPrice_15 : decode cX8_firstPrice 15 = .ok (.getfield 166, 3) := by decide +kernel
theorem dX8_firstPrice_18 : decode cX8_firstPrice 18 = .ok (.iload_n 1, 1) := by decide +kernel
theorem dX8_firstPrice_19 : decode cX8_firstPrice 19 = .ok (.iaload, 1) := by decide +kernel
theorem dX8_firstPrice_20 : decode cX8_firstPrice 20 = .ok (.ireturn, 1) := by decide +kernel
theorem dX8_priceOf_0 : decode cX8_priceOf 0 = .ok (.iload_n 1, 1) := by decide +kernel
theorem dX8_priceOf_1 : decode cX8_priceOf 1 = .ok (.aload_n 0, 1) := by decide +kernel
theorem dX8_priceOf_2 : decode cX8_priceOf 2 = .ok (.getfield 60, 3) := by decide +kernel
theorem dX8_priceOf_5 : decode cX8_priceOf 5 = .ok (.getfield 97, 3) := by decide +kernel
theorem dX8_priceOf_8 : decode cX8_priceOf 8 = .ok (.invokestatic 114, 3) := by decide +kernel
theorem dX8_priceOf_11 : decode cX8_priceOf 11 = .ok (.aload_n 0, 1) := by decide +kernel
theorem dX8_priceOf_12 : decode cX8_priceOf 12 = .ok (.invokevirtual 162, 3) := by decide +kernel
theorem dX8_priceOf_15 : decode cX8_priceOf 15 = .ok (.getfield 169, 3) := by decide +kernel
theorem dX8_priceOf_18 : decode cX8_priceOf 18 = .ok (.astore_n 2, 1) := by decide +kernel
theorem dX8_priceOf_19 : decode cX8_priceOf 19 = .ok (.aload_n 2, 1) := by decide +kernel
theorem dX8_priceOf_20 : decode cX8_priceOf 20 = .ok (.iload_n 1, 1) := by decide +kernel
theorem dX8_priceOf_21 : decode cX8_priceOf 21 = .ok (.invokevirtual 173, 3) := by decide +kernel
theorem dX8_priceOf_24 : decode cX8_priceOf 24 = .ok (.istore_n 3, 1) := by decide +kernel
theorem dX8_priceOf_25 : decode cX8_priceOf 25 = .ok (.iload_n 3, 1) := by decide +kernel
theorem dX8_priceOf_26 : decode cX8_priceOf 26 = .ok (.ifCond .ge 7, 3) := by decide +kernel
theorem dX8_priceOf_29 : decode cX8_priceOf 29 = .ok (.iconst (-1), 1) := by decide +kernel
theorem dX8_priceOf_30 : decode cX8_priceOf 30 = .ok (.goto 11, 3) := by decide +kernel
theorem dX8_priceOf_33 : decode cX8_priceOf 33 = .ok (.aload_n 2, 1) := by decide +kernel
theorem dX8_priceOf_34 : decode cX8_priceOf 34 = .ok (.getfield 178, 3) := by decide +kernel
theorem dX8_priceOf_37 : decode cX8_priceOf 37 = .ok (.iload_n 1, 1) := by decide +kernel
theorem dX8_priceOf_38 : decode cX8_priceOf 38 = .ok (.aaload, 1) := by decide +kernel
theorem dX8_priceOf_39 : decode cX8_priceOf 39 = .ok (.iload_n 3, 1) := by decide +kernel
theorem dX8_priceOf_40 : decode cX8_priceOf 40 = .ok (.iaload, 1) := by decide +kernel
theorem dX8_priceOf_41 : decode cX8_priceOf 41 = .ok (.ireturn, 1) := by decide +kernel
theorem dX8_priceIn_0 : decode cX8_priceIn 0 = .ok (.iload_n 1, 1) := by decide +kernel
theorem dX8_priceIn_1 : decode cX8_priceIn 1 = .ok (.aload_n 0, 1) := by decide +kernel
theorem dX8_priceIn_2 : decode cX8_priceIn 2 = .ok (.getfield 60, 3) := by decide +kernel
theorem dX8_priceIn_5 : decode cX8_priceIn 5 = .ok (.getfield 97, 3) := by decide +kernel
theorem dX8_priceIn_8 : decode cX8_priceIn 8 = .ok (.invokestatic 114, 3) := by decide +kernel
theorem dX8_priceIn_11 : decode cX8_priceIn 11 = .ok (.aload_n 0, 1) := by decide +kernel
theorem dX8_priceIn_12 : decode cX8_priceIn 12 = .ok (.invokevirtual 162, 3) := by decide +kernel
theorem dX8_priceIn_15 : decode cX8_priceIn 15 = .ok (.getfield 169, 3) := by decide +kernel
theorem dX8_priceIn_18 : decode cX8_priceIn 18 = .ok (.astore_n 3, 1) := by decide +kernel
theorem dX8_priceIn_19 : decode cX8_priceIn 19 = .ok (.iload_n 2, 1) := by decide +kernel
theorem dX8_priceIn_20 : decode cX8_priceIn 20 = .ok (.ifCond .lt 11, 3) := by decide +kernel
theorem dX8_priceIn_23 : decode cX8_priceIn 23 = .ok (.iload_n 2, 1) := by decide +kernel
theorem dX8_priceIn_24 : decode cX8_priceIn 24 = .ok (.aload_n 3, 1) := by decide +kernel
theorem dX8_priceIn_25 : decode cX8_priceIn 25 = .ok (.getfield 182, 3) := by decide +kernel
theorem dX8_priceIn_28 : decode cX8_priceIn 28 = .ok (.if_icmp .le 8, 3) := by decide +kernel
theorem dX8_priceIn_31 : decode cX8_priceIn 31 = .ok (.bipush (-2), 2) := by decide +kernel
theorem dX8_priceIn_33 : decode cX8_priceIn 33 = .ok (.goto 11, 3) := by decide +kernel
theorem dX8_priceIn_36 : decode cX8_priceIn 36 = .ok (.aload_n 3, 1) := by decide +kernel
theorem dX8_priceIn_37 : decode cX8_priceIn 37 = .ok (.getfield 178, 3) := by decide +kernel
theorem dX8_priceIn_40 : decode cX8_priceIn 40 = .ok (.iload_n 1, 1) := by decide +kernel
theorem dX8_priceIn_41 : decode cX8_priceIn 41 = .ok (.aaload, 1) := by decide +kernel
theorem dX8_priceIn_42 : decode cX8_priceIn 42 = .ok (.iload_n 2, 1) := by decide +kernel
theorem dX8_priceIn_43 : decode cX8_priceIn 43 = .ok (.iaload, 1) := by decide +kernel
theorem dX8_priceIn_44 : decode cX8_priceIn 44 = .ok (.ireturn, 1) := by decide +kernel
theorem dX8_roundOf_0 : decode cX8_roundOf 0 = .ok (.iload_n 1, 1) := by decide +kernel
theorem dX8_roundOf_1 : decode cX8_roundOf 1 = .ok (.aload_n 0, 1) := by decide +kernel
theorem dX8_roundOf_2 : decode cX8_roundOf 2 = .ok (.getfield 60, 3) := by decide +kernel
theorem dX8_roundOf_5 : decode cX8_roundOf 5 = .ok (.getfield 97, 3) := by decide +kernel
theorem dX8_roundOf_8 : decode cX8_roundOf 8 = .ok (.invokestatic 114, 3) := by decide +kernel
theorem dX8_roundOf_11 : decode cX8_roundOf 11 = .ok (.aload_n 0, 1) := by decide +kernel
theorem dX8_roundOf_12 : decode cX8_roundOf 12 = .ok (.invokevirtual 162, 3) := by decide +kernel
theorem dX8_roundOf_15 : decode cX8_roundOf 15 = .ok (.getfield 169, 3) := by decide +kernel
theorem dX8_roundOf_18 : decode cX8_roundOf 18 = .ok (.iload_n 1, 1) := by decide +kernel
theorem dX8_roundOf_19 : decode cX8_roundOf 19 = .ok (.invokevirtual 173, 3) := by decide +kernel
theorem dX8_roundOf_22 : decode cX8_roundOf 22 = .ok (.ireturn, 1) := by decide +kernel
theorem dX8_paidBy_0 : decode cX8_paidBy 0 = .ok (.iload_n 1, 1) := by decide +kernel
theorem dX8_paidBy_1 : decode cX8_paidBy 1 = .ok (.aload_n 0, 1) := by decide +kernel
theorem dX8_paidBy_2 : decode cX8_paidBy 2 = .ok (.getfield 60, 3) := by decide +kernel
theorem dX8_paidBy_5 : decode cX8_paidBy 5 = .ok (.getfield 97, 3) := by decide +kernel
theorem dX8_paidBy_8 : decode cX8_paidBy 8 = .ok (.invokestatic 114, 3) := by decide +kernel
theorem dX8_paidBy_11 : decode cX8_paidBy 11 = .ok (.iload_n 2, 1) := by decide +kernel
theorem dX8_paidBy_12 : decode cX8_paidBy 12 = .ok (.aload_n 0, 1) := by decide +kernel
theorem dX8_paidBy_13 : decode cX8_paidBy 13 = .ok (.getfield 60, 3) := by decide +kernel
theorem dX8_paidBy_16 : decode cX8_paidBy 16 = .ok (.getfield 100, 3) := by decide +kernel
theorem dX8_paidBy_19 : decode cX8_paidBy 19 = .ok (.invokestatic 114, 3) := by decide +kernel
theorem dX8_paidBy_22 : decode cX8_paidBy 22 = .ok (.aload_n 0, 1) := by decide +kernel
theorem dX8_paidBy_23 : decode cX8_paidBy 23 = .ok (.invokevirtual 162, 3) := by decide +kernel
theorem dX8_paidBy_26 : decode cX8_paidBy 26 = .ok (.getfield 169, 3) := by decide +kernel
theorem dX8_paidBy_29 : decode cX8_paidBy 29 = .ok (.getfield 183, 3) := by decide +kernel
theorem dX8_paidBy_32 : decode cX8_paidBy 32 = .ok (.iload_n 1, 1) := by decide +kernel
theorem dX8_paidBy_33 : decode cX8_paidBy 33 = .ok (.aaload, 1) := by decide +kernel
theorem dX8_paidBy_34 : decode cX8_paidBy 34 = .ok (.iload_n 2, 1) := by decide +kernel
theorem dX8_paidBy_35 : decode cX8_paidBy 35 = .ok (.iaload, 1) := by decide +kernel
theorem dX8_paidBy_36 : decode cX8_paidBy 36 = .ok (.ireturn, 1) := by decide +kernel
theorem dX8_spentBy_0 : decode cX8_spentBy 0 = .ok (.iload_n 1, 1) := by decide +kernel
theorem dX8_spentBy_1 : decode cX8_spentBy 1 = .ok (.aload_n 0, 1) := by decide +kernel
theorem dX8_spentBy_2 : decode cX8_spentBy 2 = .ok (.getfield 60, 3) := by decide +kernel
theorem dX8_spentBy_5 : decode cX8_spentBy 5 = .ok (.getfield 100, 3) := by decide +kernel
theorem dX8_spentBy_8 : decode cX8_spentBy 8 = .ok (.invokestatic 114, 3) := by decide +kernel
theorem dX8_spentBy_11 : decode cX8_spentBy 11 = .ok (.aload_n 0, 1) := by decide +kernel
theorem dX8_spentBy_12 : decode cX8_spentBy 12 = .ok (.invokevirtual 162, 3) := by decide +kernel
theorem dX8_spentBy_15 : decode cX8_spentBy 15 = .ok (.getfield 169, 3) := by decide +kernel
theorem dX8_spentBy_18 : decode cX8_spentBy 18 = .ok (.astore_n 2, 1) := by decide +kernel
theorem dX8_spentBy_19 : decode cX8_spentBy 19 = .ok (.iconst 0, 1) := by decide +kernel
theorem dX8_spentBy_20 : decode cX8_spentBy 20 = .ok (.istore_n 3, 1) := by decide +kernel
theorem dX8_spentBy_21 : decode cX8_spentBy 21 = .ok (.iconst 0, 1) := by decide +kernel
theorem dX8_spentBy_22 : decode cX8_spentBy 22 = .ok (.istore 4, 2) := by decide +kernel
theorem dX8_spentBy_24 : decode cX8_spentBy 24 = .ok (.iload 4, 2) := by decide +kernel
theorem dX8_spentBy_26 : decode cX8_spentBy 26 = .ok (.aload_n 0, 1) := by decide +kernel
theorem dX8_spentBy_27 : decode cX8_spentBy 27 = .ok (.getfield 60, 3) := by decide +kernel
theorem dX8_spentBy_30 : decode cX8_spentBy 30 = .ok (.getfield 97, 3) := by decide +kernel
theorem dX8_spentBy_33 : decode cX8_spentBy 33 = .ok (.if_icmp .ge 21, 3) := by decide +kernel
theorem dX8_spentBy_36 : decode cX8_spentBy 36 = .ok (.iload_n 3, 1) := by decide +kernel
theorem dX8_spentBy_37 : decode cX8_spentBy 37 = .ok (.aload_n 2, 1) := by decide +kernel
theorem dX8_spentBy_38 : decode cX8_spentBy 38 = .ok (.getfield 183, 3) := by decide +kernel
theorem dX8_spentBy_41 : decode cX8_spentBy 41 = .ok (.iload 4, 2) := by decide +kernel
theorem dX8_spentBy_43 : decode cX8_spentBy 43 = .ok (.aaload, 1) := by decide +kernel
theorem dX8_spentBy_44 : decode cX8_spentBy 44 = .ok (.iload_n 1, 1) := by decide +kernel
theorem dX8_spentBy_45 : decode cX8_spentBy 45 = .ok (.iaload, 1) := by decide +kernel
theorem dX8_spentBy_46 : decode cX8_spentBy 46 = .ok (.iadd, 1) := by decide +kernel
theorem dX8_spentBy_47 : decode cX8_spentBy 47 = .ok (.istore_n 3, 1) := by decide +kernel
theorem dX8_spentBy_48 : decode cX8_spentBy 48 = .ok (.iinc 4 1, 3) := by decide +kernel
theorem dX8_spentBy_51 : decode cX8_spentBy 51 = .ok (.goto (-27), 3) := by decide +kernel
theorem dX8_spentBy_54 : decode cX8_spentBy 54 = .ok (.iload_n 3, 1) := by decide +kernel
theorem dX8_spentBy_55 : decode cX8_spentBy 55 = .ok (.ireturn, 1) := by decide +kernel
theorem dX8_payers_0 : decode cX8_payers 0 = .ok (.iload_n 1, 1) := by decide +kernel
theorem dX8_payers_1 : decode cX8_payers 1 = .ok (.aload_n 0, 1) := by decide +kernel
theorem dX8_payers_2 : decode cX8_payers 2 = .ok (.getfield 60, 3) := by decide +kernel
theorem dX8_payers_5 : decode cX8_payers 5 = .ok (.getfield 97, 3) := by decide +kernel
theorem dX8_payers_8 : decode cX8_payers 8 = .ok (.invokestatic 114, 3) := by decide +kernel
theorem dX8_payers_11 : decode cX8_payers 11 = .ok (.aload_n 0, 1) := by decide +kernel
theorem dX8_payers_12 : decode cX8_payers 12 = .ok (.invokevirtual 162, 3) := by decide +kernel
theorem dX8_payers_15 : decode cX8_payers 15 = .ok (.getfield 169, 3) := by decide +kernel
theorem dX8_payers_18 : decode cX8_payers 18 = .ok (.astore_n 2, 1) := by decide +kernel
theorem dX8_payers_19 : decode cX8_payers 19 = .ok (.iconst 0, 1) := by decide +kernel
theorem dX8_payers_20 : decode cX8_payers 20 = .ok (.istore_n 3, 1) := by decide +kernel
theorem dX8_payers_21 : decode cX8_payers 21 = .ok (.iconst 0, 1) := by decide +kernel
theorem dX8_payers_22 : decode cX8_payers 22 = .ok (.istore 4, 2) := by decide +kernel
theorem dX8_payers_24 : decode cX8_payers 24 = .ok (.iload 4, 2) := by decide +kernel
theorem dX8_payers_26 : decode cX8_payers 26 = .ok (.aload_n 0, 1) := by decide +kernel
theorem dX8_payers_27 : decode cX8_payers 27 = .ok (.getfield 60, 3) := by decide +kernel
theorem dX8_payers_30 : decode cX8_payers 30 = .ok (.getfield 100, 3) := by decide +kernel
theorem dX8_payers_33 : decode cX8_payers 33 = .ok (.if_icmp .ge 28, 3) := by decide +kernel
theorem dX8_payers_36 : decode cX8_payers 36 = .ok (.aload_n 2, 1) := by decide +kernel
theorem dX8_payers_37 : decode cX8_payers 37 = .ok (.getfield 183, 3) := by decide +kernel
theorem dX8_payers_40 : decode cX8_payers 40 = .ok (.iload_n 1, 1) := by decide +kernel
theorem dX8_payers_41 : decode cX8_payers 41 = .ok (.aaload, 1) := by decide +kernel
theorem dX8_payers_42 : decode cX8_payers 42 = .ok (.iload 4, 2) := by decide +kernel
theorem dX8_payers_44 : decode cX8_payers 44 = .ok (.iaload, 1) := by decide +kernel
theorem dX8_payers_45 : decode cX8_payers 45 = .ok (.ifCond .le 10, 3) := by decide +kernel
theorem dX8_payers_48 : decode cX8_payers 48 = .ok (.iload_n 3, 1) := by decide +kernel
theorem dX8_payers_49 : decode cX8_payers 49 = .ok (.iconst 1, 1) := by decide +kernel
theorem dX8_payers_50 : decode cX8_payers 50 = .ok (.iload 4, 2) := by decide +kernel
theorem dX8_payers_52 : decode cX8_payers 52 = .ok (.ishl, 1) := by decide +kernel
theorem dX8_payers_53 : decode cX8_payers 53 = .ok (.ior, 1) := by decide +kernel
theorem dX8_payers_54 : decode cX8_payers 54 = .ok (.istore_n 3, 1) := by decide +kernel
theorem dX8_payers_55 : decode cX8_payers 55 = .ok (.iinc 4 1, 3) := by decide +kernel
theorem dX8_payers_58 : decode cX8_payers 58 = .ok (.goto (-34), 3) := by decide +kernel
theorem dX8_payers_61 : decode cX8_payers 61 = .ok (.iload_n 3, 1) := by decide +kernel
theorem dX8_payers_62 : decode cX8_payers 62 = .ok (.ireturn, 1) := by decide +kernel
theorem dX8_purseLeft_0 : decode cX8_purseLeft 0 = .ok (.iload_n 1, 1) := by decide +kernel
theorem dX8_purseLeft_1 : decode cX8_purseLeft 1 = .ok (.aload_n 0, 1) := by decide +kernel
theorem dX8_purseLeft_2 : decode cX8_purseLeft 2 = .ok (.getfield 60, 3) := by decide +kernel
theorem dX8_purseLeft_5 : decode cX8_purseLeft 5 = .ok (.getfield 100, 3) := by decide +kernel
theorem dX8_purseLeft_8 : decode cX8_purseLeft 8 = .ok (.invokestatic 114, 3) := by decide +kernel
theorem dX8_purseLeft_11 : decode cX8_purseLeft 11 = .ok (.iload_n 2, 1) := by decide +kernel
theorem dX8_purseLeft_12 : decode cX8_purseLeft 12 = .ok (.aload_n 0, 1) := by decide +kernel
theorem dX8_purseLeft_13 : decode cX8_purseLeft 13 = .ok (.getfield 60, 3) := by decide +kernel
theorem dX8_purseLeft_16 : decode cX8_purseLeft 16 = .ok (.getfield 94, 3) := by decide +kernel
theorem dX8_purseLeft_19 : decode cX8_purseLeft 19 = .ok (.invokestatic 114, 3) := by decide +kernel
theorem dX8_purseLeft_22 : decode cX8_purseLeft 22 = .ok (.aload_n 0, 1) := by decide +kernel
theorem dX8_purseLeft_23 : decode cX8_purseLeft 23 = .ok (.invokevirtual 162, 3) := by decide +kernel
theorem dX8_purseLeft_26 : decode cX8_purseLeft 26 = .ok (.getfield 169, 3) := by decide +kernel
theorem dX8_purseLeft_29 : decode cX8_purseLeft 29 = .ok (.getfield 186, 3) := by decide +kernel
theorem dX8_purseLeft_32 : decode cX8_purseLeft 32 = .ok (.iload_n 1, 1) := by decide +kernel
theorem dX8_purseLeft_33 : decode cX8_purseLeft 33 = .ok (.aaload, 1) := by decide +kernel
theorem dX8_purseLeft_34 : decode cX8_purseLeft 34 = .ok (.iload_n 2, 1) := by decide +kernel
theorem dX8_purseLeft_35 : decode cX8_purseLeft 35 = .ok (.iaload, 1) := by decide +kernel
theorem dX8_purseLeft_36 : decode cX8_purseLeft 36 = .ok (.ireturn, 1) := by decide +kernel
theorem dX8_meansLeft_0 : decode cX8_meansLeft 0 = .ok (.iload_n 1, 1) := by decide +kernel
theorem dX8_meansLeft_1 : decode cX8_meansLeft 1 = .ok (.aload_n 0, 1) := by decide +kernel
theorem dX8_meansLeft_2 : decode cX8_meansLeft 2 = .ok (.getfield 60, 3) := by decide +kernel
theorem dX8_meansLeft_5 : decode cX8_meansLeft 5 = .ok (.getfield 97, 3) := by decide +kernel
theorem dX8_meansLeft_8 : decode cX8_meansLeft 8 = .ok (.invokestatic 114, 3) := by decide +kernel
theorem dX8_meansLeft_11 : decode cX8_meansLeft 11 = .ok (.aload_n 0, 1) := by decide +kernel
theorem dX8_meansLeft_12 : decode cX8_meansLeft 12 = .ok (.invokevirtual 162, 3) := by decide +kernel
theorem dX8_meansLeft_15 : decode cX8_meansLeft 15 = .ok (.getfield 169, 3) := by decide +kernel
theorem dX8_meansLeft_18 : decode cX8_meansLeft 18 = .ok (.astore_n 2, 1) := by decide +kernel
theorem dX8_meansLeft_19 : decode cX8_meansLeft 19 = .ok (.iconst 0, 1) := by decide +kernel
theorem dX8_meansLeft_20 : decode cX8_meansLeft 20 = .ok (.istore_n 3, 1) := by decide +kernel
theorem dX8_meansLeft_21 : decode cX8_meansLeft 21 = .ok (.iconst 0, 1) := by decide +kernel
theorem dX8_meansLeft_22 : decode cX8_meansLeft 22 = .ok (.istore 4, 2) := by decide +kernel
theorem dX8_meansLeft_24 : decode cX8_meansLeft 24 = .ok (.iload 4, 2) := by decide +kernel
theorem dX8_meansLeft_26 : decode cX8_meansLeft 26 = .ok (.aload_n 0, 1) := by decide +kernel
theorem dX8_meansLeft_27 : decode cX8_meansLeft 27 = .ok (.getfield 60, 3) := by decide +kernel
theorem dX8_meansLeft_30 : decode cX8_meansLeft 30 = .ok (.getfield 100, 3) := by decide +kernel
theorem dX8_meansLeft_33 : decode cX8_meansLeft 33 = .ok (.if_icmp .ge 44, 3) := by decide +kernel
theorem dX8_meansLeft_36 : decode cX8_meansLeft 36 = .ok (.aload_n 0, 1) := by decide +kernel
theorem dX8_meansLeft_37 : decode cX8_meansLeft 37 = .ok (.getfield 60, 3) := by decide +kernel
theorem dX8_meansLeft_40 : decode cX8_meansLeft 40 = .ok (.getfield 143, 3) := by decide +kernel
theorem dX8_meansLeft_43 : decode cX8_meansLeft 43 = .ok (.iload_n 1, 1) := by decide +kernel
theorem dX8_meansLeft_44 : decode cX8_meansLeft 44 = .ok (.iaload, 1) := by decide +kernel
theorem dX8_meansLeft_45 : decode cX8_meansLeft 45 = .ok (.iload 4, 2) := by decide +kernel
theorem dX8_meansLeft_47 : decode cX8_meansLeft 47 = .ok (.invokestatic 189, 3) := by decide +kernel
theorem dX8_meansLeft_50 : decode cX8_meansLeft 50 = .ok (.ifCond .eq 21, 3) := by decide +kernel
theorem dX8_meansLeft_53 : decode cX8_meansLeft 53 = .ok (.iload_n 3, 1) := by decide +kernel
theorem dX8_meansLeft_54 : decode cX8_meansLeft 54 = .ok (.aload_n 2, 1) := by decide +kernel
theorem dX8_meansLeft_55 : decode cX8_meansLeft 55 = .ok (.iload 4, 2) := by decide +kernel
theorem dX8_meansLeft_57 : decode cX8_meansLeft 57 = .ok (.aload_n 0, 1) := by decide +kernel
theorem dX8_meansLeft_58 : decode cX8_meansLeft 58 = .ok (.getfield 60, 3) := by decide +kernel
theorem dX8_meansLeft_61 : decode cX8_meansLeft 61 = .ok (.getfield 124, 3) := by decide +kernel
theorem dX8_meansLeft_64 : decode cX8_meansLeft 64 = .ok (.iload_n 1, 1) := by decide +kernel
theorem dX8_meansLeft_65 : decode cX8_meansLeft 65 = .ok (.iaload, 1) := by decide +kernel
theorem dX8_meansLeft_66 : decode cX8_meansLeft 66 = .ok (.invokevirtual 192, 3) := by decide +kernel
theorem dX8_meansLeft_69 : decode cX8_meansLeft 69 = .ok (.iadd, 1) := by decide +kernel
theorem dX8_meansLeft_70 : decode cX8_meansLeft 70 = .ok (.istore_n 3, 1) := by decide +kernel
theorem dX8_meansLeft_71 : decode cX8_meansLeft 71 = .ok (.iinc 4 1, 3) := by decide +kernel
theorem dX8_meansLeft_74 : decode cX8_meansLeft 74 = .ok (.goto (-50), 3) := by decide +kernel
theorem dX8_meansLeft_77 : decode cX8_meansLeft 77 = .ok (.iload_n 3, 1) := by decide +kernel
theorem dX8_meansLeft_78 : decode cX8_meansLeft 78 = .ok (.ireturn, 1) := by decide +kernel
theorem dX8_richest_0 : decode cX8_richest 0 = .ok (.aload_n 0, 1) := by decide +kernel
theorem dX8_richest_1 : decode cX8_richest 1 = .ok (.invokevirtual 162, 3) := by decide +kernel
theorem dX8_richest_4 : decode cX8_richest 4 = .ok (.getfield 169, 3) := by decide +kernel
theorem dX8_richest_7 : decode cX8_richest 7 = .ok (.astore_n 1, 1) := by decide +kernel
theorem dX8_richest_8 : decode cX8_richest 8 = .ok (.iconst (-1), 1) := by decide +kernel
theorem dX8_richest_9 : decode cX8_richest 9 = .ok (.istore_n 2, 1) := by decide +kernel
theorem dX8_richest_10 : decode cX8_richest 10 = .ok (.iconst 0, 1) := by decide +kernel
theorem dX8_richest_11 : decode cX8_richest 11 = .ok (.istore_n 3, 1) := by decide +kernel
theorem dX8_richest_12 : decode cX8_richest 12 = .ok (.iconst 0, 1) := by decide +kernel
theorem dX8_richest_13 : decode cX8_richest 13 = .ok (.istore 4, 2) := by decide +kernel
theorem dX8_richest_15 : decode cX8_richest 15 = .ok (.iload 4, 2) := by decide +kernel
theorem dX8_richest_17 : decode cX8_richest 17 = .ok (.aload_n 0, 1) := by decide +kernel
theorem dX8_richest_18 : decode cX8_richest 18 = .ok (.getfield 60, 3) := by decide +kernel
theorem dX8_richest_21 : decode cX8_richest 21 = .ok (.getfield 100, 3) := by decide +kernel
theorem dX8_richest_24 : decode cX8_richest 24 = .ok (.if_icmp .ge 43, 3) := by decide +kernel
theorem dX8_richest_27 : decode cX8_richest 27 = .ok (.aload_n 1, 1) := by decide +kernel
theorem dX8_richest_28 : decode cX8_richest 28 = .ok (.iload 4, 2) := by decide +kernel
theorem dX8_richest_30 : decode cX8_richest 30 = .ok (.aload_n 0, 1) := by decide +kernel
theorem dX8_richest_31 : decode cX8_richest 31 = .ok (.getfield 60, 3) := by decide +kernel
theorem dX8_richest_34 : decode cX8_richest 34 = .ok (.getfield 127, 3) := by decide +kernel
theorem dX8_richest_37 : decode cX8_richest 37 = .ok (.iload 4, 2) := by decide +kernel
theorem dX8_richest_39 : decode cX8_richest 39 = .ok (.iaload, 1) := by decide +kernel
theorem dX8_richest_40 : decode cX8_richest 40 = .ok (.invokevirtual 192, 3) := by decide +kernel
theorem dX8_richest_43 : decode cX8_richest 43 = .ok (.istore 5, 2) := by decide +kernel
theorem dX8_richest_45 : decode cX8_richest 45 = .ok (.iload_n 2, 1) := by decide +kernel
theorem dX8_richest_46 : decode cX8_richest 46 = .ok (.ifCond .lt 9, 3) := by decide +kernel
theorem dX8_richest_49 : decode cX8_richest 49 = .ok (.iload 5, 2) := by decide +kernel
theorem dX8_richest_51 : decode cX8_richest 51 = .ok (.iload_n 3, 1) := by decide +kernel
theorem dX8_richest_52 : decode cX8_richest 52 = .ok (.if_icmp .le 9, 3) := by decide +kernel
theorem dX8_richest_55 : decode cX8_richest 55 = .ok (.iload 4, 2) := by decide +kernel
theorem dX8_richest_57 : decode cX8_richest 57 = .ok (.istore_n 2, 1) := by decide +kernel
theorem dX8_richest_58 : decode cX8_richest 58 = .ok (.iload 5, 2) := by decide +kernel
theorem dX8_richest_60 : decode cX8_richest 60 = .ok (.istore_n 3, 1) := by decide +kernel
theorem dX8_richest_61 : decode cX8_richest 61 = .ok (.iinc 4 1, 3) := by decide +kernel
theorem dX8_richest_64 : decode cX8_richest 64 = .ok (.goto (-49), 3) := by decide +kernel
theorem dX8_richest_67 : decode cX8_richest 67 = .ok (.iload_n 2, 1) := by decide +kernel
theorem dX8_richest_68 : decode cX8_richest 68 = .ok (.ireturn, 1) := by decide +kernel
theorem dX8_raises_0 : decode cX8_raises 0 = .ok (.aload_n 0, 1) := by decide +kernel
theorem dX8_raises_1 : decode cX8_raises 1 = .ok (.invokevirtual 162, 3) := by decide +kernel
theorem dX8_raises_4 : decode cX8_raises 4 = .ok (.getfield 195, 3) := by decide +kernel
theorem dX8_raises_7 : decode cX8_raises 7 = .ok (.ireturn, 1) := by decide +kernel
theorem dX8_completed_0 : decode cX8_completed 0 = .ok (.aload_n 0, 1) := by decide +kernel
theorem dX8_completed_1 : decode cX8_completed 1 = .ok (.invokevirtual 162, 3) := by decide +kernel
theorem dX8_completed_4 : decode cX8_completed 4 = .ok (.astore_n 1, 1) := by decide +kernel
theorem dX8_completed_5 : decode cX8_completed 5 = .ok (.aload_n 1, 1) := by decide +kernel
theorem dX8_completed_6 : decode cX8_completed 6 = .ok (.invokevirtual 198, 3) := by decide +kernel
theorem dX8_completed_9 : decode cX8_completed 9 = .ok (.aload_n 1, 1) := by decide +kernel
theorem dX8_completed_10 : decode cX8_completed 10 = .ok (.getfield 202, 3) := by decide +kernel
theorem dX8_completed_13 : decode cX8_completed 13 = .ok (.iconst (-1), 1) := by decide +kernel
theorem dX8_completed_14 : decode cX8_completed 14 = .ok (.ixor, 1) := by decide +kernel
theorem dX8_completed_15 : decode cX8_completed 15 = .ok (.iand, 1) := by decide +kernel
theorem dX8_completed_16 : decode cX8_completed 16 = .ok (.invokestatic 149, 3) := by decide +kernel
theorem dX8_completed_19 : decode cX8_completed 19 = .ok (.ireturn, 1) := by decide +kernel
theorem dX8_funded_0 : decode cX8_funded 0 = .ok (.iload_n 1, 1) := by decide +kernel
theorem dX8_funded_1 : decode cX8_funded 1 = .ok (.invokestatic 205, 3) := by decide +kernel
theorem dX8_funded_4 : decode cX8_funded 4 = .ok (.ifCond .eq 11, 3) := by decide +kernel
theorem dX8_funded_7 : decode cX8_funded 7 = .ok (.aload_n 0, 1) := by decide +kernel
theorem dX8_funded_8 : decode cX8_funded 8 = .ok (.iload_n 1, 1) := by decide +kernel
theorem dX8_funded_9 : decode cX8_funded 9 = .ok (.invokevirtual 209, 3) := by decide +kernel
theorem dX8_funded_12 : decode cX8_funded 12 = .ok (.goto 5, 3) := by decide +kernel
theorem dX8_funded_15 : decode cX8_funded 15 = .ok (.bipush (-2), 2) := by decide +kernel
theorem dX8_funded_17 : decode cX8_funded 17 = .ok (.ireturn, 1) := by decide +kernel
theorem dX8_fundedAt_0 : decode cX8_fundedAt 0 = .ok (.iload_n 1, 1) := by decide +kernel
theorem dX8_fundedAt_1 : decode cX8_fundedAt 1 = .ok (.tableswitch 54 0 2 #[27, 36, 45], 27) := by decide +kernel
theorem dX8_fundedAt_28 : decode cX8_fundedAt 28 = .ok (.aload_n 0, 1) := by decide +kernel
theorem dX8_fundedAt_29 : decode cX8_fundedAt 29 = .ok (.invokevirtual 162, 3) := by decide +kernel
theorem dX8_fundedAt_32 : decode cX8_fundedAt 32 = .ok (.iload_n 2, 1) := by decide +kernel
theorem dX8_fundedAt_33 : decode cX8_fundedAt 33 = .ok (.invokevirtual 212, 3) := by decide +kernel
theorem dX8_fundedAt_36 : decode cX8_fundedAt 36 = .ok (.ireturn, 1) := by decide +kernel
theorem dX8_fundedAt_37 : decode cX8_fundedAt 37 = .ok (.aload_n 0, 1) := by decide +kernel
theorem dX8_fundedAt_38 : decode cX8_fundedAt 38 = .ok (.invokevirtual 215, 3) := by decide +kernel
theorem dX8_fundedAt_41 : decode cX8_fundedAt 41 = .ok (.iload_n 2, 1) := by decide +kernel
theorem dX8_fundedAt_42 : decode cX8_fundedAt 42 = .ok (.invokevirtual 219, 3) := by decide +kernel
theorem dX8_fundedAt_45 : decode cX8_fundedAt 45 = .ok (.ireturn, 1) := by decide +kernel
theorem dX8_fundedAt_46 : decode cX8_fundedAt 46 = .ok (.aload_n 0, 1) := by decide +kernel
theorem dX8_fundedAt_47 : decode cX8_fundedAt 47 = .ok (.invokevirtual 220, 3) := by decide +kernel
theorem dX8_fundedAt_50 : decode cX8_fundedAt 50 = .ok (.iload_n 2, 1) := by decide +kernel
theorem dX8_fundedAt_51 : decode cX8_fundedAt 51 = .ok (.invokestatic 223, 3) := by decide +kernel
theorem dX8_fundedAt_54 : decode cX8_fundedAt 54 = .ok (.ireturn, 1) := by decide +kernel
theorem dX8_fundedAt_55 : decode cX8_fundedAt 55 = .ok (.bipush (-2), 2) := by decide +kernel
theorem dX8_fundedAt_57 : decode cX8_fundedAt 57 = .ok (.ireturn, 1) := by decide +kernel
theorem dX8_paidFrom_0 : decode cX8_paidFrom 0 = .ok (.iload_n 2, 1) := by decide +kernel
theorem dX8_paidFrom_1 : decode cX8_paidFrom 1 = .ok (.aload_n 0, 1) := by decide +kernel
theorem dX8_paidFrom_2 : decode cX8_paidFrom 2 = .ok (.getfield 60, 3) := by decide +kernel
theorem dX8_paidFrom_5 : decode cX8_paidFrom 5 = .ok (.getfield 97, 3) := by decide +kernel
theorem dX8_paidFrom_8 : decode cX8_paidFrom 8 = .ok (.invokestatic 114, 3) := by decide +kernel
theorem dX8_paidFrom_11 : decode cX8_paidFrom 11 = .ok (.iload_n 3, 1) := by decide +kernel
theorem dX8_paidFrom_12 : decode cX8_paidFrom 12 = .ok (.aload_n 0, 1) := by decide +kernel
theorem dX8_paidFrom_13 : decode cX8_paidFrom 13 = .ok (.getfield 60, 3) := by decide +kernel
theorem dX8_paidFrom_16 : decode cX8_paidFrom 16 = .ok (.getfield 94, 3) := by decide +kernel
theorem dX8_paidFrom_19 : decode cX8_paidFrom 19 = .ok (.invokestatic 114, 3) := by decide +kernel
theorem dX8_paidFrom_22 : decode cX8_paidFrom 22 = .ok (.iload_n 1, 1) := by decide +kernel
theorem dX8_paidFrom_23 : decode cX8_paidFrom 23 = .ok (.ifCond .ne 35, 3) := by decide +kernel
theorem dX8_paidFrom_26 : decode cX8_paidFrom 26 = .ok (.aload_n 0, 1) := by decide +kernel
theorem dX8_paidFrom_27 : decode cX8_paidFrom 27 = .ok (.invokevirtual 162, 3) := by decide +kernel
theorem dX8_paidFrom_30 : decode cX8_paidFrom 30 = .ok (.astore 4, 2) := by decide +kernel
theorem dX8_paidFrom_32 : decode cX8_paidFrom 32 = .ok (.aload 4, 2) := by decide +kernel
theorem dX8_paidFrom_34 : decode cX8_paidFrom 34 = .ok (.getfield 169, 3) := by decide +kernel
theorem dX8_paidFrom_37 : decode cX8_paidFrom 37 = .ok (.getfield 226, 3) := by decide +kernel
theorem dX8_paidFrom_40 : decode cX8_paidFrom 40 = .ok (.iload_n 2, 1) := by decide +kernel
theorem dX8_paidFrom_41 : decode cX8_paidFrom 41 = .ok (.aaload, 1) := by decide +kernel
theorem dX8_paidFrom_42 : decode cX8_paidFrom 42 = .ok (.iload_n 3, 1) := by decide +kernel
theorem dX8_paidFrom_43 : decode cX8_paidFrom 43 = .ok (.iaload, 1) := by decide +kernel
theorem dX8_paidFrom_44 : decode cX8_paidFrom 44 = .ok (.aload 4, 2) := by decide +kernel
theorem dX8_paidFrom_46 : decode cX8_paidFrom 46 = .ok (.getfield 229, 3) := by decide +kernel
theorem dX8_paidFrom_49 : decode cX8_paidFrom 49 = .ok (.getfield 232, 3) := by decide +kernel
theorem dX8_paidFrom_52 : decode cX8_paidFrom 52 = .ok (.iload_n 2, 1) := by decide +kernel
theorem dX8_paidFrom_53 : decode cX8_paidFrom 53 = .ok (.aaload, 1) := by decide +kernel
theorem dX8_paidFrom_54 : decode cX8_paidFrom 54 = .ok (.iload_n 3, 1) := by decide +kernel
theorem dX8_paidFrom_55 : decode cX8_paidFrom 55 = .ok (.iaload, 1) := by decide +kernel
theorem dX8_paidFrom_56 : decode cX8_paidFrom 56 = .ok (.iadd, 1) := by decide +kernel
theorem dX8_paidFrom_57 : decode cX8_paidFrom 57 = .ok (.ireturn, 1) := by decide +kernel
theorem dX8_paidFrom_58 : decode cX8_paidFrom 58 = .ok (.iload_n 1, 1) := by decide +kernel
theorem dX8_paidFrom_59 : decode cX8_paidFrom 59 = .ok (.iconst 1, 1) := by decide +kernel
theorem dX8_paidFrom_60 : decode cX8_paidFrom 60 = .ok (.if_icmp .ne 17, 3) := by decide +kernel
theorem dX8_paidFrom_63 : decode cX8_paidFrom 63 = .ok (.aload_n 0, 1) := by decide +kernel
theorem dX8_paidFrom_64 : decode cX8_paidFrom 64 = .ok (.invokevirtual 215, 3) := by decide +kernel
theorem dX8_paidFrom_67 : decode cX8_paidFrom 67 = .ok (.getfield 232, 3) := by decide +kernel
theorem dX8_paidFrom_70 : decode cX8_paidFrom 70 = .ok (.iload_n 2, 1) := by decide +kernel
theorem dX8_paidFrom_71 : decode cX8_paidFrom 71 = .ok (.aaload, 1) := by decide +kernel
theorem dX8_paidFrom_72 : decode cX8_paidFrom 72 = .ok (.iload_n 3, 1) := by decide +kernel
theorem dX8_paidFrom_73 : decode cX8_paidFrom 73 = .ok (.iaload, 1) := by decide +kernel
theorem dX8_paidFrom_74 : decode cX8_paidFrom 74 = .ok (.goto 5, 3) := by decide +kernel
theorem dX8_paidFrom_77 : decode cX8_paidFrom 77 = .ok (.bipush (-2), 2) := by decide +kernel
theorem dX8_paidFrom_79 : decode cX8_paidFrom 79 = .ok (.ireturn, 1) := by decide +kernel
theorem dX8_leftOf_0 : decode cX8_leftOf 0 = .ok (.iload_n 2, 1) := by decide +kernel
theorem dX8_leftOf_1 : decode cX8_leftOf 1 = .ok (.aload_n 0, 1) := by decide +kernel
theorem dX8_leftOf_2 : decode cX8_leftOf 2 = .ok (.getfield 60, 3) := by decide +kernel
theorem dX8_leftOf_5 : decode cX8_leftOf 5 = .ok (.getfield 94, 3) := by decide +kernel
theorem dX8_leftOf_8 : decode cX8_leftOf 8 = .ok (.invokestatic 114, 3) := by decide +kernel
theorem dX8_leftOf_11 : decode cX8_leftOf 11 = .ok (.iload_n 1, 1) := by decide +kernel
theorem dX8_leftOf_12 : decode cX8_leftOf 12 = .ok (.ifCond .ne 16, 3) := by decide +kernel
theorem dX8_leftOf_15 : decode cX8_leftOf 15 = .ok (.aload_n 0, 1) := by decide +kernel
theorem dX8_leftOf_16 : decode cX8_leftOf 16 = .ok (.invokevirtual 162, 3) := by decide +kernel
theorem dX8_leftOf_19 : decode cX8_leftOf 19 = .ok (.getfield 229, 3) := by decide +kernel
theorem dX8_leftOf_22 : decode cX8_leftOf 22 = .ok (.getfield 233, 3) := by decide +kernel
theorem dX8_leftOf_25 : decode cX8_leftOf 25 = .ok (.iload_n 2, 1) := by decide +kernel
theorem dX8_leftOf_26 : decode cX8_leftOf 26 = .ok (.iaload, 1) := by decide +kernel
theorem dX8_leftOf_27 : decode cX8_leftOf 27 = .ok (.ireturn, 1) := by decide +kernel
theorem dX8_leftOf_28 : decode cX8_leftOf 28 = .ok (.iload_n 1, 1) := by decide +kernel
theorem dX8_leftOf_29 : decode cX8_leftOf 29 = .ok (.iconst 1, 1) := by decide +kernel
theorem dX8_leftOf_30 : decode cX8_leftOf 30 = .ok (.if_icmp .ne 15, 3) := by decide +kernel
theorem dX8_leftOf_33 : decode cX8_leftOf 33 = .ok (.aload_n 0, 1) := by decide +kernel
theorem dX8_leftOf_34 : decode cX8_leftOf 34 = .ok (.invokevirtual 215, 3) := by decide +kernel
theorem dX8_leftOf_37 : decode cX8_leftOf 37 = .ok (.getfield 233, 3) := by decide +kernel
theorem dX8_leftOf_40 : decode cX8_leftOf 40 = .ok (.iload_n 2, 1) := by decide +kernel
theorem dX8_leftOf_41 : decode cX8_leftOf 41 = .ok (.iaload, 1) := by decide +kernel
theorem dX8_leftOf_42 : decode cX8_leftOf 42 = .ok (.goto 5, 3) := by decide +kernel
theorem dX8_leftOf_45 : decode cX8_leftOf 45 = .ok (.bipush (-2), 2) := by decide +kernel
theorem dX8_leftOf_47 : decode cX8_leftOf 47 = .ok (.ireturn, 1) := by decide +kernel
theorem dX8_totalCost_0 : decode cX8_totalCost 0 = .ok (.iload_n 1, 1) := by decide +kernel
theorem dX8_totalCost_1 : decode cX8_totalCost 1 = .ok (.invokestatic 205, 3) := by decide +kernel
theorem dX8_totalCost_4 : decode cX8_totalCost 4 = .ok (.ifCond .eq 18, 3) := by decide +kernel
theorem dX8_totalCost_7 : decode cX8_totalCost 7 = .ok (.aload_n 0, 1) := by decide +kernel
theorem dX8_totalCost_8 : decode cX8_totalCost 8 = .ok (.getfield 60, 3) := by decide +kernel
theorem dX8_totalCost_11 : decode cX8_totalCost 11 = .ok (.aload_n 0, 1) := by decide +kernel
theorem dX8_totalCost_12 : decode cX8_totalCost 12 = .ok (.iload_n 1, 1) := by decide +kernel
theorem dX8_totalCost_13 : decode cX8_totalCost 13 = .ok (.invokevirtual 209, 3) := by decide +kernel
theorem dX8_totalCost_16 : decode cX8_totalCost 16 = .ok (.invokevirtual 236, 3) := by decide +kernel
theorem dX8_totalCost_19 : decode cX8_totalCost 19 = .ok (.goto 5, 3) := by decide +kernel
theorem dX8_totalCost_22 : decode cX8_totalCost 22 = .ok (.bipush (-2), 2) := by decide +kernel
theorem dX8_totalCost_24 : decode cX8_totalCost 24 = .ok (.ireturn, 1) := by decide +kernel
theorem dX8_welfare_0 : decode cX8_welfare 0 = .ok (.iload_n 1, 1) := by decide +kernel
theorem dX8_welfare_1 : decode cX8_welfare 1 = .ok (.invokestatic 205, 3) := by decide +kernel
theorem dX8_welfare_4 : decode cX8_welfare 4 = .ok (.ifCond .eq 19, 3) := by decide +kernel
theorem dX8_welfare_7 : decode cX8_welfare 7 = .ok (.aload_n 0, 1) := by decide +kernel
theorem dX8_welfare_8 : decode cX8_welfare 8 = .ok (.getfield 60, 3) := by decide +kernel
theorem dX8_welfare_11 : decode cX8_welfare 11 = .ok (.aload_n 0, 1) := by decide +kernel
theorem dX8_welfare_12 : decode cX8_welfare 12 = .ok (.iload_n 1, 1) := by decide +kernel
theorem dX8_welfare_13 : decode cX8_welfare 13 = .ok (.invokevirtual 209, 3) := by decide +kernel
theorem dX8_welfare_16 : decode cX8_welfare 16 = .ok (.invokevirtual 239, 3) := by decide +kernel
theorem dX8_welfare_19 : decode cX8_welfare 19 = .ok (.i2l, 1) := by decide +kernel
theorem dX8_welfare_20 : decode cX8_welfare 20 = .ok (.goto 6, 3) := by decide +kernel
theorem dX8_welfare_23 : decode cX8_welfare 23 = .ok (.ldc2_w 242, 3) := by decide +kernel
theorem dX8_welfare_26 : decode cX8_welfare 26 = .ok (.lreturn, 1) := by decide +kernel
theorem dX8_common_0 : decode cX8_common 0 = .ok (.iload_n 1, 1) := by decide +kernel
theorem dX8_common_1 : decode cX8_common 1 = .ok (.invokestatic 205, 3) := by decide +kernel
theorem dX8_common_4 : decode cX8_common 4 = .ok (.ifCond .eq 24, 3) := by decide +kernel
theorem dX8_common_7 : decode cX8_common 7 = .ok (.iload_n 2, 1) := by decide +kernel
theorem dX8_common_8 : decode cX8_common 8 = .ok (.invokestatic 205, 3) := by decide +kernel
theorem dX8_common_11 : decode cX8_common 11 = .ok (.ifCond .eq 17, 3) := by decide +kernel
theorem dX8_common_14 : decode cX8_common 14 = .ok (.aload_n 0, 1) := by decide +kernel
theorem dX8_common_15 : decode cX8_common 15 = .ok (.iload_n 1, 1) := by decide +kernel
theorem dX8_common_16 : decode cX8_common 16 = .ok (.invokevirtual 209, 3) := by decide +kernel
theorem dX8_common_19 : decode cX8_common 19 = .ok (.aload_n 0, 1) := by decide +kernel
theorem dX8_common_20 : decode cX8_common 20 = .ok (.iload_n 2, 1) := by decide +kernel
theorem dX8_common_21 : decode cX8_common 21 = .ok (.invokevirtual 209, 3) := by decide +kernel
theorem dX8_common_24 : decode cX8_common 24 = .ok (.iand, 1) := by decide +kernel
theorem dX8_common_25 : decode cX8_common 25 = .ok (.goto 5, 3) := by decide +kernel
theorem dX8_common_28 : decode cX8_common 28 = .ok (.bipush (-2), 2) := by decide +kernel
theorem dX8_common_30 : decode cX8_common 30 = .ok (.ireturn, 1) := by decide +kernel
theorem dX8_loss_0 : decode cX8_loss 0 = .ok (.iload_n 1, 1) := by decide +kernel
theorem dX8_loss_1 : decode cX8_loss 1 = .ok (.invokestatic 205, 3) := by decide +kernel
theorem dX8_loss_4 : decode cX8_loss 4 = .ok (.ifCond .ne 7, 3) := by decide +kernel
theorem dX8_loss_7 : decode cX8_loss 7 = .ok (.ldc2_w 242, 3) := by decide +kernel
theorem dX8_loss_10 : decode cX8_loss 10 = .ok (.lreturn, 1) := by decide +kernel
theorem dX8_loss_11 : decode cX8_loss 11 = .ok (.aload_n 0, 1) := by decide +kernel
theorem dX8_loss_12 : decode cX8_loss 12 = .ok (.getfield 60, 3) := by decide +kernel
theorem dX8_loss_15 : decode cX8_loss 15 = .ok (.aload_n 0, 1) := by decide +kernel
theorem dX8_loss_16 : decode cX8_loss 16 = .ok (.invokevirtual 220, 3) := by decide +kernel
theorem dX8_loss_19 : decode cX8_loss 19 = .ok (.invokevirtual 239, 3) := by decide +kernel
theorem dX8_loss_22 : decode cX8_loss 22 = .ok (.i2l, 1) := by decide +kernel
theorem dX8_loss_23 : decode cX8_loss 23 = .ok (.aload_n 0, 1) := by decide +kernel
theorem dX8_loss_24 : decode cX8_loss 24 = .ok (.getfield 60, 3) := by decide +kernel
theorem dX8_loss_27 : decode cX8_loss 27 = .ok (.aload_n 0, 1) := by decide +kernel
theorem dX8_loss_28 : decode cX8_loss 28 = .ok (.iload_n 1, 1) := by decide +kernel
theorem dX8_loss_29 : decode cX8_loss 29 = .ok (.invokevirtual 209, 3) := by decide +kernel
theorem dX8_loss_32 : decode cX8_loss 32 = .ok (.invokevirtual 239, 3) := by decide +kernel
theorem dX8_loss_35 : decode cX8_loss 35 = .ok (.i2l, 1) := by decide +kernel
theorem dX8_loss_36 : decode cX8_loss 36 = .ok (.lsub, 1) := by decide +kernel
theorem dX8_loss_37 : decode cX8_loss 37 = .ok (.lreturn, 1) := by decide +kernel
theorem dX8_satisfaction_0 : decode cX8_satisfaction 0 = .ok (.iload_n 2, 1) := by decide +kernel
theorem dX8_satisfaction_1 : decode cX8_satisfaction 1 = .ok (.aload_n 0, 1) := by decide +kernel
theorem dX8_satisfaction_2 : decode cX8_satisfaction 2 = .ok (.getfield 60, 3) := by decide +kernel
theorem dX8_satisfaction_5 : decode cX8_satisfaction 5 = .ok (.getfield 100, 3) := by decide +kernel
theorem dX8_satisfaction_8 : decode cX8_satisfaction 8 = .ok (.invokestatic 114, 3) := by decide +kernel
theorem dX8_satisfaction_11 : decode cX8_satisfaction 11 = .ok (.iload_n 1, 1) := by decide +kernel
theorem dX8_satisfaction_12 : decode cX8_satisfaction 12 = .ok (.invokestatic 205, 3) := by decide +kernel
theorem dX8_satisfaction_15 : decode cX8_satisfaction 15 = .ok (.ifCond .eq 19, 3) := by decide +kernel
theorem dX8_satisfaction_18 : decode cX8_satisfaction 18 = .ok (.aload_n 0, 1) := by decide +kernel
theorem dX8_satisfaction_19 : decode cX8_satisfaction 19 = .ok (.getfield 60, 3) := by decide +kernel
theorem dX8_satisfaction_22 : decode cX8_satisfaction 22 = .ok (.aload_n 0, 1) := by decide +kernel
theorem dX8_satisfaction_23 : decode cX8_satisfaction 23 = .ok (.iload_n 1, 1) := by decide +kernel
theorem dX8_satisfaction_24 : decode cX8_satisfaction 24 = .ok (.invokevirtual 209, 3) := by decide +kernel
theorem dX8_satisfaction_27 : decode cX8_satisfaction 27 = .ok (.iload_n 2, 1) := by decide +kernel
theorem dX8_satisfaction_28 : decode cX8_satisfaction 28 = .ok (.invokevirtual 244, 3) := by decide +kernel
theorem dX8_satisfaction_31 : decode cX8_satisfaction 31 = .ok (.goto 5, 3) := by decide +kernel
theorem dX8_satisfaction_34 : decode cX8_satisfaction 34 = .ok (.bipush (-2), 2) := by decide +kernel
theorem dX8_satisfaction_36 : decode cX8_satisfaction 36 = .ok (.ireturn, 1) := by decide +kernel
theorem dX8_worstOff_0 : decode cX8_worstOff 0 = .ok (.iload_n 1, 1) := by decide +kernel
theorem dX8_worstOff_1 : decode cX8_worstOff 1 = .ok (.invokestatic 205, 3) := by decide +kernel
theorem dX8_worstOff_4 : decode cX8_worstOff 4 = .ok (.ifCond .ne 6, 3) := by decide +kernel
theorem dX8_worstOff_7 : decode cX8_worstOff 7 = .ok (.bipush (-2), 2) := by decide +kernel
theorem dX8_worstOff_9 : decode cX8_worstOff 9 = .ok (.ireturn, 1) := by decide +kernel
theorem dX8_worstOff_10 : decode cX8_worstOff 10 = .ok (.aload_n 0, 1) := by decide +kernel
theorem dX8_worstOff_11 : decode cX8_worstOff 11 = .ok (.iload_n 1, 1) := by decide +kernel
theorem dX8_worstOff_12 : decode cX8_worstOff 12 = .ok (.invokevirtual 209, 3) := by decide +kernel
theorem dX8_worstOff_15 : decode cX8_worstOff 15 = .ok (.istore_n 2, 1) := by decide +kernel
theorem dX8_worstOff_16 : decode cX8_worstOff 16 = .ok (.iconst (-1), 1) := by decide +kernel
theorem dX8_worstOff_17 : decode cX8_worstOff 17 = .ok (.istore_n 3, 1) := by decide +kernel
theorem dX8_worstOff_18 : decode cX8_worstOff 18 = .ok (.iconst 0, 1) := by decide +kernel
theorem dX8_worstOff_19 : decode cX8_worstOff 19 = .ok (.istore 4, 2) := by decide +kernel
theorem dX8_worstOff_21 : decode cX8_worstOff 21 = .ok (.iconst 0, 1) := by decide +kernel
theorem dX8_worstOff_22 : decode cX8_worstOff 22 = .ok (.istore 5, 2) := by decide +kernel
theorem dX8_worstOff_24 : decode cX8_worstOff 24 = .ok (.iload 5, 2) := by decide +kernel
theorem dX8_worstOff_26 : decode cX8_worstOff 26 = .ok (.aload_n 0, 1) := by decide +kernel
theorem dX8_worstOff_27 : decode cX8_worstOff 27 = .ok (.getfield 60, 3) := by decide +kernel
theorem dX8_worstOff_30 : decode cX8_worstOff 30 = .ok (.getfield 100, 3) := by decide +kernel
theorem dX8_worstOff_33 : decode cX8_worstOff 33 = .ok (.if_icmp .ge 39, 3) := by decide +kernel
theorem dX8_worstOff_36 : decode cX8_worstOff 36 = .ok (.aload_n 0, 1) := by decide +kernel
theorem dX8_worstOff_37 : decode cX8_worstOff 37 = .ok (.getfield 60, 3) := by decide +kernel
theorem dX8_worstOff_40 : decode cX8_worstOff 40 = .ok (.iload_n 2, 1) := by decide +kernel
theorem dX8_worstOff_41 : decode cX8_worstOff 41 = .ok (.iload 5, 2) := by decide +kernel
theorem dX8_worstOff_43 : decode cX8_worstOff 43 = .ok (.invokevirtual 244, 3) := by decide +kernel
theorem dX8_worstOff_46 : decode cX8_worstOff 46 = .ok (.istore 6, 2) := by decide +kernel
theorem dX8_worstOff_48 : decode cX8_worstOff 48 = .ok (.iload_n 3, 1) := by decide +kernel
theorem dX8_worstOff_49 : decode cX8_worstOff 49 = .ok (.ifCond .lt 10, 3) := by decide +kernel
theorem dX8_worstOff_52 : decode cX8_worstOff 52 = .ok (.iload 6, 2) := by decide +kernel
theorem dX8_worstOff_54 : decode cX8_worstOff 54 = .ok (.iload 4, 2) := by decide +kernel
theorem dX8_worstOff_56 : decode cX8_worstOff 56 = .ok (.if_icmp .ge 10, 3) := by decide +kernel
theorem dX8_worstOff_59 : decode cX8_worstOff 59 = .ok (.iload 5, 2) := by decide +kernel
theorem dX8_worstOff_61 : decode cX8_worstOff 61 = .ok (.istore_n 3, 1) := by decide +kernel
theorem dX8_worstOff_62 : decode cX8_worstOff 62 = .ok (.iload 6, 2) := by decide +kernel
theorem dX8_worstOff_64 : decode cX8_worstOff 64 = .ok (.istore 4, 2) := by decide +kernel
theorem dX8_worstOff_66 : decode cX8_worstOff 66 = .ok (.iinc 5 1, 3) := by decide +kernel
theorem dX8_worstOff_69 : decode cX8_worstOff 69 = .ok (.goto (-45), 3) := by decide +kernel
theorem dX8_worstOff_72 : decode cX8_worstOff 72 = .ok (.iload_n 3, 1) := by decide +kernel
theorem dX8_worstOff_73 : decode cX8_worstOff 73 = .ok (.ireturn, 1) := by decide +kernel
theorem dX8_spread_0 : decode cX8_spread 0 = .ok (.iload_n 1, 1) := by decide +kernel
theorem dX8_spread_1 : decode cX8_spread 1 = .ok (.invokestatic 205, 3) := by decide +kernel
theorem dX8_spread_4 : decode cX8_spread 4 = .ok (.ifCond .ne 6, 3) := by decide +kernel
theorem dX8_spread_7 : decode cX8_spread 7 = .ok (.bipush (-2), 2) := by decide +kernel
theorem dX8_spread_9 : decode cX8_spread 9 = .ok (.ireturn, 1) := by decide +kernel
theorem dX8_spread_10 : decode cX8_spread 10 = .ok (.aload_n 0, 1) := by decide +kernel
theorem dX8_spread_11 : decode cX8_spread 11 = .ok (.iload_n 1, 1) := by decide +kernel
theorem dX8_spread_12 : decode cX8_spread 12 = .ok (.invokevirtual 209, 3) := by decide +kernel
theorem dX8_spread_15 : decode cX8_spread 15 = .ok (.istore_n 2, 1) := by decide +kernel
theorem dX8_spread_16 : decode cX8_spread 16 = .ok (.iconst 0, 1) := by decide +kernel
theorem dX8_spread_17 : decode cX8_spread 17 = .ok (.istore_n 3, 1) := by decide +kernel
theorem dX8_spread_18 : decode cX8_spread 18 = .ok (.iconst 0, 1) := by decide +kernel
theorem dX8_spread_19 : decode cX8_spread 19 = .ok (.istore 4, 2) := by decide +kernel
theorem dX8_spread_21 : decode cX8_spread 21 = .ok (.iconst 0, 1) := by decide +kernel
theorem dX8_spread_22 : decode cX8_spread 22 = .ok (.istore 5, 2) := by decide +kernel
theorem dX8_spread_24 : decode cX8_spread 24 = .ok (.iload 5, 2) := by decide +kernel
theorem dX8_spread_26 : decode cX8_spread 26 = .ok (.aload_n 0, 1) := by decide +kernel
theorem dX8_spread_27 : decode cX8_spread 27 = .ok (.getfield 60, 3) := by decide +kernel
theorem dX8_spread_30 : decode cX8_spread 30 = .ok (.getfield 100, 3) := by decide +kernel
theorem dX8_spread_33 : decode cX8_spread 33 = .ok (.if_icmp .ge 47, 3) := by decide +kernel
theorem dX8_spread_36 : decode cX8_spread 36 = .ok (.aload_n 0, 1) := by decide +kernel
theorem dX8_spread_37 : decode cX8_spread 37 = .ok (.getfield 60, 3) := by decide +kernel
theorem dX8_spread_40 : decode cX8_spread 40 = .ok (.iload_n 2, 1) := by decide +kernel
theorem dX8_spread_41 : decode cX8_spread 41 = .ok (.iload 5, 2) := by decide +kernel
theorem dX8_spread_43 : decode cX8_spread 43 = .ok (.invokevirtual 244, 3) := by decide +kernel
theorem dX8_spread_46 : decode cX8_spread 46 = .ok (.istore 6, 2) := by decide +kernel
theorem dX8_spread_48 : decode cX8_spread 48 = .ok (.iload 5, 2) := by decide +kernel
theorem dX8_spread_50 : decode cX8_spread 50 = .ok (.ifCond .ne 8, 3) := by decide +kernel
theorem dX8_spread_53 : decode cX8_spread 53 = .ok (.iload 6, 2) := by decide +kernel
theorem dX8_spread_55 : decode cX8_spread 55 = .ok (.goto 9, 3) := by decide +kernel
theorem dX8_spread_58 : decode cX8_spread 58 = .ok (.iload_n 3, 1) := by decide +kernel
theorem dX8_spread_59 : decode cX8_spread 59 = .ok (.iload 6, 2) := by decide +kernel
theorem dX8_spread_61 : decode cX8_spread 61 = .ok (.invokestatic 247, 3) := by decide +kernel
theorem dX8_spread_64 : decode cX8_spread 64 = .ok (.istore_n 3, 1) := by decide +kernel
theorem dX8_spread_65 : decode cX8_spread 65 = .ok (.iload 4, 2) := by decide +kernel
theorem dX8_spread_67 : decode cX8_spread 67 = .ok (.iload 6, 2) := by decide +kernel
theorem dX8_spread_69 : decode cX8_spread 69 = .ok (.invokestatic 252, 3) := by decide +kernel
theorem dX8_spread_72 : decode cX8_spread 72 = .ok (.istore 4, 2) := by decide +kernel
theorem dX8_spread_74 : decode cX8_spread 74 = .ok (.iinc 5 1, 3) := by decide +kernel
theorem dX8_spread_77 : decode cX8_spread 77 = .ok (.goto (-53), 3) := by decide +kernel
theorem dX8_spread_80 : decode cX8_spread 80 = .ok (.iload 4, 2) := by decide +kernel
theorem dX8_spread_82 : decode cX8_spread 82 = .ok (.iload_n 3, 1) := by decide +kernel
theorem dX8_spread_83 : decode cX8_spread 83 = .ok (.isub, 1) := by decide +kernel
theorem dX8_spread_84 : decode cX8_spread 84 = .ok (.ireturn, 1) := by decide +kernel
theorem dX8_rankOf_0 : decode cX8_rankOf 0 = .ok (.iload_n 2, 1) := by decide +kernel
theorem dX8_rankOf_1 : decode cX8_rankOf 1 = .ok (.aload_n 0, 1) := by decide +kernel
theorem dX8_rankOf_2 : decode cX8_rankOf 2 = .ok (.getfield 60, 3) := by decide +kernel
theorem dX8_rankOf_5 : decode cX8_rankOf 5 = .ok (.getfield 100, 3) := by decide +kernel
theorem dX8_rankOf_8 : decode cX8_rankOf 8 = .ok (.invokestatic 114, 3) := by decide +kernel
theorem dX8_rankOf_11 : decode cX8_rankOf 11 = .ok (.iload_n 1, 1) := by decide +kernel
theorem dX8_rankOf_12 : decode cX8_rankOf 12 = .ok (.invokestatic 205, 3) := by decide +kernel
theorem dX8_rankOf_15 : decode cX8_rankOf 15 = .ok (.ifCond .ne 6, 3) := by decide +kernel
theorem dX8_rankOf_18 : decode cX8_rankOf 18 = .ok (.bipush (-2), 2) := by decide +kernel
theorem dX8_rankOf_20 : decode cX8_rankOf 20 = .ok (.ireturn, 1) := by decide +kernel
theorem dX8_rankOf_21 : decode cX8_rankOf 21 = .ok (.aload_n 0, 1) := by decide +kernel
theorem dX8_rankOf_22 : decode cX8_rankOf 22 = .ok (.iload_n 1, 1) := by decide +kernel
theorem dX8_rankOf_23 : decode cX8_rankOf 23 = .ok (.invokevirtual 209, 3) := by decide +kernel
theorem dX8_rankOf_26 : decode cX8_rankOf 26 = .ok (.istore_n 3, 1) := by decide +kernel
theorem dX8_rankOf_27 : decode cX8_rankOf 27 = .ok (.aload_n 0, 1) := by decide +kernel
theorem dX8_rankOf_28 : decode cX8_rankOf 28 = .ok (.getfield 60, 3) := by decide +kernel
theorem dX8_rankOf_31 : decode cX8_rankOf 31 = .ok (.iload_n 3, 1) := by decide +kernel
theorem dX8_rankOf_32 : decode cX8_rankOf 32 = .ok (.iload_n 2, 1) := by decide +kernel
theorem dX8_rankOf_33 : decode cX8_rankOf 33 = .ok (.invokevirtual 244, 3) := by decide +kernel
theorem dX8_rankOf_36 : decode cX8_rankOf 36 = .ok (.istore 4, 2) := by decide +kernel
theorem dX8_rankOf_38 : decode cX8_rankOf 38 = .ok (.iconst 0, 1) := by decide +kernel
theorem dX8_rankOf_39 : decode cX8_rankOf 39 = .ok (.istore 5, 2) := by decide +kernel
theorem dX8_rankOf_41 : decode cX8_rankOf 41 = .ok (.iconst 0, 1) := by decide +kernel
theorem dX8_rankOf_42 : decode cX8_rankOf 42 = .ok (.istore 6, 2) := by decide +kernel
theorem dX8_rankOf_44 : decode cX8_rankOf 44 = .ok (.iload 6, 2) := by decide +kernel
theorem dX8_rankOf_46 : decode cX8_rankOf 46 = .ok (.aload_n 0, 1) := by decide +kernel
theorem dX8_rankOf_47 : decode cX8_rankOf 47 = .ok (.getfield 60, 3) := by decide +kernel
theorem dX8_rankOf_50 : decode cX8_rankOf 50 = .ok (.getfield 100, 3) := by decide +kernel
theorem dX8_rankOf_53 : decode cX8_rankOf 53 = .ok (.if_icmp .ge 44, 3) := by decide +kernel
theorem dX8_rankOf_56 : decode cX8_rankOf 56 = .ok (.aload_n 0, 1) := by decide +kernel
theorem dX8_rankOf_57 : decode cX8_rankOf 57 = .ok (.getfield 60, 3) := by decide +kernel
theorem dX8_rankOf_60 : decode cX8_rankOf 60 = .ok (.iload_n 3, 1) := by decide +kernel
theorem dX8_rankOf_61 : decode cX8_rankOf 61 = .ok (.iload 6, 2) := by decide +kernel
theorem dX8_rankOf_63 : decode cX8_rankOf 63 = .ok (.invokevirtual 244, 3) := by decide +kernel
theorem dX8_rankOf_66 : decode cX8_rankOf 66 = .ok (.istore 7, 2) := by decide +kernel
theorem dX8_rankOf_68 : decode cX8_rankOf 68 = .ok (.iload 7, 2) := by decide +kernel
theorem dX8_rankOf_70 : decode cX8_rankOf 70 = .ok (.iload 4, 2) := by decide +kernel
theorem dX8_rankOf_72 : decode cX8_rankOf 72 = .ok (.if_icmp .gt 16, 3) := by decide +kernel
theorem dX8_rankOf_75 : decode cX8_rankOf 75 = .ok (.iload 7, 2) := by decide +kernel
theorem dX8_rankOf_77 : decode cX8_rankOf 77 = .ok (.iload 4, 2) := by decide +kernel
theorem dX8_rankOf_79 : decode cX8_rankOf 79 = .ok (.if_icmp .ne 12, 3) := by decide +kernel
theorem dX8_rankOf_82 : decode cX8_rankOf 82 = .ok (.iload 6, 2) := by decide +kernel
theorem dX8_rankOf_84 : decode cX8_rankOf 84 = .ok (.iload_n 2, 1) := by decide +kernel
theorem dX8_rankOf_85 : decode cX8_rankOf 85 = .ok (.if_icmp .ge 6, 3) := by decide +kernel
theorem dX8_rankOf_88 : decode cX8_rankOf 88 = .ok (.iinc 5 1, 3) := by decide +kernel
theorem dX8_rankOf_91 : decode cX8_rankOf 91 = .ok (.iinc 6 1, 3) := by decide +kernel
theorem dX8_rankOf_94 : decode cX8_rankOf 94 = .ok (.goto (-50), 3) := by decide +kernel
theorem dX8_rankOf_97 : decode cX8_rankOf 97 = .ok (.iload 5, 2) := by decide +kernel
theorem dX8_rankOf_99 : decode cX8_rankOf 99 = .ok (.ireturn, 1) := by decide +kernel
theorem dX8_districtWelfare_0 : decode cX8_districtWelfare 0 = .ok (.iload_n 2, 1) := by decide +kernel
theorem dX8_districtWelfare_1 : decode cX8_districtWelfare 1 = .ok (.aload_n 0, 1) := by decide +kernel
theorem dX8_districtWelfare_2 : decode cX8_districtWelfare 2 = .ok (.getfield 60, 3) := by decide +kernel
theorem dX8_districtWelfare_5 : decode cX8_districtWelfare 5 = .ok (.getfield 94, 3) := by decide +kernel
theorem dX8_districtWelfare_8 : decode cX8_districtWelfare 8 = .ok (.invokestatic 114, 3) := by decide +kernel
theorem dX8_districtWelfare_11 : decode cX8_districtWelfare 11 = .ok (.iload_n 1, 1) := by decide +kernel
theorem dX8_districtWelfare_12 : decode cX8_districtWelfare 12 = .ok (.invokestatic 205, 3) := by decide +kernel
theorem dX8_districtWelfare_15 : decode cX8_districtWelfare 15 = .ok (.ifCond .ne 6, 3) := by decide +kernel
theorem dX8_districtWelfare_18 : decode cX8_districtWelfare 18 = .ok (.bipush (-2), 2) := by decide +kernel
theorem dX8_districtWelfare_20 : decode cX8_districtWelfare 20 = .ok (.ireturn, 1) := by decide +kernel
theorem dX8_districtWelfare_21 : decode cX8_districtWelfare 21 = .ok (.aload_n 0, 1) := by decide +kernel
theorem dX8_districtWelfare_22 : decode cX8_districtWelfare 22 = .ok (.iload_n 1, 1) := by decide +kernel
theorem dX8_districtWelfare_23 : decode cX8_districtWelfare 23 = .ok (.invokevirtual 209, 3) := by decide +kernel
theorem dX8_districtWelfare_26 : decode cX8_districtWelfare 26 = .ok (.istore_n 3, 1) := by decide +kernel
theorem dX8_districtWelfare_27 : decode cX8_districtWelfare 27 = .ok (.iconst 0, 1) := by decide +kernel
theorem dX8_districtWelfare_28 : decode cX8_districtWelfare 28 = .ok (.istore 4, 2) := by decide +kernel
theorem dX8_districtWelfare_30 : decode cX8_districtWelfare 30 = .ok (.iconst 0, 1) := by decide +kernel
theorem dX8_districtWelfare_31 : decode cX8_districtWelfare 31 = .ok (.istore 5, 2) := by decide +kernel
theorem dX8_districtWelfare_33 : decode cX8_districtWelfare 33 = .ok (.iload 5, 2) := by decide +kernel
theorem dX8_districtWelfare_35 : decode cX8_districtWelfare 35 = .ok (.aload_n 0, 1) := by decide +kernel
theorem dX8_districtWelfare_36 : decode cX8_districtWelfare 36 = .ok (.getfield 60, 3) := by decide +kernel
theorem dX8_districtWelfare_39 : decode cX8_districtWelfare 39 = .ok (.getfield 100, 3) := by decide +kernel
theorem dX8_districtWelfare_42 : decode cX8_districtWelfare 42 = .ok (.if_icmp .ge 41, 3) := by decide +kernel
theorem dX8_districtWelfare_45 : decode cX8_districtWelfare 45 = .ok (.aload_n 0, 1) := by decide +kernel
theorem dX8_districtWelfare_46 : decode cX8_districtWelfare 46 = .ok (.getfield 60, 3) := by decide +kernel
theorem dX8_districtWelfare_49 : decode cX8_districtWelfare 49 = .ok (.getfield 127, 3) := by decide +kernel
theorem dX8_districtWelfare_52 : decode cX8_districtWelfare 52 = .ok (.iload 5, 2) := by decide +kernel
theorem dX8_districtWelfare_54 : decode cX8_districtWelfare 54 = .ok (.iaload, 1) := by decide +kernel
theorem dX8_districtWelfare_55 : decode cX8_districtWelfare 55 = .ok (.iload_n 2, 1) := by decide +kernel
theorem dX8_districtWelfare_56 : decode cX8_districtWelfare 56 = .ok (.invokestatic 189, 3) := by decide +kernel
theorem dX8_districtWelfare_59 : decode cX8_districtWelfare 59 = .ok (.ifCond .eq 18, 3) := by decide +kernel
theorem dX8_districtWelfare_62 : decode cX8_districtWelfare 62 = .ok (.iload 4, 2) := by decide +kernel
theorem dX8_districtWelfare_64 : decode cX8_districtWelfare 64 = .ok (.aload_n 0, 1) := by decide +kernel
theorem dX8_districtWelfare_65 : decode cX8_districtWelfare 65 = .ok (.getfield 60, 3) := by decide +kernel
theorem dX8_districtWelfare_68 : decode cX8_districtWelfare 68 = .ok (.iload_n 3, 1) := by decide +kernel
theorem dX8_districtWelfare_69 : decode cX8_districtWelfare 69 = .ok (.iload 5, 2) := by decide +kernel
theorem dX8_districtWelfare_71 : decode cX8_districtWelfare 71 = .ok (.invokevirtual 244, 3) := by decide +kernel
theorem dX8_districtWelfare_74 : decode cX8_districtWelfare 74 = .ok (.iadd, 1) := by decide +kernel
theorem dX8_districtWelfare_75 : decode cX8_districtWelfare 75 = .ok (.istore 4, 2) := by decide +kernel
theorem dX8_districtWelfare_77 : decode cX8_districtWelfare 77 = .ok (.iinc 5 1, 3) := by decide +kernel
theorem dX8_districtWelfare_80 : decode cX8_districtWelfare 80 = .ok (.goto (-47), 3) := by decide +kernel
theorem dX8_districtWelfare_83 : decode cX8_districtWelfare 83 = .ok (.iload 4, 2) := by decide +kernel
theorem dX8_districtWelfare_85 : decode cX8_districtWelfare 85 = .ok (.ireturn, 1) := by decide +kernel
theorem dX8_leftOut_0 : decode cX8_leftOut 0 = .ok (.iload_n 1, 1) := by decide +kernel
theorem dX8_leftOut_1 : decode cX8_leftOut 1 = .ok (.invokestatic 205, 3) := by decide +kernel
theorem dX8_leftOut_4 : decode cX8_leftOut 4 = .ok (.ifCond .eq 18, 3) := by decide +kernel
theorem dX8_leftOut_7 : decode cX8_leftOut 7 = .ok (.aload_n 0, 1) := by decide +kernel
theorem dX8_leftOut_8 : decode cX8_leftOut 8 = .ok (.getfield 60, 3) := by decide +kernel
theorem dX8_leftOut_11 : decode cX8_leftOut 11 = .ok (.aload_n 0, 1) := by decide +kernel
theorem dX8_leftOut_12 : decode cX8_leftOut 12 = .ok (.iload_n 1, 1) := by decide +kernel
theorem dX8_leftOut_13 : decode cX8_leftOut 13 = .ok (.invokevirtual 209, 3) := by decide +kernel
theorem dX8_leftOut_16 : decode cX8_leftOut 16 = .ok (.invokevirtual 255, 3) := by decide +kernel
theorem dX8_leftOut_19 : decode cX8_leftOut 19 = .ok (.goto 5, 3) := by decide +kernel
theorem dX8_leftOut_22 : decode cX8_leftOut 22 = .ok (.bipush (-2), 2) := by decide +kernel
theorem dX8_leftOut_24 : decode cX8_leftOut 24 = .ok (.ireturn, 1) := by decide +kernel
theorem dX8_claimOf_0 : decode cX8_claimOf 0 = .ok (.iload_n 2, 1) := by decide +kernel
theorem dX8_claimOf_1 : decode cX8_claimOf 1 = .ok (.aload_n 0, 1) := by decide +kernel
theorem dX8_claimOf_2 : decode cX8_claimOf 2 = .ok (.getfield 60, 3) := by decide +kernel
theorem dX8_claimOf_5 : decode cX8_claimOf 5 = .ok (.getfield 97, 3) := by decide +kernel
theorem dX8_claimOf_8 : decode cX8_claimOf 8 = .ok (.invokestatic 114, 3) := by decide +kernel
theorem dX8_claimOf_11 : decode cX8_claimOf 11 = .ok (.iload_n 1, 1) := by decide +kernel
theorem dX8_claimOf_12 : decode cX8_claimOf 12 = .ok (.invokestatic 205, 3) := by decide +kernel
theorem dX8_claimOf_15 : decode cX8_claimOf 15 = .ok (.ifCond .eq 19, 3) := by decide +kernel
theorem dX8_claimOf_18 : decode cX8_claimOf 18 = .ok (.aload_n 0, 1) := by decide +kernel
theorem dX8_claimOf_19 : decode cX8_claimOf 19 = .ok (.getfield 60, 3) := by decide +kernel
theorem dX8_claimOf_22 : decode cX8_claimOf 22 = .ok (.aload_n 0, 1) := by decide +kernel
theorem dX8_claimOf_23 : decode cX8_claimOf 23 = .ok (.iload_n 1, 1) := by decide +kernel
theorem dX8_claimOf_24 : decode cX8_claimOf 24 = .ok (.invokevirtual 209, 3) := by decide +kernel
theorem dX8_claimOf_27 : decode cX8_claimOf 27 = .ok (.iload_n 2, 1) := by decide +kernel
theorem dX8_claimOf_28 : decode cX8_claimOf 28 = .ok (.invokevirtual 258, 3) := by decide +kernel
theorem dX8_claimOf_31 : decode cX8_claimOf 31 = .ok (.goto 5, 3) := by decide +kernel
theorem dX8_claimOf_34 : decode cX8_claimOf 34 = .ok (.bipush (-2), 2) := by decide +kernel
theorem dX8_claimOf_36 : decode cX8_claimOf 36 = .ok (.ireturn, 1) := by decide +kernel
theorem dX8_unjust_0 : decode cX8_unjust 0 = .ok (.iload_n 1, 1) := by decide +kernel
theorem dX8_unjust_1 : decode cX8_unjust 1 = .ok (.invokestatic 205, 3) := by decide +kernel
theorem dX8_unjust_4 : decode cX8_unjust 4 = .ok (.ifCond .ne 6, 3) := by decide +kernel
theorem dX8_unjust_7 : decode cX8_unjust 7 = .ok (.bipush (-2), 2) := by decide +kernel
theorem dX8_unjust_9 : decode cX8_unjust 9 = .ok (.ireturn, 1) := by decide +kernel
theorem dX8_unjust_10 : decode cX8_unjust 10 = .ok (.aload_n 0, 1) := by decide +kernel
theorem dX8_unjust_11 : decode cX8_unjust 11 = .ok (.iload_n 1, 1) := by decide +kernel
theorem dX8_unjust_12 : decode cX8_unjust 12 = .ok (.invokevirtual 209, 3) := by decide +kernel
theorem dX8_unjust_15 : decode cX8_unjust 15 = .ok (.istore_n 2, 1) := by decide +kernel
theorem dX8_unjust_16 : decode cX8_unjust 16 = .ok (.iconst 0, 1) := by decide +kernel
theorem dX8_unjust_17 : decode cX8_unjust 17 = .ok (.istore_n 3, 1) := by decide +kernel
theorem dX8_unjust_18 : decode cX8_unjust 18 = .ok (.iload_n 3, 1) := by decide +kernel
theorem dX8_unjust_19 : decode cX8_unjust 19 = .ok (.aload_n 0, 1) := by decide +kernel
theorem dX8_unjust_20 : decode cX8_unjust 20 = .ok (.getfield 60, 3) := by decide +kernel
theorem dX8_unjust_23 : decode cX8_unjust 23 = .ok (.getfield 97, 3) := by decide +kernel
theorem dX8_unjust_26 : decode cX8_unjust 26 = .ok (.if_icmp .ge 40, 3) := by decide +kernel
theorem dX8_unjust_29 : decode cX8_unjust 29 = .ok (.iload_n 2, 1) := by decide +kernel
theorem dX8_unjust_30 : decode cX8_unjust 30 = .ok (.iload_n 3, 1) := by decide +kernel
theorem dX8_unjust_31 : decode cX8_unjust 31 = .ok (.invokestatic 189, 3) := by decide +kernel
theorem dX8_unjust_34 : decode cX8_unjust 34 = .ok (.ifCond .ne 26, 3) := by decide +kernel
theorem dX8_unjust_37 : decode cX8_unjust 37 = .ok (.aload_n 0, 1) := by decide +kernel
theorem dX8_unjust_38 : decode cX8_unjust 38 = .ok (.getfield 60, 3) := by decide +kernel
theorem dX8_unjust_41 : decode cX8_unjust 41 = .ok (.iload_n 2, 1) := by decide +kernel
theorem dX8_unjust_42 : decode cX8_unjust 42 = .ok (.iload_n 3, 1) := by decide +kernel
theorem dX8_unjust_43 : decode cX8_unjust 43 = .ok (.invokevirtual 258, 3) := by decide +kernel
theorem dX8_unjust_46 : decode cX8_unjust 46 = .ok (.aload_n 0, 1) := by decide +kernel
theorem dX8_unjust_47 : decode cX8_unjust 47 = .ok (.getfield 60, 3) := by decide +kernel
theorem dX8_unjust_50 : decode cX8_unjust 50 = .ok (.getfield 121, 3) := by decide +kernel
theorem dX8_unjust_53 : decode cX8_unjust 53 = .ok (.iload_n 3, 1) := by decide +kernel
theorem dX8_unjust_54 : decode cX8_unjust 54 = .ok (.iaload, 1) := by decide +kernel
theorem dX8_unjust_55 : decode cX8_unjust 55 = .ok (.if_icmp .lt 5, 3) := by decide +kernel
theorem dX8_unjust_58 : decode cX8_unjust 58 = .ok (.iload_n 3, 1) := by decide +kernel
theorem dX8_unjust_59 : decode cX8_unjust 59 = .ok (.ireturn, 1) := by decide +kernel
theorem dX8_unjust_60 : decode cX8_unjust 60 = .ok (.iinc 3 1, 3) := by decide +kernel
theorem dX8_unjust_63 : decode cX8_unjust 63 = .ok (.goto (-45), 3) := by decide +kernel
theorem dX8_unjust_66 : decode cX8_unjust 66 = .ok (.iconst (-1), 1) := by decide +kernel
theorem dX8_unjust_67 : decode cX8_unjust 67 = .ok (.ireturn, 1) := by decide +kernel
theorem dX8_canBePaid_0 : decode cX8_canBePaid 0 = .ok (.iload_n 1, 1) := by decide +kernel
theorem dX8_canBePaid_1 : decode cX8_canBePaid 1 = .ok (.iconst 1, 1) := by decide +kernel
theorem dX8_canBePaid_2 : decode cX8_canBePaid 2 = .ok (.aload_n 0, 1) := by decide +kernel
theorem dX8_canBePaid_3 : decode cX8_canBePaid 3 = .ok (.getfield 60, 3) := by decide +kernel
theorem dX8_canBePaid_6 : decode cX8_canBePaid 6 = .ok (.getfield 97, 3) := by decide +kernel
theorem dX8_canBePaid_9 : decode cX8_canBePaid 9 = .ok (.ishl, 1) := by decide +kernel
theorem dX8_canBePaid_10 : decode cX8_canBePaid 10 = .ok (.ineg, 1) := by decide +kernel
theorem dX8_canBePaid_11 : decode cX8_canBePaid 11 = .ok (.iand, 1) := by decide +kernel
theorem dX8_canBePaid_12 : decode cX8_canBePaid 12 = .ok (.ifCond .ne 18, 3) := by decide +kernel
theorem dX8_canBePaid_15 : decode cX8_canBePaid 15 = .ok (.aload_n 0, 1) := by decide +kernel
theorem dX8_canBePaid_16 : decode cX8_canBePaid 16 = .ok (.invokevirtual 261, 3) := by decide +kernel
theorem dX8_canBePaid_19 : decode cX8_canBePaid 19 = .ok (.iload_n 1, 1) := by decide +kernel
theorem dX8_canBePaid_20 : decode cX8_canBePaid 20 = .ok (.invokevirtual 265, 3) := by decide +kernel
theorem dX8_canBePaid_23 : decode cX8_canBePaid 23 = .ok (.ifCond .eq 7, 3) := by decide +kernel
theorem dX8_canBePaid_26 : decode cX8_canBePaid 26 = .ok (.iconst 1, 1) := by decide +kernel
theorem dX8_canBePaid_27 : decode cX8_canBePaid 27 = .ok (.goto 4, 3) := by decide +kernel
theorem dX8_canBePaid_30 : decode cX8_canBePaid 30 = .ok (.iconst 0, 1) := by decide +kernel
theorem dX8_canBePaid_31 : decode cX8_canBePaid 31 = .ok (.ireturn, 1) := by decide +kernel
theorem dX8_bestWithout_0 : decode cX8_bestWithout 0 = .ok (.iload_n 1, 1) := by decide +kernel
theorem dX8_bestWithout_1 : decode cX8_bestWithout 1 = .ok (.aload_n 0, 1) := by decide +kernel
theorem dX8_bestWithout_2 : decode cX8_bestWithout 2 = .ok (.getfield 60, 3) := by decide +kernel
theorem dX8_bestWithout_5 : decode cX8_bestWithout 5 = .ok (.getfield 97, 3) := by decide +kernel
theorem dX8_bestWithout_8 : decode cX8_bestWithout 8 = .ok (.invokestatic 114, 3) := by decide +kernel
theorem dX8_bestWithout_11 : decode cX8_bestWithout 11 = .ok (.aload_n 0, 1) := by decide +kernel
theorem dX8_bestWithout_12 : decode cX8_bestWithout 12 = .ok (.invokevirtual 261, 3) := by decide +kernel
theorem dX8_bestWithout_15 : decode cX8_bestWithout 15 = .ok (.astore_n 2, 1) := by decide +kernel
theorem dX8_bestWithout_16 : decode cX8_bestWithout 16 = .ok (.aload_n 2, 1) := by decide +kernel
theorem dX8_bestWithout_17 : decode cX8_bestWithout 17 = .ok (.getfield 268, 3) := by decide +kernel
theorem dX8_bestWithout_20 : decode cX8_bestWithout 20 = .ok (.aload_n 2, 1) := by decide +kernel
theorem dX8_bestWithout_21 : decode cX8_bestWithout 21 = .ok (.iconst 1, 1) := by decide +kernel
theorem dX8_bestWithout_22 : decode cX8_bestWithout 22 = .ok (.iload_n 1, 1) := by decide +kernel
theorem dX8_bestWithout_23 : decode cX8_bestWithout 23 = .ok (.ishl, 1) := by decide +kernel
theorem dX8_bestWithout_24 : decode cX8_bestWithout 24 = .ok (.invokevirtual 271, 3) := by decide +kernel
theorem dX8_bestWithout_27 : decode cX8_bestWithout 27 = .ok (.iaload, 1) := by decide +kernel
theorem dX8_bestWithout_28 : decode cX8_bestWithout 28 = .ok (.i2l, 1) := by decide +kernel
theorem dX8_bestWithout_29 : decode cX8_bestWithout 29 = .ok (.lreturn, 1) := by decide +kernel
theorem dX8_cheapestSet_0 : decode cX8_cheapestSet 0 = .ok (.iload_n 1, 1) := by decide +kernel
theorem dX8_cheapestSet_1 : decode cX8_cheapestSet 1 = .ok (.ifCond .ge 8, 3) := by decide +kernel
theorem dX8_cheapestSet_4 : decode cX8_cheapestSet 4 = .ok (.bipush (-2), 2) := by decide +kernel
theorem dX8_cheapestSet_6 : decode cX8_cheapestSet 6 = .ok (.goto 11, 3) := by decide +kernel
theorem dX8_cheapestSet_9 : decode cX8_cheapestSet 9 = .ok (.aload_n 0, 1) := by decide +kernel
theorem dX8_cheapestSet_10 : decode cX8_cheapestSet 10 = .ok (.invokevirtual 261, 3) := by decide +kernel
theorem dX8_cheapestSet_13 : decode cX8_cheapestSet 13 = .ok (.iload_n 1, 1) := by decide +kernel
theorem dX8_cheapestSet_14 : decode cX8_cheapestSet 14 = .ok (.invokevirtual 274, 3) := by decide +kernel
theorem dX8_cheapestSet_17 : decode cX8_cheapestSet 17 = .ok (.ireturn, 1) := by decide +kernel
theorem dX8_changedWithout_0 : decode cX8_changedWithout 0 = .ok (.iload_n 1, 1) := by decide +kernel
theorem dX8_changedWithout_1 : decode cX8_changedWithout 1 = .ok (.aload_n 0, 1) := by decide +kernel
theorem dX8_changedWithout_2 : decode cX8_changedWithout 2 = .ok (.getfield 60, 3) := by decide +kernel
theorem dX8_changedWithout_5 : decode cX8_changedWithout 5 = .ok (.getfield 100, 3) := by decide +kernel
theorem dX8_changedWithout_8 : decode cX8_changedWithout 8 = .ok (.invokestatic 114, 3) := by decide +kernel
theorem dX8_changedWithout_11 : decode cX8_changedWithout 11 = .ok (.aload_n 0, 1) := by decide +kernel
theorem dX8_changedWithout_12 : decode cX8_changedWithout 12 = .ok (.getfield 64, 3) := by decide +kernel
theorem dX8_changedWithout_15 : decode cX8_changedWithout 15 = .ok (.aload_n 0, 1) := by decide +kernel
theorem dX8_changedWithout_16 : decode cX8_changedWithout 16 = .ok (.getfield 60, 3) := by decide +kernel
theorem dX8_changedWithout_19 : decode cX8_changedWithout 19 = .ok (.invokevirtual 277, 3) := by decide +kernel
theorem dX8_changedWithout_22 : decode cX8_changedWithout 22 = .ok (.aload_n 0, 1) := by decide +kernel
theorem dX8_changedWithout_23 : decode cX8_changedWithout 23 = .ok (.getfield 64, 3) := by decide +kernel
theorem dX8_changedWithout_26 : decode cX8_changedWithout 26 = .ok (.getfield 130, 3) := by decide +kernel
theorem dX8_changedWithout_29 : decode cX8_changedWithout 29 = .ok (.iload_n 1, 1) := by decide +kernel
theorem dX8_changedWithout_30 : decode cX8_changedWithout 30 = .ok (.iconst 0, 1) := by decide +kernel
theorem dX8_changedWithout_31 : decode cX8_changedWithout 31 = .ok (.iastore, 1) := by decide +kernel
theorem dX8_changedWithout_32 : decode cX8_changedWithout 32 = .ok (.aload_n 0, 1) := by decide +kernel
theorem dX8_changedWithout_33 : decode cX8_changedWithout 33 = .ok (.iconst 0, 1) := by decide +kernel
theorem dX8_changedWithout_34 : decode cX8_changedWithout 34 = .ok (.invokevirtual 209, 3) := by decide +kernel
theorem dX8_changedWithout_37 : decode cX8_changedWithout 37 = .ok (.aload_n 0, 1) := by decide +kernel
theorem dX8_changedWithout_38 : decode cX8_changedWithout 38 = .ok (.invokevirtual 281, 3) := by decide +kernel
theorem dX8_changedWithout_41 : decode cX8_changedWithout 41 = .ok (.ixor, 1) := by decide +kernel
theorem dX8_changedWithout_42 : decode cX8_changedWithout 42 = .ok (.ireturn, 1) := by decide +kernel
theorem dX8_fundedWithBudget_0 : decode cX8_fundedWithBudget 0 = .ok (.iload_n 1, 1) := by decide +kernel
theorem dX8_fundedWithBudget_1 : decode cX8_fundedWithBudget 1 = .ok (.aload_n 0, 1) := by decide +kernel
theorem dX8_fundedWithBudget_2 : decode cX8_fundedWithBudget 2 = .ok (.getfield 60, 3) := by decide +kernel
theorem dX8_fundedWithBudget_5 : decode cX8_fundedWithBudget 5 = .ok (.getfield 94, 3) := by decide +kernel
theorem dX8_fundedWithBudget_8 : decode cX8_fundedWithBudget 8 = .ok (.invokestatic 114, 3) := by decide +kernel
theorem dX8_fundedWithBudget_11 : decode cX8_fundedWithBudget 11 = .ok (.iload_n 2, 1) := by decide +kernel
theorem dX8_fundedWithBudget_12 : decode cX8_fundedWithBudget 12 = .ok (.ifCond .lt 10, 3) := by decide +kernel
theorem dX8_fundedWithBudget_15 : decode cX8_fundedWithBudget 15 = .ok (.iload_n 2, 1) := by decide +kernel
theorem dX8_fundedWithBudget_16 : decode cX8_fundedWithBudget 16 = .ok (.ldc_w 284, 3) := by decide +kernel
theorem dX8_fundedWithBudget_19 : decode cX8_fundedWithBudget 19 = .ok (.if_icmp .le 6, 3) := by decide +kernel
theorem dX8_fundedWithBudget_22 : decode cX8_fundedWithBudget 22 = .ok (.bipush (-2), 2) := by decide +kernel
theorem dX8_fundedWithBudget_24 : decode cX8_fundedWithBudget 24 = .ok (.ireturn, 1) := by decide +kernel
theorem dX8_fundedWithBudget_25 : decode cX8_fundedWithBudget 25 = .ok (.aload_n 0, 1) := by decide +kernel
theorem dX8_fundedWithBudget_26 : decode cX8_fundedWithBudget 26 = .ok (.getfield 64, 3) := by decide +kernel
theorem dX8_fundedWithBudget_29 : decode cX8_fundedWithBudget 29 = .ok (.aload_n 0, 1) := by decide +kernel
theorem dX8_fundedWithBudget_30 : decode cX8_fundedWithBudget 30 = .ok (.getfield 60, 3) := by decide +kernel
theorem dX8_fundedWithBudget_33 : decode cX8_fundedWithBudget 33 = .ok (.invokevirtual 277, 3) := by decide +kernel
theorem dX8_fundedWithBudget_36 : decode cX8_fundedWithBudget 36 = .ok (.aload_n 0, 1) := by decide +kernel
theorem dX8_fundedWithBudget_37 : decode cX8_fundedWithBudget 37 = .ok (.getfield 64, 3) := by decide +kernel
theorem dX8_fundedWithBudget_40 : decode cX8_fundedWithBudget 40 = .ok (.getfield 118, 3) := by decide +kernel
theorem dX8_fundedWithBudget_43 : decode cX8_fundedWithBudget 43 = .ok (.iload_n 1, 1) := by decide +kernel
theorem dX8_fundedWithBudget_44 : decode cX8_fundedWithBudget 44 = .ok (.iload_n 2, 1) := by decide +kernel
theorem dX8_fundedWithBudget_45 : decode cX8_fundedWithBudget 45 = .ok (.iastore, 1) := by decide +kernel
theorem dX8_fundedWithBudget_46 : decode cX8_fundedWithBudget 46 = .ok (.aload_n 0, 1) := by decide +kernel
theorem dX8_fundedWithBudget_47 : decode cX8_fundedWithBudget 47 = .ok (.invokevirtual 281, 3) := by decide +kernel
theorem dX8_fundedWithBudget_50 : decode cX8_fundedWithBudget 50 = .ok (.ireturn, 1) := by decide +kernel
theorem dX8_fundedWithCost_0 : decode cX8_fundedWithCost 0 = .ok (.iload_n 1, 1) := by decide +kernel
theorem dX8_fundedWithCost_1 : decode cX8_fundedWithCost 1 = .ok (.aload_n 0, 1) := by decide +kernel
theorem dX8_fundedWithCost_2 : decode cX8_fundedWithCost 2 = .ok (.getfield 60, 3) := by decide +kernel
theorem dX8_fundedWithCost_5 : decode cX8_fundedWithCost 5 = .ok (.getfield 97, 3) := by decide +kernel
theorem dX8_fundedWithCost_8 : decode cX8_fundedWithCost 8 = .ok (.invokestatic 114, 3) := by decide +kernel
theorem dX8_fundedWithCost_11 : decode cX8_fundedWithCost 11 = .ok (.iload_n 2, 1) := by decide +kernel
theorem dX8_fundedWithCost_12 : decode cX8_fundedWithCost 12 = .ok (.iconst 1, 1) := by decide +kernel
theorem dX8_fundedWithCost_13 : decode cX8_fundedWithCost 13 = .ok (.if_icmp .lt 10, 3) := by decide +kernel
theorem dX8_fundedWithCost_16 : decode cX8_fundedWithCost 16 = .ok (.iload_n 2, 1) := by decide +kernel
theorem dX8_fundedWithCost_17 : decode cX8_fundedWithCost 17 = .ok (.ldc_w 284, 3) := by decide +kernel
theorem dX8_fundedWithCost_20 : decode cX8_fundedWithCost 20 = .ok (.if_icmp .le 6, 3) := by decide +kernel
theorem dX8_fundedWithCost_23 : decode cX8_fundedWithCost 23 = .ok (.bipush (-2), 2) := by decide +kernel
theorem dX8_fundedWithCost_25 : decode cX8_fundedWithCost 25 = .ok (.ireturn, 1) := by decide +kernel
theorem dX8_fundedWithCost_26 : decode cX8_fundedWithCost 26 = .ok (.aload_n 0, 1) := by decide +kernel
theorem dX8_fundedWithCost_27 : decode cX8_fundedWithCost 27 = .ok (.getfield 64, 3) := by decide +kernel
theorem dX8_fundedWithCost_30 : decode cX8_fundedWithCost 30 = .ok (.aload_n 0, 1) := by decide +kernel
theorem dX8_fundedWithCost_31 : decode cX8_fundedWithCost 31 = .ok (.getfield 60, 3) := by decide +kernel
theorem dX8_fundedWithCost_34 : decode cX8_fundedWithCost 34 = .ok (.invokevirtual 277, 3) := by decide +kernel
theorem dX8_fundedWithCost_37 : decode cX8_fundedWithCost 37 = .ok (.aload_n 0, 1) := by decide +kernel
theorem dX8_fundedWithCost_38 : decode cX8_fundedWithCost 38 = .ok (.getfield 64, 3) := by decide +kernel
theorem dX8_fundedWithCost_41 : decode cX8_fundedWithCost 41 = .ok (.getfield 121, 3) := by decide +kernel
theorem dX8_fundedWithCost_44 : decode cX8_fundedWithCost 44 = .ok (.iload_n 1, 1) := by decide +kernel
theorem dX8_fundedWithCost_45 : decode cX8_fundedWithCost 45 = .ok (.iload_n 2, 1) := by decide +kernel
theorem dX8_fundedWithCost_46 : decode cX8_fundedWithCost 46 = .ok (.iastore, 1) := by decide +kernel
theorem dX8_fundedWithCost_47 : decode cX8_fundedWithCost 47 = .ok (.aload_n 0, 1) := by decide +kernel
theorem dX8_fundedWithCost_48 : decode cX8_fundedWithCost 48 = .ok (.invokevirtual 281, 3) := by decide +kernel
theorem dX8_fundedWithCost_51 : decode cX8_fundedWithCost 51 = .ok (.ireturn, 1) := by decide +kernel
theorem dX8_fundedWithout_0 : decode cX8_fundedWithout 0 = .ok (.iload_n 1, 1) := by decide +kernel
theorem dX8_fundedWithout_1 : decode cX8_fundedWithout 1 = .ok (.aload_n 0, 1) := by decide +kernel
theorem dX8_fundedWithout_2 : decode cX8_fundedWithout 2 = .ok (.getfield 60, 3) := by decide +kernel
theorem dX8_fundedWithout_5 : decode cX8_fundedWithout 5 = .ok (.getfield 97, 3) := by decide +kernel
theorem dX8_fundedWithout_8 : decode cX8_fundedWithout 8 = .ok (.invokestatic 114, 3) := by decide +kernel
theorem dX8_fundedWithout_11 : decode cX8_fundedWithout 11 = .ok (.aload_n 0, 1) := by decide +kernel
theorem dX8_fundedWithout_12 : decode cX8_fundedWithout 12 = .ok (.getfield 64, 3) := by decide +kernel
theorem dX8_fundedWithout_15 : decode cX8_fundedWithout 15 = .ok (.aload_n 0, 1) := by decide +kernel
theorem dX8_fundedWithout_16 : decode cX8_fundedWithout 16 = .ok (.getfield 60, 3) := by decide +kernel
theorem dX8_fundedWithout_19 : decode cX8_fundedWithout 19 = .ok (.invokevirtual 277, 3) := by decide +kernel
theorem dX8_fundedWithout_22 : decode cX8_fundedWithout 22 = .ok (.iconst 0, 1) := by decide +kernel
theorem dX8_fundedWithout_23 : decode cX8_fundedWithout 23 = .ok (.istore_n 2, 1) := by decide +kernel
theorem dX8_fundedWithout_24 : decode cX8_fundedWithout 24 = .ok (.iload_n 2, 1) := by decide +kernel
theorem dX8_fundedWithout_25 : decode cX8_fundedWithout 25 = .ok (.aload_n 0, 1) := by decide +kernel
theorem dX8_fundedWithout_26 : decode cX8_fundedWithout 26 = .ok (.getfield 64, 3) := by decide +kernel
theorem dX8_fundedWithout_29 : decode cX8_fundedWithout 29 = .ok (.getfield 100, 3) := by decide +kernel
theorem dX8_fundedWithout_32 : decode cX8_fundedWithout 32 = .ok (.if_icmp .ge 26, 3) := by decide +kernel
theorem dX8_fundedWithout_35 : decode cX8_fundedWithout 35 = .ok (.aload_n 0, 1) := by decide +kernel
theorem dX8_fundedWithout_36 : decode cX8_fundedWithout 36 = .ok (.getfield 64, 3) := by decide +kernel
theorem dX8_fundedWithout_39 : decode cX8_fundedWithout 39 = .ok (.getfield 130, 3) := by decide +kernel
theorem dX8_fundedWithout_42 : decode cX8_fundedWithout 42 = .ok (.iload_n 2, 1) := by decide +kernel
theorem dX8_fundedWithout_43 : decode cX8_fundedWithout 43 = .ok (.dup2, 1) := by decide +kernel
theorem dX8_fundedWithout_44 : decode cX8_fundedWithout 44 = .ok (.iaload, 1) := by decide +kernel
theorem dX8_fundedWithout_45 : decode cX8_fundedWithout 45 = .ok (.iconst 1, 1) := by decide +kernel
theorem dX8_fundedWithout_46 : decode cX8_fundedWithout 46 = .ok (.iload_n 1, 1) := by decide +kernel
theorem dX8_fundedWithout_47 : decode cX8_fundedWithout 47 = .ok (.ishl, 1) := by decide +kernel
theorem dX8_fundedWithout_48 : decode cX8_fundedWithout 48 = .ok (.iconst (-1), 1) := by decide +kernel
theorem dX8_fundedWithout_49 : decode cX8_fundedWithout 49 = .ok (.ixor, 1) := by decide +kernel
theorem dX8_fundedWithout_50 : decode cX8_fundedWithout 50 = .ok (.iand, 1) := by decide +kernel
theorem dX8_fundedWithout_51 : decode cX8_fundedWithout 51 = .ok (.iastore, 1) := by decide +kernel
theorem dX8_fundedWithout_52 : decode cX8_fundedWithout 52 = .ok (.iinc 2 1, 3) := by decide +kernel
theorem dX8_fundedWithout_55 : decode cX8_fundedWithout 55 = .ok (.goto (-31), 3) := by decide +kernel
theorem dX8_fundedWithout_58 : decode cX8_fundedWithout 58 = .ok (.aload_n 0, 1) := by decide +kernel
theorem dX8_fundedWithout_59 : decode cX8_fundedWithout 59 = .ok (.invokevirtual 281, 3) := by decide +kernel
theorem dX8_fundedWithout_62 : decode cX8_fundedWithout 62 = .ok (.ireturn, 1) := by decide +kernel
theorem dX8_greedyLimit_0 : decode cX8_greedyLimit 0 = .ok (.iload_n 1, 1) := by decide +kernel
theorem dX8_greedyLimit_1 : decode cX8_greedyLimit 1 = .ok (.aload_n 0, 1) := by decide +kernel
theorem dX8_greedyLimit_2 : decode cX8_greedyLimit 2 = .ok (.getfield 60, 3) := by decide +kernel
theorem dX8_greedyLimit_5 : decode cX8_greedyLimit 5 = .ok (.getfield 97, 3) := by decide +kernel
theorem dX8_greedyLimit_8 : decode cX8_greedyLimit 8 = .ok (.invokestatic 114, 3) := by decide +kernel
theorem dX8_greedyLimit_11 : decode cX8_greedyLimit 11 = .ok (.aload_n 0, 1) := by decide +kernel
theorem dX8_greedyLimit_12 : decode cX8_greedyLimit 12 = .ok (.getfield 64, 3) := by decide +kernel
theorem dX8_greedyLimit_15 : decode cX8_greedyLimit 15 = .ok (.aload_n 0, 1) := by decide +kernel
theorem dX8_greedyLimit_16 : decode cX8_greedyLimit 16 = .ok (.getfield 60, 3) := by decide +kernel
theorem dX8_greedyLimit_19 : decode cX8_greedyLimit 19 = .ok (.invokevirtual 277, 3) := by decide +kernel
theorem dX8_greedyLimit_22 : decode cX8_greedyLimit 22 = .ok (.aload_n 0, 1) := by decide +kernel
theorem dX8_greedyLimit_23 : decode cX8_greedyLimit 23 = .ok (.getfield 64, 3) := by decide +kernel
theorem dX8_greedyLimit_26 : decode cX8_greedyLimit 26 = .ok (.invokevirtual 285, 3) := by decide +kernel
theorem dX8_greedyLimit_29 : decode cX8_greedyLimit 29 = .ok (.iconst 0, 1) := by decide +kernel
theorem dX8_greedyLimit_30 : decode cX8_greedyLimit 30 = .ok (.istore_n 2, 1) := by decide +kernel
theorem dX8_greedyLimit_31 : decode cX8_greedyLimit 31 = .ok (.ldc_w 288, 3) := by decide +kernel
theorem dX8_greedyLimit_34 : decode cX8_greedyLimit 34 = .ok (.istore_n 3, 1) := by decide +kernel
theorem dX8_greedyLimit_35 : decode cX8_greedyLimit 35 = .ok (.iload_n 3, 1) := by decide +kernel
theorem dX8_greedyLimit_36 : decode cX8_greedyLimit 36 = .ok (.ifCond .le 43, 3) := by decide +kernel
theorem dX8_greedyLimit_39 : decode cX8_greedyLimit 39 = .ok (.aload_n 0, 1) := by decide +kernel
theorem dX8_greedyLimit_40 : decode cX8_greedyLimit 40 = .ok (.getfield 64, 3) := by decide +kernel
theorem dX8_greedyLimit_43 : decode cX8_greedyLimit 43 = .ok (.getfield 121, 3) := by decide +kernel
theorem dX8_greedyLimit_46 : decode cX8_greedyLimit 46 = .ok (.iload_n 1, 1) := by decide +kernel
theorem dX8_greedyLimit_47 : decode cX8_greedyLimit 47 = .ok (.iload_n 2, 1) := by decide +kernel
theorem dX8_greedyLimit_48 : decode cX8_greedyLimit 48 = .ok (.iload_n 3, 1) := by decide +kernel
theorem dX8_greedyLimit_49 : decode cX8_greedyLimit 49 = .ok (.iadd, 1) := by decide +kernel
theorem dX8_greedyLimit_50 : decode cX8_greedyLimit 50 = .ok (.iastore, 1) := by decide +kernel
theorem dX8_greedyLimit_51 : decode cX8_greedyLimit 51 = .ok (.iload_n 2, 1) := by decide +kernel
theorem dX8_greedyLimit_52 : decode cX8_greedyLimit 52 = .ok (.iload_n 3, 1) := by decide +kernel
theorem dX8_greedyLimit_53 : decode cX8_greedyLimit 53 = .ok (.iadd, 1) := by decide +kernel
theorem dX8_greedyLimit_54 : decode cX8_greedyLimit 54 = .ok (.ldc_w 284, 3) := by decide +kernel
theorem dX8_greedyLimit_57 : decode cX8_greedyLimit 57 = .ok (.if_icmp .gt 15, 3) := by decide +kernel
theorem dX8_greedyLimit_60 : decode cX8_greedyLimit 60 = .ok (.aload_n 0, 1) := by decide +kernel
theorem dX8_greedyLimit_61 : decode cX8_greedyLimit 61 = .ok (.iload_n 1, 1) := by decide +kernel
theorem dX8_greedyLimit_62 : decode cX8_greedyLimit 62 = .ok (.invokevirtual 289, 3) := by decide +kernel
theorem dX8_greedyLimit_65 : decode cX8_greedyLimit 65 = .ok (.ifCond .eq 7, 3) := by decide +kernel
theorem dX8_greedyLimit_68 : decode cX8_greedyLimit 68 = .ok (.iload_n 2, 1) := by decide +kernel
theorem dX8_greedyLimit_69 : decode cX8_greedyLimit 69 = .ok (.iload_n 3, 1) := by decide +kernel
theorem dX8_greedyLimit_70 : decode cX8_greedyLimit 70 = .ok (.iadd, 1) := by decide +kernel
theorem dX8_greedyLimit_71 : decode cX8_greedyLimit 71 = .ok (.istore_n 2, 1) := by decide +kernel
theorem dX8_greedyLimit_72 : decode cX8_greedyLimit 72 = .ok (.iload_n 3, 1) := by decide +kernel
theorem dX8_greedyLimit_73 : decode cX8_greedyLimit 73 = .ok (.iconst 1, 1) := by decide +kernel
theorem dX8_greedyLimit_74 : decode cX8_greedyLimit 74 = .ok (.ishr, 1) := by decide +kernel
theorem dX8_greedyLimit_75 : decode cX8_greedyLimit 75 = .ok (.istore_n 3, 1) := by decide +kernel
theorem dX8_greedyLimit_76 : decode cX8_greedyLimit 76 = .ok (.goto (-41), 3) := by decide +kernel
theorem dX8_greedyLimit_79 : decode cX8_greedyLimit 79 = .ok (.iload_n 2, 1) := by decide +kernel
theorem dX8_greedyLimit_80 : decode cX8_greedyLimit 80 = .ok (.ifCond .ne 7, 3) := by decide +kernel
theorem dX8_greedyLimit_83 : decode cX8_greedyLimit 83 = .ok (.iconst (-1), 1) := by decide +kernel
theorem dX8_greedyLimit_84 : decode cX8_greedyLimit 84 = .ok (.goto 4, 3) := by decide +kernel
theorem dX8_greedyLimit_87 : decode cX8_greedyLimit 87 = .ok (.iload_n 2, 1) := by decide +kernel
theorem dX8_greedyLimit_88 : decode cX8_greedyLimit 88 = .ok (.ireturn, 1) := by decide +kernel
theorem dX8_setBudget_0 : decode cX8_setBudget 0 = .ok (.iload_n 1, 1) := by decide +kernel
theorem dX8_setBudget_1 : decode cX8_setBudget 1 = .ok (.aload_n 0, 1) := by decide +kernel
theorem dX8_setBudget_2 : decode cX8_setBudget 2 = .ok (.getfield 60, 3) := by decide +kernel
theorem dX8_setBudget_5 : decode cX8_setBudget 5 = .ok (.getfield 94, 3) := by decide +kernel
theorem dX8_setBudget_8 : decode cX8_setBudget 8 = .ok (.invokestatic 136, 3) := by decide +kernel
theorem dX8_setBudget_11 : decode cX8_setBudget 11 = .ok (.ifCond .ne 5, 3) := by decide +kernel
theorem dX8_setBudget_14 : decode cX8_setBudget 14 = .ok (.iconst (-1), 1) := by decide +kernel
theorem dX8_setBudget_15 : decode cX8_setBudget 15 = .ok (.ireturn, 1) := by decide +kernel
theorem dX8_setBudget_16 : decode cX8_setBudget 16 = .ok (.iload_n 2, 1) := by decide +kernel
theorem dX8_setBudget_17 : decode cX8_setBudget 17 = .ok (.ifCond .lt 10, 3) := by decide +kernel
theorem dX8_setBudget_20 : decode cX8_setBudget 20 = .ok (.iload_n 2, 1) := by decide +kernel
theorem dX8_setBudget_21 : decode cX8_setBudget 21 = .ok (.ldc_w 284, 3) := by decide +kernel
theorem dX8_setBudget_24 : decode cX8_setBudget 24 = .ok (.if_icmp .le 6, 3) := by decide +kernel
theorem dX8_setBudget_27 : decode cX8_setBudget 27 = .ok (.bipush (-2), 2) := by decide +kernel
theorem dX8_setBudget_29 : decode cX8_setBudget 29 = .ok (.ireturn, 1) := by decide +kernel
theorem dX8_setBudget_30 : decode cX8_setBudget 30 = .ok (.aload_n 0, 1) := by decide +kernel
theorem dX8_setBudget_31 : decode cX8_setBudget 31 = .ok (.iconst 0, 1) := by decide +kernel
theorem dX8_setBudget_32 : decode cX8_setBudget 32 = .ok (.iload_n 1, 1) := by decide +kernel
theorem dX8_setBudget_33 : decode cX8_setBudget 33 = .ok (.iload_n 2, 1) := by decide +kernel
theorem dX8_setBudget_34 : decode cX8_setBudget 34 = .ok (.invokevirtual 292, 3) := by decide +kernel
theorem dX8_setBudget_37 : decode cX8_setBudget 37 = .ok (.ireturn, 1) := by decide +kernel
theorem dX8_setCost_0 : decode cX8_setCost 0 = .ok (.iload_n 1, 1) := by decide +kernel
theorem dX8_setCost_1 : decode cX8_setCost 1 = .ok (.aload_n 0, 1) := by decide +kernel
theorem dX8_setCost_2 : decode cX8_setCost 2 = .ok (.getfield 60, 3) := by decide +kernel
theorem dX8_setCost_5 : decode cX8_setCost 5 = .ok (.getfield 97, 3) := by decide +kernel
theorem dX8_setCost_8 : decode cX8_setCost 8 = .ok (.invokestatic 136, 3) := by decide +kernel
theorem dX8_setCost_11 : decode cX8_setCost 11 = .ok (.ifCond .ne 5, 3) := by decide +kernel
theorem dX8_setCost_14 : decode cX8_setCost 14 = .ok (.iconst (-1), 1) := by decide +kernel
theorem dX8_setCost_15 : decode cX8_setCost 15 = .ok (.ireturn, 1) := by decide +kernel
theorem dX8_setCost_16 : decode cX8_setCost 16 = .ok (.iload_n 2, 1) := by decide +kernel
theorem dX8_setCost_17 : decode cX8_setCost 17 = .ok (.iconst 1, 1) := by decide +kernel
theorem dX8_setCost_18 : decode cX8_setCost 18 = .ok (.if_icmp .lt 10, 3) := by decide +kernel
theorem dX8_setCost_21 : decode cX8_setCost 21 = .ok (.iload_n 2, 1) := by decide +kernel
theorem dX8_setCost_22 : decode cX8_setCost 22 = .ok (.ldc_w 284, 3) := by decide +kernel
theorem dX8_setCost_25 : decode cX8_setCost 25 = .ok (.if_icmp .le 6, 3) := by decide +kernel
theorem dX8_setCost_28 : decode cX8_setCost 28 = .ok (.bipush (-2), 2) := by decide +kernel
theorem dX8_setCost_30 : decode cX8_setCost 30 = .ok (.ireturn, 1) := by decide +kernel
theorem dX8_setCost_31 : decode cX8_setCost 31 = .ok (.aload_n 0, 1) := by decide +kernel
theorem dX8_setCost_32 : decode cX8_setCost 32 = .ok (.iconst 1, 1) := by decide +kernel
theorem dX8_setCost_33 : decode cX8_setCost 33 = .ok (.iload_n 1, 1) := by decide +kernel
theorem dX8_setCost_34 : decode cX8_setCost 34 = .ok (.iload_n 2, 1) := by decide +kernel
theorem dX8_setCost_35 : decode cX8_setCost 35 = .ok (.invokevirtual 292, 3) := by decide +kernel
theorem dX8_setCost_38 : decode cX8_setCost 38 = .ok (.ireturn, 1) := by decide +kernel
theorem dX8_setWeight_0 : decode cX8_setWeight 0 = .ok (.iload_n 1, 1) := by decide +kernel
theorem dX8_setWeight_1 : decode cX8_setWeight 1 = .ok (.aload_n 0, 1) := by decide +kernel
theorem dX8_setWeight_2 : decode cX8_setWeight 2 = .ok (.getfield 60, 3) := by decide +kernel
theorem dX8_setWeight_5 : decode cX8_setWeight 5 = .ok (.getfield 100, 3) := by decide +kernel
theorem dX8_setWeight_8 : decode cX8_setWeight 8 = .ok (.invokestatic 136, 3) := by decide +kernel
theorem dX8_setWeight_11 : decode cX8_setWeight 11 = .ok (.ifCond .ne 5, 3) := by decide +kernel
theorem dX8_setWeight_14 : decode cX8_setWeight 14 = .ok (.iconst (-1), 1) := by decide +kernel
theorem dX8_setWeight_15 : decode cX8_setWeight 15 = .ok (.ireturn, 1) := by decide +kernel
theorem dX8_setWeight_16 : decode cX8_setWeight 16 = .ok (.iload_n 2, 1) := by decide +kernel
theorem dX8_setWeight_17 : decode cX8_setWeight 17 = .ok (.iconst 1, 1) := by decide +kernel
theorem dX8_setWeight_18 : decode cX8_setWeight 18 = .ok (.if_icmp .lt 9, 3) := by decide +kernel
theorem dX8_setWeight_21 : decode cX8_setWeight 21 = .ok (.iload_n 2, 1) := by decide +kernel
theorem dX8_setWeight_22 : decode cX8_setWeight 22 = .ok (.bipush 9, 2) := by decide +kernel
theorem dX8_setWeight_24 : decode cX8_setWeight 24 = .ok (.if_icmp .le 6, 3) := by decide +kernel
theorem dX8_setWeight_27 : decode cX8_setWeight 27 = .ok (.bipush (-2), 2) := by decide +kernel
theorem dX8_setWeight_29 : decode cX8_setWeight 29 = .ok (.ireturn, 1) := by decide +kernel
theorem dX8_setWeight_30 : decode cX8_setWeight 30 = .ok (.aload_n 0, 1) := by decide +kernel
theorem dX8_setWeight_31 : decode cX8_setWeight 31 = .ok (.iconst 2, 1) := by decide +kernel
theorem dX8_setWeight_32 : decode cX8_setWeight 32 = .ok (.iload_n 1, 1) := by decide +kernel
theorem dX8_setWeight_33 : decode cX8_setWeight 33 = .ok (.iload_n 2, 1) := by decide +kernel
theorem dX8_setWeight_34 : decode cX8_setWeight 34 = .ok (.invokevirtual 292, 3) := by decide +kernel
theorem dX8_setWeight_37 : decode cX8_setWeight 37 = .ok (.ireturn, 1) := by decide +kernel
theorem dX8_setMember_0 : decode cX8_setMember 0 = .ok (.iload_n 1, 1) := by decide +kernel
theorem dX8_setMember_1 : decode cX8_setMember 1 = .ok (.aload_n 0, 1) := by decide +kernel
theorem dX8_setMember_2 : decode cX8_setMember 2 = .ok (.getfield 60, 3) := by decide +kernel
theorem dX8_setMember_5 : decode cX8_setMember 5 = .ok (.getfield 100, 3) := by decide +kernel
theorem dX8_setMember_8 : decode cX8_setMember 8 = .ok (.invokestatic 136, 3) := by decide +kernel
theorem dX8_setMember_11 : decode cX8_setMember 11 = .ok (.ifCond .eq 17, 3) := by decide +kernel
theorem dX8_setMember_14 : decode cX8_setMember 14 = .ok (.iload_n 2, 1) := by decide +kernel
theorem dX8_setMember_15 : decode cX8_setMember 15 = .ok (.aload_n 0, 1) := by decide +kernel
theorem dX8_setMember_16 : decode cX8_setMember 16 = .ok (.getfield 60, 3) := by decide +kernel
theorem dX8_setMember_19 : decode cX8_setMember 19 = .ok (.getfield 94, 3) := by decide +kernel
theorem dX8_setMember_22 : decode cX8_setMember 22 = .ok (.invokestatic 136, 3) := by decide +kernel
theorem dX8_setMember_25 : decode cX8_setMember 25 = .ok (.ifCond .ne 5, 3) := by decide +kernel
theorem dX8_setMember_28 : decode cX8_setMember 28 = .ok (.iconst (-1), 1) := by decide +kernel
theorem dX8_setMember_29 : decode cX8_setMember 29 = .ok (.ireturn, 1) := by decide +kernel
theorem dX8_setMember_30 : decode cX8_setMember 30 = .ok (.aload_n 0, 1) := by decide +kernel
theorem dX8_setMember_31 : decode cX8_setMember 31 = .ok (.iconst 3, 1) := by decide +kernel
theorem dX8_setMember_32 : decode cX8_setMember 32 = .ok (.iload_n 1, 1) := by decide +kernel
theorem dX8_setMember_33 : decode cX8_setMember 33 = .ok (.aload_n 0, 1) := by decide +kernel
theorem dX8_setMember_34 : decode cX8_setMember 34 = .ok (.getfield 60, 3) := by decide +kernel
theorem dX8_setMember_37 : decode cX8_setMember 37 = .ok (.getfield 127, 3) := by decide +kernel
theorem dX8_setMember_40 : decode cX8_setMember 40 = .ok (.iload_n 1, 1) := by decide +kernel
theorem dX8_setMember_41 : decode cX8_setMember 41 = .ok (.iaload, 1) := by decide +kernel
theorem dX8_setMember_42 : decode cX8_setMember 42 = .ok (.iload_n 2, 1) := by decide +kernel
theorem dX8_setMember_43 : decode cX8_setMember 43 = .ok (.iload_n 3, 1) := by decide +kernel
theorem dX8_setMember_44 : decode cX8_setMember 44 = .ok (.invokestatic 296, 3) := by decide +kernel
theorem dX8_setMember_47 : decode cX8_setMember 47 = .ok (.invokevirtual 292, 3) := by decide +kernel
theorem dX8_setMember_50 : decode cX8_setMember 50 = .ok (.pop, 1) := by decide +kernel
theorem dX8_setMember_51 : decode cX8_setMember 51 = .ok (.aload_n 0, 1) := by decide +kernel
theorem dX8_setMember_52 : decode cX8_setMember 52 = .ok (.getfield 60, 3) := by decide +kernel
theorem dX8_setMember_55 : decode cX8_setMember 55 = .ok (.getfield 127, 3) := by decide +kernel
theorem dX8_setMember_58 : decode cX8_setMember 58 = .ok (.iload_n 1, 1) := by decide +kernel
theorem dX8_setMember_59 : decode cX8_setMember 59 = .ok (.iaload, 1) := by decide +kernel
theorem dX8_setMember_60 : decode cX8_setMember 60 = .ok (.ireturn, 1) := by decide +kernel
theorem dX8_setApproval_0 : decode cX8_setApproval 0 = .ok (.iload_n 1, 1) := by decide +kernel
theorem dX8_setApproval_1 : decode cX8_setApproval 1 = .ok (.aload_n 0, 1) := by decide +kernel
theorem dX8_setApproval_2 : decode cX8_setApproval 2 = .ok (.getfield 60, 3) := by decide +kernel
theorem dX8_setApproval_5 : decode cX8_setApproval 5 = .ok (.getfield 100, 3) := by decide +kernel
theorem dX8_setApproval_8 : decode cX8_setApproval 8 = .ok (.invokestatic 136, 3) := by decide +kernel
theorem dX8_setApproval_11 : decode cX8_setApproval 11 = .ok (.ifCond .eq 17, 3) := by decide +kernel
theorem dX8_setApproval_14 : decode cX8_setApproval 14 = .ok (.iload_n 2, 1) := by decide +kernel
theorem dX8_setApproval_15 : decode cX8_setApproval 15 = .ok (.aload_n 0, 1) := by decide +kernel
theorem dX8_setApproval_16 : decode cX8_setApproval 16 = .ok (.getfield 60, 3) := by decide +kernel
theorem dX8_setApproval_19 : decode cX8_setApproval 19 = .ok (.getfield 97, 3) := by decide +kernel
theorem dX8_setApproval_22 : decode cX8_setApproval 22 = .ok (.invokestatic 136, 3) := by decide +kernel
theorem dX8_setApproval_25 : decode cX8_setApproval 25 = .ok (.ifCond .ne 5, 3) := by decide +kernel
theorem dX8_setApproval_28 : decode cX8_setApproval 28 = .ok (.iconst (-1), 1) := by decide +kernel
theorem dX8_setApproval_29 : decode cX8_setApproval 29 = .ok (.ireturn, 1) := by decide +kernel
theorem dX8_setApproval_30 : decode cX8_setApproval 30 = .ok (.aload_n 0, 1) := by decide +kernel
theorem dX8_setApproval_31 : decode cX8_setApproval 31 = .ok (.iconst 4, 1) := by decide +kernel
theorem dX8_setApproval_32 : decode cX8_setApproval 32 = .ok (.iload_n 1, 1) := by decide +kernel
theorem dX8_setApproval_33 : decode cX8_setApproval 33 = .ok (.aload_n 0, 1) := by decide +kernel
theorem dX8_setApproval_34 : decode cX8_setApproval 34 = .ok (.getfield 60, 3) := by decide +kernel
theorem dX8_setApproval_37 : decode cX8_setApproval 37 = .ok (.getfield 130, 3) := by decide +kernel
theorem dX8_setApproval_40 : decode cX8_setApproval 40 = .ok (.iload_n 1, 1) := by decide +kernel
theorem dX8_setApproval_41 : decode cX8_setApproval 41 = .ok (.iaload, 1) := by decide +kernel
theorem dX8_setApproval_42 : decode cX8_setApproval 42 = .ok (.iload_n 2, 1) := by decide +kernel
theorem dX8_setApproval_43 : decode cX8_setApproval 43 = .ok (.iload_n 3, 1) := by decide +kernel
theorem dX8_setApproval_44 : decode cX8_setApproval 44 = .ok (.invokestatic 296, 3) := by decide +kernel
theorem dX8_setApproval_47 : decode cX8_setApproval 47 = .ok (.invokevirtual 292, 3) := by decide +kernel
theorem dX8_setApproval_50 : decode cX8_setApproval 50 = .ok (.pop, 1) := by decide +kernel
theorem dX8_setApproval_51 : decode cX8_setApproval 51 = .ok (.aload_n 0, 1) := by decide +kernel
theorem dX8_setApproval_52 : decode cX8_setApproval 52 = .ok (.getfield 60, 3) := by decide +kernel
theorem dX8_setApproval_55 : decode cX8_setApproval 55 = .ok (.getfield 146, 3) := by decide +kernel
theorem dX8_setApproval_58 : decode cX8_setApproval 58 = .ok (.iload_n 2, 1) := by decide +kernel
theorem dX8_setApproval_59 : decode cX8_setApproval 59 = .ok (.iaload, 1) := by decide +kernel
theorem dX8_setApproval_60 : decode cX8_setApproval 60 = .ok (.ireturn, 1) := by decide +kernel
theorem dX8_setSetting_0 : decode cX8_setSetting 0 = .ok (.iload_n 1, 1) := by decide +kernel
theorem dX8_setSetting_1 : decode cX8_setSetting 1 = .ok (.iconst 4, 1) := by decide +kernel
theorem dX8_setSetting_2 : decode cX8_setSetting 2 = .ok (.invokestatic 136, 3) := by decide +kernel
theorem dX8_setSetting_5 : decode cX8_setSetting 5 = .ok (.ifCond .eq 21, 3) := by decide +kernel
theorem dX8_setSetting_8 : decode cX8_setSetting 8 = .ok (.iload_n 2, 1) := by decide +kernel
theorem dX8_setSetting_9 : decode cX8_setSetting 9 = .ok (.getstatic 300, 3) := by decide +kernel
theorem dX8_setSetting_12 : decode cX8_setSetting 12 = .ok (.iload_n 1, 1) := by decide +kernel
theorem dX8_setSetting_13 : decode cX8_setSetting 13 = .ok (.iaload, 1) := by decide +kernel
theorem dX8_setSetting_14 : decode cX8_setSetting 14 = .ok (.if_icmp .lt 12, 3) := by decide +kernel
theorem dX8_setSetting_17 : decode cX8_setSetting 17 = .ok (.iload_n 2, 1) := by decide +kernel
theorem dX8_setSetting_18 : decode cX8_setSetting 18 = .ok (.getstatic 303, 3) := by decide +kernel
theorem dX8_setSetting_21 : decode cX8_setSetting 21 = .ok (.iload_n 1, 1) := by decide +kernel
theorem dX8_setSetting_22 : decode cX8_setSetting 22 = .ok (.iaload, 1) := by decide +kernel
theorem dX8_setSetting_23 : decode cX8_setSetting 23 = .ok (.if_icmp .le 6, 3) := by decide +kernel
theorem dX8_setSetting_26 : decode cX8_setSetting 26 = .ok (.bipush (-2), 2) := by decide +kernel
theorem dX8_setSetting_28 : decode cX8_setSetting 28 = .ok (.ireturn, 1) := by decide +kernel
theorem dX8_setSetting_29 : decode cX8_setSetting 29 = .ok (.aload_n 0, 1) := by decide +kernel
theorem dX8_setSetting_30 : decode cX8_setSetting 30 = .ok (.iconst 5, 1) := by decide +kernel
theorem dX8_setSetting_31 : decode cX8_setSetting 31 = .ok (.iload_n 1, 1) := by decide +kernel
theorem dX8_setSetting_32 : decode cX8_setSetting 32 = .ok (.iload_n 2, 1) := by decide +kernel
theorem dX8_setSetting_33 : decode cX8_setSetting 33 = .ok (.invokevirtual 292, 3) := by decide +kernel
theorem dX8_setSetting_36 : decode cX8_setSetting 36 = .ok (.ireturn, 1) := by decide +kernel
theorem dX8_undo_0 : decode cX8_undo 0 = .ok (.aload_n 0, 1) := by decide +kernel
theorem dX8_undo_1 : decode cX8_undo 1 = .ok (.getfield 26, 3) := by decide +kernel
theorem dX8_undo_4 : decode cX8_undo 4 = .ok (.getfield 88, 3) := by decide +kernel
theorem dX8_undo_7 : decode cX8_undo 7 = .ok (.ifCond .ne 5, 3) := by decide +kernel
theorem dX8_undo_10 : decode cX8_undo 10 = .ok (.iconst (-1), 1) := by decide +kernel
theorem dX8_undo_11 : decode cX8_undo 11 = .ok (.ireturn, 1) := by decide +kernel
theorem dX8_undo_12 : decode cX8_undo 12 = .ok (.aload_n 0, 1) := by decide +kernel
theorem dX8_undo_13 : decode cX8_undo 13 = .ok (.getfield 26, 3) := by decide +kernel
theorem dX8_undo_16 : decode cX8_undo 16 = .ok (.aload_n 0, 1) := by decide +kernel
theorem dX8_undo_17 : decode cX8_undo 17 = .ok (.getfield 60, 3) := by decide +kernel
theorem dX8_undo_20 : decode cX8_undo 20 = .ok (.invokevirtual 306, 3) := by decide +kernel
theorem dX8_undo_23 : decode cX8_undo 23 = .ok (.aload_n 0, 1) := by decide +kernel
theorem dX8_undo_24 : decode cX8_undo 24 = .ok (.invokevirtual 91, 3) := by decide +kernel
theorem dX8_undo_27 : decode cX8_undo 27 = .ok (.aload_n 0, 1) := by decide +kernel
theorem dX8_undo_28 : decode cX8_undo 28 = .ok (.getfield 26, 3) := by decide +kernel
theorem dX8_undo_31 : decode cX8_undo 31 = .ok (.getfield 88, 3) := by decide +kernel
theorem dX8_undo_34 : decode cX8_undo 34 = .ok (.ireturn, 1) := by decide +kernel
theorem dX8_change_0 : decode cX8_change 0 = .ok (.aload_n 0, 1) := by decide +kernel
theorem dX8_change_1 : decode cX8_change 1 = .ok (.getfield 26, 3) := by decide +kernel
theorem dX8_change_4 : decode cX8_change 4 = .ok (.aload_n 0, 1) := by decide +kernel
theorem dX8_change_5 : decode cX8_change 5 = .ok (.getfield 60, 3) := by decide +kernel
theorem dX8_change_8 : decode cX8_change 8 = .ok (.iload_n 1, 1) := by decide +kernel
theorem dX8_change_9 : decode cX8_change 9 = .ok (.iload_n 2, 1) := by decide +kernel
theorem dX8_change_10 : decode cX8_change 10 = .ok (.iload_n 3, 1) := by decide +kernel
theorem dX8_change_11 : decode cX8_change 11 = .ok (.invokevirtual 309, 3) := by decide +kernel
theorem dX8_change_14 : decode cX8_change 14 = .ok (.istore 4, 2) := by decide +kernel
theorem dX8_change_16 : decode cX8_change 16 = .ok (.aload_n 0, 1) := by decide +kernel
theorem dX8_change_17 : decode cX8_change 17 = .ok (.invokevirtual 91, 3) := by decide +kernel
theorem dX8_change_20 : decode cX8_change 20 = .ok (.iload 4, 2) := by decide +kernel
theorem dX8_change_22 : decode cX8_change 22 = .ok (.ireturn, 1) := by decide +kernel
theorem dX8_settle_0 : decode cX8_settle 0 = .ok (.aload_n 0, 1) := by decide +kernel
theorem dX8_settle_1 : decode cX8_settle 1 = .ok (.getfield 60, 3) := by decide +kernel
theorem dX8_settle_4 : decode cX8_settle 4 = .ok (.invokevirtual 285, 3) := by decide +kernel
theorem dX8_settle_7 : decode cX8_settle 7 = .ok (.aload_n 0, 1) := by decide +kernel
theorem dX8_settle_8 : decode cX8_settle 8 = .ok (.iconst 0, 1) := by decide +kernel
theorem dX8_settle_9 : decode cX8_settle 9 = .ok (.putfield 312, 3) := by decide +kernel
theorem dX8_settle_12 : decode cX8_settle 12 = .ok (.aload_n 0, 1) := by decide +kernel
theorem dX8_settle_13 : decode cX8_settle 13 = .ok (.iconst 0, 1) := by decide +kernel
theorem dX8_settle_14 : decode cX8_settle 14 = .ok (.putfield 316, 3) := by decide +kernel
theorem dX8_settle_17 : decode cX8_settle 17 = .ok (.aload_n 0, 1) := by decide +kernel
theorem dX8_settle_18 : decode cX8_settle 18 = .ok (.iconst 0, 1) := by decide +kernel
theorem dX8_settle_19 : decode cX8_settle 19 = .ok (.putfield 319, 3) := by decide +kernel
theorem dX8_settle_22 : decode cX8_settle 22 = .ok (.return_, 1) := by decide +kernel
theorem dX8_equalNow_0 : decode cX8_equalNow 0 = .ok (.aload_n 0, 1) := by decide +kernel
theorem dX8_equalNow_1 : decode cX8_equalNow 1 = .ok (.getfield 312, 3) := by decide +kernel
theorem dX8_equalNow_4 : decode cX8_equalNow 4 = .ok (.ifCond .ne 19, 3) := by decide +kernel
theorem dX8_equalNow_7 : decode cX8_equalNow 7 = .ok (.aload_n 0, 1) := by decide +kernel
theorem dX8_equalNow_8 : decode cX8_equalNow 8 = .ok (.getfield 33, 3) := by decide +kernel
theorem dX8_equalNow_11 : decode cX8_equalNow 11 = .ok (.aload_n 0, 1) := by decide +kernel
theorem dX8_equalNow_12 : decode cX8_equalNow 12 = .ok (.getfield 60, 3) := by decide +kernel
theorem dX8_equalNow_15 : decode cX8_equalNow 15 = .ok (.invokevirtual 322, 3) := by decide +kernel
theorem dX8_equalNow_18 : decode cX8_equalNow 18 = .ok (.aload_n 0, 1) := by decide +kernel
theorem dX8_equalNow_19 : decode cX8_equalNow 19 = .ok (.iconst 1, 1) := by decide +kernel
theorem dX8_equalNow_20 : decode cX8_equalNow 20 = .ok (.putfield 312, 3) := by decide +kernel
theorem dX8_equalNow_23 : decode cX8_equalNow 23 = .ok (.aload_n 0, 1) := by decide +kernel
theorem dX8_equalNow_24 : decode cX8_equalNow 24 = .ok (.getfield 33, 3) := by decide +kernel
theorem dX8_equalNow_27 : decode cX8_equalNow 27 = .ok (.areturn, 1) := by decide +kernel
theorem dX8_greedyNow_0 : decode cX8_greedyNow 0 = .ok (.aload_n 0, 1) := by decide +kernel
theorem dX8_greedyNow_1 : decode cX8_greedyNow 1 = .ok (.getfield 316, 3) := by decide +kernel
theorem dX8_greedyNow_4 : decode cX8_greedyNow 4 = .ok (.ifCond .ne 19, 3) := by decide +kernel
theorem dX8_greedyNow_7 : decode cX8_greedyNow 7 = .ok (.aload_n 0, 1) := by decide +kernel
theorem dX8_greedyNow_8 : decode cX8_greedyNow 8 = .ok (.getfield 43, 3) := by decide +kernel
theorem dX8_greedyNow_11 : decode cX8_greedyNow 11 = .ok (.aload_n 0, 1) := by decide +kernel
theorem dX8_greedyNow_12 : decode cX8_greedyNow 12 = .ok (.getfield 60, 3) := by decide +kernel
theorem dX8_greedyNow_15 : decode cX8_greedyNow 15 = .ok (.invokevirtual 325, 3) := by decide +kernel
theorem dX8_greedyNow_18 : decode cX8_greedyNow 18 = .ok (.aload_n 0, 1) := by decide +kernel
theorem dX8_greedyNow_19 : decode cX8_greedyNow 19 = .ok (.iconst 1, 1) := by decide +kernel
theorem dX8_greedyNow_20 : decode cX8_greedyNow 20 = .ok (.putfield 316, 3) := by decide +kernel
theorem dX8_greedyNow_23 : decode cX8_greedyNow 23 = .ok (.aload_n 0, 1) := by decide +kernel
theorem dX8_greedyNow_24 : decode cX8_greedyNow 24 = .ok (.getfield 43, 3) := by decide +kernel
theorem dX8_greedyNow_27 : decode cX8_greedyNow 27 = .ok (.areturn, 1) := by decide +kernel
theorem dX8_optimumNow_0 : decode cX8_optimumNow 0 = .ok (.aload_n 0, 1) := by decide +kernel
theorem dX8_optimumNow_1 : decode cX8_optimumNow 1 = .ok (.getfield 319, 3) := by decide +kernel
theorem dX8_optimumNow_4 : decode cX8_optimumNow 4 = .ok (.ifCond .ne 31, 3) := by decide +kernel
theorem dX8_optimumNow_7 : decode cX8_optimumNow 7 = .ok (.aload_n 0, 1) := by decide +kernel
theorem dX8_optimumNow_8 : decode cX8_optimumNow 8 = .ok (.getfield 53, 3) := by decide +kernel
theorem dX8_optimumNow_11 : decode cX8_optimumNow 11 = .ok (.aload_n 0, 1) := by decide +kernel
theorem dX8_optimumNow_12 : decode cX8_optimumNow 12 = .ok (.getfield 60, 3) := by decide +kernel
theorem dX8_optimumNow_15 : decode cX8_optimumNow 15 = .ok (.invokevirtual 326, 3) := by decide +kernel
theorem dX8_optimumNow_18 : decode cX8_optimumNow 18 = .ok (.aload_n 0, 1) := by decide +kernel
theorem dX8_optimumNow_19 : decode cX8_optimumNow 19 = .ok (.aload_n 0, 1) := by decide +kernel
theorem dX8_optimumNow_20 : decode cX8_optimumNow 20 = .ok (.getfield 53, 3) := by decide +kernel
theorem dX8_optimumNow_23 : decode cX8_optimumNow 23 = .ok (.iconst 0, 1) := by decide +kernel
theorem dX8_optimumNow_24 : decode cX8_optimumNow 24 = .ok (.invokevirtual 271, 3) := by decide +kernel
theorem dX8_optimumNow_27 : decode cX8_optimumNow 27 = .ok (.putfield 329, 3) := by decide +kernel
theorem dX8_optimumNow_30 : decode cX8_optimumNow 30 = .ok (.aload_n 0, 1) := by decide +kernel
theorem dX8_optimumNow_31 : decode cX8_optimumNow 31 = .ok (.iconst 1, 1) := by decide +kernel
theorem dX8_optimumNow_32 : decode cX8_optimumNow 32 = .ok (.putfield 319, 3) := by decide +kernel
theorem dX8_optimumNow_35 : decode cX8_optimumNow 35 = .ok (.aload_n 0, 1) := by decide +kernel
theorem dX8_optimumNow_36 : decode cX8_optimumNow 36 = .ok (.getfield 53, 3) := by decide +kernel
theorem dX8_optimumNow_39 : decode cX8_optimumNow 39 = .ok (.areturn, 1) := by decide +kernel
theorem dX8_bestNow_0 : decode cX8_bestNow 0 = .ok (.aload_n 0, 1) := by decide +kernel
theorem dX8_bestNow_1 : decode cX8_bestNow 1 = .ok (.invokevirtual 261, 3) := by decide +kernel
theorem dX8_bestNow_4 : decode cX8_bestNow 4 = .ok (.pop, 1) := by decide +kernel
theorem dX8_bestNow_5 : decode cX8_bestNow 5 = .ok (.aload_n 0, 1) := by decide +kernel
theorem dX8_bestNow_6 : decode cX8_bestNow 6 = .ok (.getfield 329, 3) := by decide +kernel
theorem dX8_bestNow_9 : decode cX8_bestNow 9 = .ok (.ireturn, 1) := by decide +kernel
theorem dX8_chosenBy_0 : decode cX8_chosenBy 0 = .ok (.iload_n 1, 1) := by decide +kernel
theorem dX8_chosenBy_1 : decode cX8_chosenBy 1 = .ok (.ifCond .ne 11, 3) := by decide +kernel
theorem dX8_chosenBy_4 : decode cX8_chosenBy 4 = .ok (.aload_n 0, 1) := by decide +kernel
theorem dX8_chosenBy_5 : decode cX8_chosenBy 5 = .ok (.invokevirtual 162, 3) := by decide +kernel
theorem dX8_chosenBy_8 : decode cX8_chosenBy 8 = .ok (.invokevirtual 198, 3) := by decide +kernel
theorem dX8_chosenBy_11 : decode cX8_chosenBy 11 = .ok (.ireturn, 1) := by decide +kernel
theorem dX8_chosenBy_12 : decode cX8_chosenBy 12 = .ok (.iload_n 1, 1) := by decide +kernel
theorem dX8_chosenBy_13 : decode cX8_chosenBy 13 = .ok (.iconst 1, 1) := by decide +kernel
theorem dX8_chosenBy_14 : decode cX8_chosenBy 14 = .ok (.if_icmp .ne 13, 3) := by decide +kernel
theorem dX8_chosenBy_17 : decode cX8_chosenBy 17 = .ok (.aload_n 0, 1) := by decide +kernel
theorem dX8_chosenBy_18 : decode cX8_chosenBy 18 = .ok (.invokevirtual 215, 3) := by decide +kernel
theorem dX8_chosenBy_21 : decode cX8_chosenBy 21 = .ok (.getfield 332, 3) := by decide +kernel
theorem dX8_chosenBy_24 : decode cX8_chosenBy 24 = .ok (.goto 7, 3) := by decide +kernel
theorem dX8_chosenBy_27 : decode cX8_chosenBy 27 = .ok (.aload_n 0, 1) := by decide +kernel
theorem dX8_chosenBy_28 : decode cX8_chosenBy 28 = .ok (.invokevirtual 220, 3) := by decide +kernel
theorem dX8_chosenBy_31 : decode cX8_chosenBy 31 = .ok (.ireturn, 1) := by decide +kernel
theorem dX8_chosenIfSpare_0 : decode cX8_chosenIfSpare 0 = .ok (.aload_n 0, 1) := by decide +kernel
theorem dX8_chosenIfSpare_1 : decode cX8_chosenIfSpare 1 = .ok (.getfield 64, 3) := by decide +kernel
theorem dX8_chosenIfSpare_4 : decode cX8_chosenIfSpare 4 = .ok (.invokevirtual 285, 3) := by decide +kernel
theorem dX8_chosenIfSpare_7 : decode cX8_chosenIfSpare 7 = .ok (.aload_n 0, 1) := by decide +kernel
theorem dX8_chosenIfSpare_8 : decode cX8_chosenIfSpare 8 = .ok (.getfield 37, 3) := by decide +kernel
theorem dX8_chosenIfSpare_11 : decode cX8_chosenIfSpare 11 = .ok (.aload_n 0, 1) := by decide +kernel
theorem dX8_chosenIfSpare_12 : decode cX8_chosenIfSpare 12 = .ok (.getfield 64, 3) := by decide +kernel
theorem dX8_chosenIfSpare_15 : decode cX8_chosenIfSpare 15 = .ok (.invokevirtual 322, 3) := by decide +kernel
theorem dX8_chosenIfSpare_18 : decode cX8_chosenIfSpare 18 = .ok (.aload_n 0, 1) := by decide +kernel
theorem dX8_chosenIfSpare_19 : decode cX8_chosenIfSpare 19 = .ok (.getfield 37, 3) := by decide +kernel
theorem dX8_chosenIfSpare_22 : decode cX8_chosenIfSpare 22 = .ok (.invokevirtual 198, 3) := by decide +kernel
theorem dX8_chosenIfSpare_25 : decode cX8_chosenIfSpare 25 = .ok (.ireturn, 1) := by decide +kernel
theorem dX8_isGreedilyChosenIfSpare_0 : decode cX8_isGreedilyChosenIfSpare 0 = .ok (.aload_n 0, 1) := by decide +kernel
theorem dX8_isGreedilyChosenIfSpare_1 : decode cX8_isGreedilyChosenIfSpare 1 = .ok (.getfield 47, 3) := by decide +kernel
theorem dX8_isGreedilyChosenIfSpare_4 : decode cX8_isGreedilyChosenIfSpare 4 = .ok (.aload_n 0, 1) := by decide +kernel
theorem dX8_isGreedilyChosenIfSpare_5 : decode cX8_isGreedilyChosenIfSpare 5 = .ok (.getfield 64, 3) := by decide +kernel
theorem dX8_isGreedilyChosenIfSpare_8 : decode cX8_isGreedilyChosenIfSpare 8 = .ok (.invokevirtual 325, 3) := by decide +kernel
theorem dX8_isGreedilyChosenIfSpare_11 : decode cX8_isGreedilyChosenIfSpare 11 = .ok (.aload_n 0, 1) := by decide +kernel
theorem dX8_isGreedilyChosenIfSpare_12 : decode cX8_isGreedilyChosenIfSpare 12 = .ok (.getfield 47, 3) := by decide +kernel
theorem dX8_isGreedilyChosenIfSpare_15 : decode cX8_isGreedilyChosenIfSpare 15 = .ok (.getfield 332, 3) := by decide +kernel
theorem dX8_isGreedilyChosenIfSpare_18 : decode cX8_isGreedilyChosenIfSpare 18 = .ok (.iload_n 1, 1) := by decide +kernel
theorem dX8_isGreedilyChosenIfSpare_19 : decode cX8_isGreedilyChosenIfSpare 19 = .ok (.invokestatic 189, 3) := by decide +kernel
theorem dX8_isGreedilyChosenIfSpare_22 : decode cX8_isGreedilyChosenIfSpare 22 = .ok (.ireturn, 1) := by decide +kernel
theorem dX8_isRule_0 : decode cX8_isRule 0 = .ok (.iload_n 0, 1) := by decide +kernel
theorem dX8_isRule_1 : decode cX8_isRule 1 = .ok (.ifCond .eq 13, 3) := by decide +kernel
theorem dX8_isRule_4 : decode cX8_isRule 4 = .ok (.iload_n 0, 1) := by decide +kernel
theorem dX8_isRule_5 : decode cX8_isRule 5 = .ok (.iconst 1, 1) := by decide +kernel
theorem dX8_isRule_6 : decode cX8_isRule 6 = .ok (.if_icmp .eq 8, 3) := by decide +kernel
theorem dX8_isRule_9 : decode cX8_isRule 9 = .ok (.iload_n 0, 1) := by decide +kernel
theorem dX8_isRule_10 : decode cX8_isRule 10 = .ok (.iconst 2, 1) := by decide +kernel
theorem dX8_isRule_11 : decode cX8_isRule 11 = .ok (.if_icmp .ne 7, 3) := by decide +kernel
theorem dX8_isRule_14 : decode cX8_isRule 14 = .ok (.iconst 1, 1) := by decide +kernel
theorem dX8_isRule_15 : decode cX8_isRule 15 = .ok (.goto 4, 3) := by decide +kernel
theorem dX8_isRule_18 : decode cX8_isRule 18 = .ok (.iconst 0, 1) := by decide +kernel
theorem dX8_isRule_19 : decode cX8_isRule 19 = .ok (.ireturn, 1) := by decide +kernel
theorem dX8_isIndex_0 : decode cX8_isIndex 0 = .ok (.iload_n 0, 1) := by decide +kernel
theorem dX8_isIndex_1 : decode cX8_isIndex 1 = .ok (.ifCond .lt 12, 3) := by decide +kernel
theorem dX8_isIndex_4 : decode cX8_isIndex 4 = .ok (.iload_n 0, 1) := by decide +kernel
theorem dX8_isIndex_5 : decode cX8_isIndex 5 = .ok (.iload_n 1, 1) := by decide +kernel
theorem dX8_isIndex_6 : decode cX8_isIndex 6 = .ok (.if_icmp .ge 7, 3) := by decide +kernel
theorem dX8_isIndex_9 : decode cX8_isIndex 9 = .ok (.iconst 1, 1) := by decide +kernel
theorem dX8_isIndex_10 : decode cX8_isIndex 10 = .ok (.goto 4, 3) := by decide +kernel
theorem dX8_isIndex_13 : decode cX8_isIndex 13 = .ok (.iconst 0, 1) := by decide +kernel
theorem dX8_isIndex_14 : decode cX8_isIndex 14 = .ok (.ireturn, 1) := by decide +kernel
theorem dX8_checkIndex_0 : decode cX8_checkIndex 0 = .ok (.iload_n 0, 1) := by decide +kernel
theorem dX8_checkIndex_1 : decode cX8_checkIndex 1 = .ok (.iload_n 1, 1) := by decide +kernel
theorem dX8_checkIndex_2 : decode cX8_checkIndex 2 = .ok (.invokestatic 136, 3) := by decide +kernel
theorem dX8_checkIndex_5 : decode cX8_checkIndex 5 = .ok (.ifCond .ne 11, 3) := by decide +kernel
theorem dX8_checkIndex_8 : decode cX8_checkIndex 8 = .ok (.new 334, 3) := by decide +kernel
theorem dX8_checkIndex_11 : decode cX8_checkIndex 11 = .ok (.dup, 1) := by decide +kernel
theorem dX8_checkIndex_12 : decode cX8_checkIndex 12 = .ok (.invokespecial 336, 3) := by decide +kernel
theorem dX8_checkIndex_15 : decode cX8_checkIndex 15 = .ok (.athrow, 1) := by decide +kernel
theorem dX8_checkIndex_16 : decode cX8_checkIndex 16 = .ok (.return_, 1) := by decide +kernel
theorem dX8_has_0 : decode cX8_has 0 = .ok (.iload_n 0, 1) := by decide +kernel
theorem dX8_has_1 : decode cX8_has 1 = .ok (.iload_n 1, 1) := by decide +kernel
theorem dX8_has_2 : decode cX8_has 2 = .ok (.ishr, 1) := by decide +kernel
theorem dX8_has_3 : decode cX8_has 3 = .ok (.iconst 1, 1) := by decide +kernel
theorem dX8_has_4 : decode cX8_has 4 = .ok (.iand, 1) := by decide +kernel
theorem dX8_has_5 : decode cX8_has 5 = .ok (.ifCond .eq 7, 3) := by decide +kernel
theorem dX8_has_8 : decode cX8_has 8 = .ok (.iconst 1, 1) := by decide +kernel
theorem dX8_has_9 : decode cX8_has 9 = .ok (.goto 4, 3) := by decide +kernel
theorem dX8_has_12 : decode cX8_has 12 = .ok (.iconst 0, 1) := by decide +kernel
theorem dX8_has_13 : decode cX8_has 13 = .ok (.ireturn, 1) := by decide +kernel
theorem dX8_with_0 : decode cX8_with 0 = .ok (.iload_n 2, 1) := by decide +kernel
theorem dX8_with_1 : decode cX8_with 1 = .ok (.ifCond .eq 11, 3) := by decide +kernel
theorem dX8_with_4 : decode cX8_with 4 = .ok (.iload_n 0, 1) := by decide +kernel
theorem dX8_with_5 : decode cX8_with 5 = .ok (.iconst 1, 1) := by decide +kernel
theorem dX8_with_6 : decode cX8_with 6 = .ok (.iload_n 1, 1) := by decide +kernel
theorem dX8_with_7 : decode cX8_with 7 = .ok (.ishl, 1) := by decide +kernel
theorem dX8_with_8 : decode cX8_with 8 = .ok (.ior, 1) := by decide +kernel
theorem dX8_with_9 : decode cX8_with 9 = .ok (.goto 10, 3) := by decide +kernel
theorem dX8_with_12 : decode cX8_with 12 = .ok (.iload_n 0, 1) := by decide +kernel
theorem dX8_with_13 : decode cX8_with 13 = .ok (.iconst 1, 1) := by decide +kernel
theorem dX8_with_14 : decode cX8_with 14 = .ok (.iload_n 1, 1) := by decide +kernel
theorem dX8_with_15 : decode cX8_with 15 = .ok (.ishl, 1) := by decide +kernel
theorem dX8_with_16 : decode cX8_with 16 = .ok (.iconst (-1), 1) := by decide +kernel
theorem dX8_with_17 : decode cX8_with 17 = .ok (.ixor, 1) := by decide +kernel
theorem dX8_with_18 : decode cX8_with 18 = .ok (.iand, 1) := by decide +kernel
theorem dX8_with_19 : decode cX8_with 19 = .ok (.ireturn, 1) := by decide +kernel
theorem dX8_elementAt_0 : decode cX8_elementAt 0 = .ok (.iconst 0, 1) := by decide +kernel
theorem dX8_elementAt_1 : decode cX8_elementAt 1 = .ok (.istore_n 2, 1) := by decide +kernel
theorem dX8_elementAt_2 : decode cX8_elementAt 2 = .ok (.iconst 0, 1) := by decide +kernel
theorem dX8_elementAt_3 : decode cX8_elementAt 3 = .ok (.istore_n 3, 1) := by decide +kernel
theorem dX8_elementAt_4 : decode cX8_elementAt 4 = .ok (.iload_n 3, 1) := by decide +kernel
theorem dX8_elementAt_5 : decode cX8_elementAt 5 = .ok (.bipush 12, 2) := by decide +kernel
theorem dX8_elementAt_7 : decode cX8_elementAt 7 = .ok (.if_icmp .ge 27, 3) := by decide +kernel
theorem dX8_elementAt_10 : decode cX8_elementAt 10 = .ok (.iload_n 0, 1) := by decide +kernel
theorem dX8_elementAt_11 : decode cX8_elementAt 11 = .ok (.iload_n 3, 1) := by decide +kernel
theorem dX8_elementAt_12 : decode cX8_elementAt 12 = .ok (.invokestatic 189, 3) := by decide +kernel
theorem dX8_elementAt_15 : decode cX8_elementAt 15 = .ok (.ifCond .eq 13, 3) := by decide +kernel
theorem dX8_elementAt_18 : decode cX8_elementAt 18 = .ok (.iload_n 2, 1) := by decide +kernel
theorem dX8_elementAt_19 : decode cX8_elementAt 19 = .ok (.iload_n 1, 1) := by decide +kernel
theorem dX8_elementAt_20 : decode cX8_elementAt 20 = .ok (.if_icmp .ne 5, 3) := by decide +kernel
theorem dX8_elementAt_23 : decode cX8_elementAt 23 = .ok (.iload_n 3, 1) := by decide +kernel
theorem dX8_elementAt_24 : decode cX8_elementAt 24 = .ok (.ireturn, 1) := by decide +kernel
theorem dX8_elementAt_25 : decode cX8_elementAt 25 = .ok (.iinc 2 1, 3) := by decide +kernel
theorem dX8_elementAt_28 : decode cX8_elementAt 28 = .ok (.iinc 3 1, 3) := by decide +kernel
theorem dX8_elementAt_31 : decode cX8_elementAt 31 = .ok (.goto (-27), 3) := by decide +kernel
theorem dX8_elementAt_34 : decode cX8_elementAt 34 = .ok (.iconst (-1), 1) := by decide +kernel
theorem dX8_elementAt_35 : decode cX8_elementAt 35 = .ok (.ireturn, 1) := by decide +kernel
theorem dX8_place_0 : decode cX8_place 0 = .ok (.iconst 0, 1) := by decide +kernel
theorem dX8_place_1 : decode cX8_place 1 = .ok (.istore_n 3, 1) := by decide +kernel
theorem dX8_place_2 : decode cX8_place 2 = .ok (.iload_n 3, 1) := by decide +kernel
theorem dX8_place_3 : decode cX8_place 3 = .ok (.iload_n 1, 1) := by decide +kernel
theorem dX8_place_4 : decode cX8_place 4 = .ok (.if_icmp .ge 18, 3) := by decide +kernel
theorem dX8_place_7 : decode cX8_place 7 = .ok (.aload_n 0, 1) := by decide +kernel
theorem dX8_place_8 : decode cX8_place 8 = .ok (.iload_n 3, 1) := by decide +kernel
theorem dX8_place_9 : decode cX8_place 9 = .ok (.iaload, 1) := by decide +kernel
theorem dX8_place_10 : decode cX8_place 10 = .ok (.iload_n 2, 1) := by decide +kernel
theorem dX8_place_11 : decode cX8_place 11 = .ok (.if_icmp .ne 5, 3) := by decide +kernel
theorem dX8_place_14 : decode cX8_place 14 = .ok (.iload_n 3, 1) := by decide +kernel
theorem dX8_place_15 : decode cX8_place 15 = .ok (.ireturn, 1) := by decide +kernel
theorem dX8_place_16 : decode cX8_place 16 = .ok (.iinc 3 1, 3) := by decide +kernel
theorem dX8_place_19 : decode cX8_place 19 = .ok (.goto (-17), 3) := by decide +kernel
theorem dX8_place_22 : decode cX8_place 22 = .ok (.iconst (-1), 1) := by decide +kernel
theorem dX8_place_23 : decode cX8_place 23 = .ok (.ireturn, 1) := by decide +kernel
theorem dX9_init_0 : decode cX9_init 0 = .ok (.aload_n 0, 1) := by decide +kernel
theorem dX9_init_1 : decode cX9_init 1 = .ok (.invokespecial 1, 3) := by decide +kernel
theorem dX9_init_4 : decode cX9_init 4 = .ok (.aload_n 0, 1) := by decide +kernel
theorem dX9_init_5 : decode cX9_init 5 = .ok (.bipush 92, 2) := by decide +kernel
theorem dX9_init_7 : decode cX9_init 7 = .ok (.newarray .int, 2) := by decide +kernel
theorem dX9_init_9 : decode cX9_init 9 = .ok (.putfield 7, 3) := by decide +kernel
theorem dX9_init_12 : decode cX9_init 12 = .ok (.aload_n 0, 1) := by decide +kernel
theorem dX9_init_13 : decode cX9_init 13 = .ok (.bipush 92, 2) := by decide +kernel
theorem dX9_init_15 : decode cX9_init 15 = .ok (.newarray .int, 2) := by decide +kernel
theorem dX9_init_17 : decode cX9_init 17 = .ok (.putfield 13, 3) := by decide +kernel
theorem dX9_init_20 : decode cX9_init 20 = .ok (.aload_n 0, 1) := by decide +kernel
theorem dX9_init_21 : decode cX9_init 21 = .ok (.sipush 920, 3) := by decide +kernel
theorem dX9_init_24 : decode cX9_init 24 = .ok (.newarray .int, 2) := by decide +kernel
theorem dX9_init_26 : decode cX9_init 26 = .ok (.putfield 16, 3) := by decide +kernel
theorem dX9_init_29 : decode cX9_init 29 = .ok (.aload_n 0, 1) := by decide +kernel
theorem dX9_init_30 : decode cX9_init 30 = .ok (.iconst 4, 1) := by decide +kernel
theorem dX9_init_31 : decode cX9_init 31 = .ok (.newarray .int, 2) := by decide +kernel
theorem dX9_init_33 : decode cX9_init 33 = .ok (.putfield 19, 3) := by decide +kernel
theorem dX9_init_36 : decode cX9_init 36 = .ok (.aload_n 0, 1) := by decide +kernel
theorem dX9_init_37 : decode cX9_init 37 = .ok (.bipush 12, 2) := by decide +kernel
theorem dX9_init_39 : decode cX9_init 39 = .ok (.newarray .int, 2) := by decide +kernel
theorem dX9_init_41 : decode cX9_init 41 = .ok (.putfield 22, 3) := by decide +kernel
theorem dX9_init_44 : decode cX9_init 44 = .ok (.aload_n 0, 1) := by decide +kernel
theorem dX9_init_45 : decode cX9_init 45 = .ok (.bipush 12, 2) := by decide +kernel
theorem dX9_init_47 : decode cX9_init 47 = .ok (.newarray .int, 2) := by decide +kernel
theorem dX9_init_49 : decode cX9_init 49 = .ok (.putfield 25, 3) := by decide +kernel
theorem dX9_init_52 : decode cX9_init 52 = .ok (.aload_n 0, 1) := by decide +kernel
theorem dX9_init_53 : decode cX9_init 53 = .ok (.iconst 4, 1) := by decide +kernel
theorem dX9_init_54 : decode cX9_init 54 = .ok (.newarray .int, 2) := by decide +kernel
theorem dX9_init_56 : decode cX9_init 56 = .ok (.putfield 28, 3) := by decide +kernel
theorem dX9_init_59 : decode cX9_init 59 = .ok (.aload_n 0, 1) := by decide +kernel
theorem dX9_init_60 : decode cX9_init 60 = .ok (.bipush 12, 2) := by decide +kernel
theorem dX9_init_62 : decode cX9_init 62 = .ok (.newarray .int, 2) := by decide +kernel
theorem dX9_init_64 : decode cX9_init 64 = .ok (.putfield 31, 3) := by decide +kernel
theorem dX9_init_67 : decode cX9_init 67 = .ok (.aload_n 0, 1) := by decide +kernel
theorem dX9_init_68 : decode cX9_init 68 = .ok (.bipush 12, 2) := by decide +kernel
theorem dX9_init_70 : decode cX9_init 70 = .ok (.newarray .int, 2) := by decide +kernel
theorem dX9_init_72 : decode cX9_init 72 = .ok (.putfield 34, 3) := by decide +kernel
theorem dX9_init_75 : decode cX9_init 75 = .ok (.aload_n 0, 1) := by decide +kernel
theorem dX9_init_76 : decode cX9_init 76 = .ok (.sipush 1200, 3) := by decide +kernel
theorem dX9_init_79 : decode cX9_init 79 = .ok (.newarray .byte, 2) := by decide +kernel
theorem dX9_init_81 : decode cX9_init 81 = .ok (.putfield 37, 3) := by decide +kernel
theorem dX9_init_84 : decode cX9_init 84 = .ok (.aload_n 0, 1) := by decide +kernel
theorem dX9_init_85 : decode cX9_init 85 = .ok (.iconst (-1), 1) := by decide +kernel
theorem dX9_init_86 : decode cX9_init 86 = .ok (.putfield 41, 3) := by decide +kernel
theorem dX9_init_89 : decode cX9_init 89 = .ok (.aload_n 0, 1) := by decide +kernel
theorem dX9_init_90 : decode cX9_init 90 = .ok (.bipush 96, 2) := by decide +kernel
theorem dX9_init_92 : decode cX9_init 92 = .ok (.newarray .int, 2) := by decide +kernel
theorem dX9_init_94 : decode cX9_init 94 = .ok (.putfield 45, 3) := by decide +kernel
theorem dX9_init_97 : decode cX9_init 97 = .ok (.aload_n 0, 1) := by decide +kernel
theorem dX9_init_98 : decode cX9_init 98 = .ok (.bipush 12, 2) := by decide +kernel
theorem dX9_init_100 : decode cX9_init 100 = .ok (.newarray .int, 2) := by decide +kernel
theorem dX9_init_102 : decode cX9_init 102 = .ok (.putfield 48, 3) := by decide +kernel
theorem dX9_init_105 : decode cX9_init 105 = .ok (.aload_n 0, 1) := by decide +kernel
theorem dX9_init_106 : decode cX9_init 106 = .ok (.bipush 12, 2) := by decide +kernel
theorem dX9_init_108 : decode cX9_init 108 = .ok (.newarray .int, 2) := by decide +kernel
theorem dX9_init_110 : decode cX9_init 110 = .ok (.putfield 51, 3) := by decide +kernel
theorem dX9_init_113 : decode cX9_init 113 = .ok (.aload_n 0, 1) := by decide +kernel
theorem dX9_init_114 : decode cX9_init 114 = .ok (.sipush 288, 3) := by decide +kernel
theorem dX9_init_117 : decode cX9_init 117 = .ok (.newarray .int, 2) := by decide +kernel
theorem dX9_init_119 : decode cX9_init 119 = .ok (.putfield 54, 3) := by decide +kernel
theorem dX9_init_122 : decode cX9_init 122 = .ok (.aload_n 0, 1) := by decide +kernel
theorem dX9_init_123 : decode cX9_init 123 = .ok (.bipush 48, 2) := by decide +kernel
theorem dX9_init_125 : decode cX9_init 125 = .ok (.newarray .int, 2) := by decide +kernel
theorem dX9_init_127 : decode cX9_init 127 = .ok (.putfield 57, 3) := by decide +kernel
theorem dX9_init_130 : decode cX9_init 130 = .ok (.aload_n 0, 1) := by decide +kernel
theorem dX9_init_131 : decode cX9_init 131 = .ok (.iconst 4, 1) := by decide +kernel
theorem dX9_init_132 : decode cX9_init 132 = .ok (.newarray .int, 2) := by decide +kernel
theorem dX9_init_134 : decode cX9_init 134 = .ok (.putfield 60, 3) := by decide +kernel
theorem dX9_init_137 : decode cX9_init 137 = .ok (.aload_n 0, 1) := by decide +kernel
theorem dX9_init_138 : decode cX9_init 138 = .ok (.bipush 12, 2) := by decide +kernel
theorem dX9_init_140 : decode cX9_init 140 = .ok (.putfield 63, 3) := by decide +kernel
theorem dX9_init_143 : decode cX9_init 143 = .ok (.aload_n 0, 1) := by decide +kernel
theorem dX9_init_144 : decode cX9_init 144 = .ok (.bipush 12, 2) := by decide +kernel
theorem dX9_init_146 : decode cX9_init 146 = .ok (.newarray .long, 2) := by decide +kernel
theorem dX9_init_148 : decode cX9_init 148 = .ok (.putfield 66, 3) := by decide +kernel
theorem dX9_init_151 : decode cX9_init 151 = .ok (.aload_n 0, 1) := by decide +kernel
theorem dX9_init_152 : decode cX9_init 152 = .ok (.bipush 24, 2) := by decide +kernel
theorem dX9_init_154 : decode cX9_init 154 = .ok (.newarray .int, 2) := by decide +kernel
theorem dX9_init_156 : decode cX9_init 156 = .ok (.putfield 70, 3) := by decide +kernel
theorem dX9_init_159 : decode cX9_init 159 = .ok (.aload_n 0, 1) := by decide +kernel
theorem dX9_init_160 : decode cX9_init 160 = .ok (.getfield 7, 3) := by decide +kernel
theorem dX9_init_163 : decode cX9_init 163 = .ok (.invokestatic 73, 3) := by decide +kernel
theorem dX9_init_166 : decode cX9_init 166 = .ok (.return_, 1) := by decide +kernel
theorem dX9_thrown_0 : decode cX9_thrown 0 = .ok (.aload_n 0, 1) := by decide +kernel
theorem dX9_thrown_1 : decode cX9_thrown 1 = .ok (.getfield 77, 3) := by decide +kernel
theorem dX9_thrown_4 : decode cX9_thrown 4 = .ok (.ireturn, 1) := by decide +kernel
theorem dX9_inRange_0 : decode cX9_inRange 0 = .ok (.iload_n 0, 1) := by decide +kernel
theorem dX9_inRange_1 : decode cX9_inRange 1 = .ok (.iload_n 1, 1) := by decide +kernel
theorem dX9_inRange_2 : decode cX9_inRange 2 = .ok (.if_icmp .lt 12, 3) := by decide +kernel
theorem dX9_inRange_5 : decode cX9_inRange 5 = .ok (.iload_n 0, 1) := by decide +kernel
theorem dX9_inRange_6 : decode cX9_inRange 6 = .ok (.iload_n 2, 1) := by decide +kernel
theorem dX9_inRange_7 : decode cX9_inRange 7 = .ok (.if_icmp .gt 7, 3) := by decide +kernel
theorem dX9_inRange_10 : decode cX9_inRange 10 = .ok (.iconst 1, 1) := by decide +kernel
theorem dX9_inRange_11 : decode cX9_inRange 11 = .ok (.goto 4, 3) := by decide +kernel
theorem dX9_inRange_14 : decode cX9_inRange 14 = .ok (.iconst 0, 1) := by decide +kernel
theorem dX9_inRange_15 : decode cX9_inRange 15 = .ok (.ireturn, 1) := by decide +kernel
theorem dX9_has_0 : decode cX9_has 0 = .ok (.iload_n 0, 1) := by decide +kernel
theorem dX9_has_1 : decode cX9_has 1 = .ok (.iload_n 1, 1) := by decide +kernel
theorem dX9_has_2 : decode cX9_has 2 = .ok (.ishr, 1) := by decide +kernel
theorem dX9_has_3 : decode cX9_has 3 = .ok (.iconst 1, 1) := by decide +kernel
theorem dX9_has_4 : decode cX9_has 4 = .ok (.iand, 1) := by decide +kernel
theorem dX9_has_5 : decode cX9_has 5 = .ok (.iconst 1, 1) := by decide +kernel
theorem dX9_has_6 : decode cX9_has 6 = .ok (.if_icmp .ne 7, 3) := by decide +kernel
theorem dX9_has_9 : decode cX9_has 9 = .ok (.iconst 1, 1) := by decide +kernel
theorem dX9_has_10 : decode cX9_has 10 = .ok (.goto 4, 3) := by decide +kernel
theorem dX9_has_13 : decode cX9_has 13 = .ok (.iconst 0, 1) := by decide +kernel
theorem dX9_has_14 : decode cX9_has 14 = .ok (.ireturn, 1) := by decide +kernel
theorem dX9_fails_0 : decode cX9_fails 0 = .ok (.aload_n 0, 1) := by decide +kernel
theorem dX9_fails_1 : decode cX9_fails 1 = .ok (.iload_n 1, 1) := by decide +kernel
theorem dX9_fails_2 : decode cX9_fails 2 = .ok (.ifCond .eq 7, 3) := by decide +kernel
theorem dX9_fails_5 : decode cX9_fails 5 = .ok (.iconst 0, 1) := by decide +kernel
theorem dX9_fails_6 : decode cX9_fails 6 = .ok (.goto 4, 3) := by decide +kernel
theorem dX9_fails_9 : decode cX9_fails 9 = .ok (.iconst 1, 1) := by decide +kernel
theorem dX9_fails_10 : decode cX9_fails 10 = .ok (.putfield 77, 3) := by decide +kernel
theorem dX9_fails_13 : decode cX9_fails 13 = .ok (.iload_n 1, 1) := by decide +kernel
theorem dX9_fails_14 : decode cX9_fails 14 = .ok (.ifCond .ne 7, 3) := by decide +kernel
theorem dX9_fails_17 : decode cX9_fails 17 = .ok (.iconst 1, 1) := by decide +kernel
theorem dX9_fails_18 : decode cX9_fails 18 = .ok (.goto 4, 3) := by decide +kernel
theorem dX9_fails_21 : decode cX9_fails 21 = .ok (.iconst 0, 1) := by decide +kernel
theorem dX9_fails_22 : decode cX9_fails 22 = .ok (.ireturn, 1) := by decide +kernel
theorem dX9_reset_0 : decode cX9_reset 0 = .ok (.iconst 0, 1) := by decide +kernel
theorem dX9_reset_1 : decode cX9_reset 1 = .ok (.istore_n 1, 1) := by decide +kernel
theorem dX9_reset_2 : decode cX9_reset 2 = .ok (.iload_n 1, 1) := by decide +kernel
theorem dX9_reset_3 : decode cX9_reset 3 = .ok (.bipush 92, 2) := by decide +kernel
theorem dX9_reset_5 : decode cX9_reset 5 = .ok (.if_icmp .ge 13, 3) := by decide +kernel
theorem dX9_reset_8 : decode cX9_reset 8 = .ok (.aload_n 0, 1) := by decide +kernel
theorem dX9_reset_9 : decode cX9_reset 9 = .ok (.iload_n 1, 1) := by decide +kernel
theorem dX9_reset_10 : decode cX9_reset 10 = .ok (.iconst 0, 1) := by decide +kernel
theorem dX9_reset_11 : decode cX9_reset 11 = .ok (.iastore, 1) := by decide +kernel
theorem dX9_reset_12 : decode cX9_reset 12 = .ok (.iinc 1 1, 3) := by decide +kernel
theorem dX9_reset_15 : decode cX9_reset 15 = .ok (.goto (-13), 3) := by decide +kernel
theorem dX9_reset_18 : decode cX9_reset 18 = .ok (.aload_n 0, 1) := by decide +kernel
theorem dX9_reset_19 : decode cX9_reset 19 = .ok (.iconst 2, 1) := by decide +kernel
theorem dX9_reset_20 : decode cX9_reset 20 = .ok (.bipush 10, 2) := by decide +kernel
theorem dX9_reset_22 : decode cX9_reset 22 = .ok (.iastore, 1) := by decide +kernel
theorem dX9_reset_23 : decode cX9_reset 23 = .ok (.return_, 1) := by decide +kernel
theorem dX9_leastOf_0 : decode cX9_leastOf 0 = .ok (.iload_n 0, 1) := by decide +kernel
theorem dX9_leastOf_1 : decode cX9_leastOf 1 = .ok (.iconst 2, 1) := by decide +kernel
theorem dX9_leastOf_2 : decode cX9_leastOf 2 = .ok (.if_icmp .ne 7, 3) := by decide +kernel
theorem dX9_leastOf_5 : decode cX9_leastOf 5 = .ok (.iconst 1, 1) := by decide +kernel
theorem dX9_leastOf_6 : decode cX9_leastOf 6 = .ok (.goto 4, 3) := by decide +kernel
theorem dX9_leastOf_9 : decode cX9_leastOf 9 = .ok (.iconst 0, 1) := by decide +kernel
theorem dX9_leastOf_10 : decode cX9_leastOf 10 = .ok (.ireturn, 1) := by decide +kernel
theorem dX9_mostOf_0 : decode cX9_mostOf 0 = .ok (.iload_n 0, 1) := by decide +kernel
theorem dX9_mostOf_1 : decode cX9_mostOf 1 = .ok (.iconst 2, 1) := by decide +kernel
theorem dX9_mostOf_2 : decode cX9_mostOf 2 = .ok (.if_icmp .ne 9, 3) := by decide +kernel
theorem dX9_mostOf_5 : decode cX9_mostOf 5 = .ok (.sipush 1000, 3) := by decide +kernel
theorem dX9_mostOf_8 : decode cX9_mostOf 8 = .ok (.goto 13, 3) := by decide +kernel
theorem dX9_mostOf_11 : decode cX9_mostOf 11 = .ok (.iload_n 0, 1) := by decide +kernel
theorem dX9_mostOf_12 : decode cX9_mostOf 12 = .ok (.iconst 1, 1) := by decide +kernel
theorem dX9_mostOf_13 : decode cX9_mostOf 13 = .ok (.if_icmp .ne 7, 3) := by decide +kernel
theorem dX9_mostOf_16 : decode cX9_mostOf 16 = .ok (.iconst 2, 1) := by decide +kernel
theorem dX9_mostOf_17 : decode cX9_mostOf 17 = .ok (.goto 4, 3) := by decide +kernel
theorem dX9_mostOf_20 : decode cX9_mostOf 20 = .ok (.iconst 1, 1) := by decide +kernel
theorem dX9_mostOf_21 : decode cX9_mostOf 21 = .ok (.ireturn, 1) := by decide +kernel
theorem dX9_remember_0 : decode cX9_remember 0 = .ok (.aload_n 0, 1) := by decide +kernel
theorem dX9_remember_1 : decode cX9_remember 1 = .ok (.getfield 80, 3) := by decide +kernel
theorem dX9_remember_4 : decode cX9_remember 4 = .ok (.bipush 10, 2) := by decide +kernel
theorem dX9_remember_6 : decode cX9_remember 6 = .ok (.if_icmp .ne 44, 3) := by decide +kernel
theorem dX9_remember_9 : decode cX9_remember 9 = .ok (.bipush 92, 2) := by decide +kernel
theorem dX9_remember_11 : decode cX9_remember 11 = .ok (.istore_n 1, 1) := by decide +kernel
theorem dX9_remember_12 : decode cX9_remember 12 = .ok (.iload_n 1, 1) := by decide +kernel
theorem dX9_remember_13 : decode cX9_remember 13 = .ok (.sipush 920, 3) := by decide +kernel
theorem dX9_remember_16 : decode cX9_remember 16 = .ok (.if_icmp .ge 24, 3) := by decide +kernel
theorem dX9_remember_19 : decode cX9_remember 19 = .ok (.aload_n 0, 1) := by decide +kernel
theorem dX9_remember_20 : decode cX9_remember 20 = .ok (.getfield 16, 3) := by decide +kernel
theorem dX9_remember_23 : decode cX9_remember 23 = .ok (.iload_n 1, 1) := by decide +kernel
theorem dX9_remember_24 : decode cX9_remember 24 = .ok (.bipush 92, 2) := by decide +kernel
theorem dX9_remember_26 : decode cX9_remember 26 = .ok (.isub, 1) := by decide +kernel
theorem dX9_remember_27 : decode cX9_remember 27 = .ok (.aload_n 0, 1) := by decide +kernel
theorem dX9_remember_28 : decode cX9_remember 28 = .ok (.getfield 16, 3) := by decide +kernel
theorem dX9_remember_31 : decode cX9_remember 31 = .ok (.iload_n 1, 1) := by decide +kernel
theorem dX9_remember_32 : decode cX9_remember 32 = .ok (.iaload, 1) := by decide +kernel
theorem dX9_remember_33 : decode cX9_remember 33 = .ok (.iastore, 1) := by decide +kernel
theorem dX9_remember_34 : decode cX9_remember 34 = .ok (.iinc 1 1, 3) := by decide +kernel
theorem dX9_remember_37 : decode cX9_remember 37 = .ok (.goto (-25), 3) := by decide +kernel
theorem dX9_remember_40 : decode cX9_remember 40 = .ok (.aload_n 0, 1) := by decide +kernel
theorem dX9_remember_41 : decode cX9_remember 41 = .ok (.dup, 1) := by decide +kernel
theorem dX9_remember_42 : decode cX9_remember 42 = .ok (.getfield 80, 3) := by decide +kernel
theorem dX9_remember_45 : decode cX9_remember 45 = .ok (.iconst 1, 1) := by decide +kernel
theorem dX9_remember_46 : decode cX9_remember 46 = .ok (.isub, 1) := by decide +kernel
theorem dX9_remember_47 : decode cX9_remember 47 = .ok (.putfield 80, 3) := by decide +kernel
theorem dX9_remember_50 : decode cX9_remember 50 = .ok (.iconst 0, 1) := by decide +kernel
theorem dX9_remember_51 : decode cX9_remember 51 = .ok (.istore_n 1, 1) := by decide +kernel
theorem dX9_remember_52 : decode cX9_remember 52 = .ok (.iload_n 1, 1) := by decide +kernel
theorem dX9_remember_53 : decode cX9_remember 53 = .ok (.bipush 92, 2) := by decide +kernel
theorem dX9_remember_55 : decode cX9_remember 55 = .ok (.if_icmp .ge 29, 3) := by decide +kernel
theorem dX9_remember_58 : decode cX9_remember 58 = .ok (.aload_n 0, 1) := by decide +kernel
theorem dX9_remember_59 : decode cX9_remember 59 = .ok (.getfield 16, 3) := by decide +kernel
theorem dX9_remember_62 : decode cX9_remember 62 = .ok (.aload_n 0, 1) := by decide +kernel
theorem dX9_remember_63 : decode cX9_remember 63 = .ok (.getfield 80, 3) := by decide +kernel
theorem dX9_remember_66 : decode cX9_remember 66 = .ok (.bipush 92, 2) := by decide +kernel
theorem dX9_remember_68 : decode cX9_remember 68 = .ok (.imul, 1) := by decide +kernel
theorem dX9_remember_69 : decode cX9_remember 69 = .ok (.iload_n 1, 1) := by decide +kernel
theorem dX9_remember_70 : decode cX9_remember 70 = .ok (.iadd, 1) := by decide +kernel
theorem dX9_remember_71 : decode cX9_remember 71 = .ok (.aload_n 0, 1) := by decide +kernel
theorem dX9_remember_72 : decode cX9_remember 72 = .ok (.getfield 7, 3) := by decide +kernel
theorem dX9_remember_75 : decode cX9_remember 75 = .ok (.iload_n 1, 1) := by decide +kernel
theorem dX9_remember_76 : decode cX9_remember 76 = .ok (.iaload, 1) := by decide +kernel
theorem dX9_remember_77 : decode cX9_remember 77 = .ok (.iastore, 1) := by decide +kernel
theorem dX9_remember_78 : decode cX9_remember 78 = .ok (.iinc 1 1, 3) := by decide +kernel
theorem dX9_remember_81 : decode cX9_remember 81 = .ok (.goto (-29), 3) := by decide +kernel
theorem dX9_remember_84 : decode cX9_remember 84 = .ok (.aload_n 0, 1) := by decide +kernel
theorem dX9_remember_85 : decode cX9_remember 85 = .ok (.dup, 1) := by decide +kernel
theorem dX9_remember_86 : decode cX9_remember 86 = .ok (.getfield 80, 3) := by decide +kernel
theorem dX9_remember_89 : decode cX9_remember 89 = .ok (.iconst 1, 1) := by decide +kernel
theorem dX9_remember_90 : decode cX9_remember 90 = .ok (.iadd, 1) := by decide +kernel
theorem dX9_remember_91 : decode cX9_remember 91 = .ok (.putfield 80, 3) := by decide +kernel
theorem dX9_remember_94 : decode cX9_remember 94 = .ok (.return_, 1) := by decide +kernel
theorem dX9_undo_0 : decode cX9_undo 0 = .ok (.aload_n 0, 1) := by decide +kernel
theorem dX9_undo_1 : decode cX9_undo 1 = .ok (.iconst 0, 1) := by decide +kernel
theorem dX9_undo_2 : decode cX9_undo 2 = .ok (.putfield 77, 3) := by decide +kernel
theorem dX9_undo_5 : decode cX9_undo 5 = .ok (.aload_n 0, 1) := by decide +kernel
theorem dX9_undo_6 : decode cX9_undo 6 = .ok (.getfield 80, 3) := by decide +kernel
theorem dX9_undo_9 : decode cX9_undo 9 = .ok (.ifCond .ne 5, 3) := by decide +kernel
theorem dX9_undo_12 : decode cX9_undo 12 = .ok (.iconst (-1), 1) := by decide +kernel
theorem dX9_undo_13 : decode cX9_undo 13 = .ok (.ireturn, 1) := by decide +kernel
theorem dX9_undo_14 : decode cX9_undo 14 = .ok (.aload_n 0, 1) := by decide +kernel
theorem dX9_undo_15 : decode cX9_undo 15 = .ok (.dup, 1) := by decide +kernel
theorem dX9_undo_16 : decode cX9_undo 16 = .ok (.getfield 80, 3) := by decide +kernel
theorem dX9_undo_19 : decode cX9_undo 19 = .ok (.iconst 1, 1) := by decide +kernel
theorem dX9_undo_20 : decode cX9_undo 20 = .ok (.isub, 1) := by decide +kernel
theorem dX9_undo_21 : decode cX9_undo 21 = .ok (.putfield 80, 3) := by decide +kernel
theorem dX9_undo_24 : decode cX9_undo 24 = .ok (.iconst 0, 1) := by decide +kernel
theorem dX9_undo_25 : decode cX9_undo 25 = .ok (.istore_n 1, 1) := by decide +kernel
theorem dX9_undo_26 : decode cX9_undo 26 = .ok (.iload_n 1, 1) := by decide +kernel
theorem dX9_undo_27 : decode cX9_undo 27 = .ok (.bipush 92, 2) := by decide +kernel
theorem dX9_undo_29 : decode cX9_undo 29 = .ok (.if_icmp .ge 29, 3) := by decide +kernel
theorem dX9_undo_32 : decode cX9_undo 32 = .ok (.aload_n 0, 1) := by decide +kernel
theorem dX9_undo_33 : decode cX9_undo 33 = .ok (.getfield 7, 3) := by decide +kernel
theorem dX9_undo_36 : decode cX9_undo 36 = .ok (.iload_n 1, 1) := by decide +kernel
theorem dX9_undo_37 : decode cX9_undo 37 = .ok (.aload_n 0, 1) := by decide +kernel
theorem dX9_undo_38 : decode cX9_undo 38 = .ok (.getfield 16, 3) := by decide +kernel
theorem dX9_undo_41 : decode cX9_undo 41 = .ok (.aload_n 0, 1) := by decide +kernel
theorem dX9_undo_42 : decode cX9_undo 42 = .ok (.getfield 80, 3) := by decide +kernel
theorem dX9_undo_45 : decode cX9_undo 45 = .ok (.bipush 92, 2) := by decide +kernel
theorem dX9_undo_47 : decode cX9_undo 47 = .ok (.imul, 1) := by decide +kernel
theorem dX9_undo_48 : decode cX9_undo 48 = .ok (.iload_n 1, 1) := by decide +kernel
theorem dX9_undo_49 : decode cX9_undo 49 = .ok (.iadd, 1) := by decide +kernel
theorem dX9_undo_50 : decode cX9_undo 50 = .ok (.iaload, 1) := by decide +kernel
theorem dX9_undo_51 : decode cX9_undo 51 = .ok (.iastore, 1) := by decide +kernel
theorem dX9_undo_52 : decode cX9_undo 52 = .ok (.iinc 1 1, 3) := by decide +kernel
theorem dX9_undo_55 : decode cX9_undo 55 = .ok (.goto (-29), 3) := by decide +kernel
theorem dX9_undo_58 : decode cX9_undo 58 = .ok (.aload_n 0, 1) := by decide +kernel
theorem dX9_undo_59 : decode cX9_undo 59 = .ok (.getfield 80, 3) := by decide +kernel
theorem dX9_undo_62 : decode cX9_undo 62 = .ok (.ireturn, 1) := by decide +kernel
theorem dX9_undoCount_0 : decode cX9_undoCount 0 = .ok (.aload_n 0, 1) := by decide +kernel
theorem dX9_undoCount_1 : decode cX9_undoCount 1 = .ok (.iconst 0, 1) := by decide +kernel
theorem dX9_undoCount_2 : decode cX9_undoCount 2 = .ok (.putfield 77, 3) := by decide +kernel
theorem dX9_undoCount_5 : decode cX9_undoCount 5 = .ok (.aload_n 0, 1) := by decide +kernel
theorem dX9_undoCount_6 : decode cX9_undoCount 6 = .ok (.getfield 80, 3) := by decide +kernel
theorem dX9_undoCount_9 : decode cX9_undoCount 9 = .ok (.ireturn, 1) := by decide +kernel
theorem dX9_append_0 : decode cX9_append 0 = .ok (.bipush 24, 2) := by decide +kernel
theorem dX9_append_2 : decode cX9_append 2 = .ok (.istore_n 2, 1) := by decide +kernel
theorem dX9_append_3 : decode cX9_append 3 = .ok (.iload_n 2, 1) := by decide +kernel
theorem dX9_append_4 : decode cX9_append 4 = .ok (.ifCond .lt 32, 3) := by decide +kernel
theorem dX9_append_7 : decode cX9_append 7 = .ok (.aload_n 0, 1) := by decide +kernel
theorem dX9_append_8 : decode cX9_append 8 = .ok (.getfield 37, 3) := by decide +kernel
theorem dX9_append_11 : decode cX9_append 11 = .ok (.aload_n 0, 1) := by decide +kernel
theorem dX9_append_12 : decode cX9_append 12 = .ok (.getfield 83, 3) := by decide +kernel
theorem dX9_append_15 : decode cX9_append 15 = .ok (.iload_n 1, 1) := by decide +kernel
theorem dX9_append_16 : decode cX9_append 16 = .ok (.iload_n 2, 1) := by decide +kernel
theorem dX9_append_17 : decode cX9_append 17 = .ok (.ishr, 1) := by decide +kernel
theorem dX9_append_18 : decode cX9_append 18 = .ok (.i2b, 1) := by decide +kernel
theorem dX9_append_19 : decode cX9_append 19 = .ok (.bastore, 1) := by decide +kernel
theorem dX9_append_20 : decode cX9_append 20 = .ok (.aload_n 0, 1) := by decide +kernel
theorem dX9_append_21 : decode cX9_append 21 = .ok (.dup, 1) := by decide +kernel
theorem dX9_append_22 : decode cX9_append 22 = .ok (.getfield 83, 3) := by decide +kernel
theorem dX9_append_25 : decode cX9_append 25 = .ok (.iconst 1, 1) := by decide +kernel
theorem dX9_append_26 : decode cX9_append 26 = .ok (.iadd, 1) := by decide +kernel
theorem dX9_append_27 : decode cX9_append 27 = .ok (.putfield 83, 3) := by decide +kernel
theorem dX9_append_30 : decode cX9_append 30 = .ok (.iinc 2 (-8), 3) := by decide +kernel
theorem dX9_append_33 : decode cX9_append 33 = .ok (.goto (-30), 3) := by decide +kernel
theorem dX9_append_36 : decode cX9_append 36 = .ok (.return_, 1) := by decide +kernel
theorem dX9_feed_0 : decode cX9_feed 0 = .ok (.aload_n 0, 1) := by decide +kernel
theorem dX9_feed_1 : decode cX9_feed 1 = .ok (.iconst 0, 1) := by decide +kernel
theorem dX9_feed_2 : decode cX9_feed 2 = .ok (.putfield 77, 3) := by decide +kernel
theorem dX9_feed_5 : decode cX9_feed 5 = .ok (.aload_n 0, 1) := by decide +kernel
theorem dX9_feed_6 : decode cX9_feed 6 = .ok (.getfield 83, 3) := by decide +kernel
theorem dX9_feed_9 : decode cX9_feed 9 = .ok (.bipush 20, 2) := by decide +kernel
theorem dX9_feed_11 : decode cX9_feed 11 = .ok (.iadd, 1) := by decide +kernel
theorem dX9_feed_12 : decode cX9_feed 12 = .ok (.sipush 1200, 3) := by decide +kernel
theorem dX9_feed_15 : decode cX9_feed 15 = .ok (.if_icmp .le 6, 3) := by decide +kernel
theorem dX9_feed_18 : decode cX9_feed 18 = .ok (.bipush (-3), 2) := by decide +kernel
theorem dX9_feed_20 : decode cX9_feed 20 = .ok (.ireturn, 1) := by decide +kernel
theorem dX9_feed_21 : decode cX9_feed 21 = .ok (.aload_n 0, 1) := by decide +kernel
theorem dX9_feed_22 : decode cX9_feed 22 = .ok (.iload_n 1, 1) := by decide +kernel
theorem dX9_feed_23 : decode cX9_feed 23 = .ok (.invokevirtual 86, 3) := by decide +kernel
theorem dX9_feed_26 : decode cX9_feed 26 = .ok (.aload_n 0, 1) := by decide +kernel
theorem dX9_feed_27 : decode cX9_feed 27 = .ok (.iload_n 2, 1) := by decide +kernel
theorem dX9_feed_28 : decode cX9_feed 28 = .ok (.invokevirtual 86, 3) := by decide +kernel
theorem dX9_feed_31 : decode cX9_feed 31 = .ok (.aload_n 0, 1) := by decide +kernel
theorem dX9_feed_32 : decode cX9_feed 32 = .ok (.iload_n 3, 1) := by decide +kernel
theorem dX9_feed_33 : decode cX9_feed 33 = .ok (.invokevirtual 86, 3) := by decide +kernel
theorem dX9_feed_36 : decode cX9_feed 36 = .ok (.aload_n 0, 1) := by decide +kernel
theorem dX9_feed_37 : decode cX9_feed 37 = .ok (.iload 4, 2) := by decide +kernel
theorem dX9_feed_39 : decode cX9_feed 39 = .ok (.invokevirtual 86, 3) := by decide +kernel
theorem dX9_feed_42 : decode cX9_feed 42 = .ok (.aload_n 0, 1) := by decide +kernel
theorem dX9_feed_43 : decode cX9_feed 43 = .ok (.iload 5, 2) := by decide +kernel
theorem dX9_feed_45 : decode cX9_feed 45 = .ok (.invokevirtual 86, 3) := by decide +kernel
theorem dX9_feed_48 : decode cX9_feed 48 = .ok (.aload_n 0, 1) := by decide +kernel
theorem dX9_feed_49 : decode cX9_feed 49 = .ok (.getfield 83, 3) := by decide +kernel
theorem dX9_feed_52 : decode cX9_feed 52 = .ok (.ireturn, 1) := by decide +kernel
theorem dX9_errorPosition_0 : decode cX9_errorPosition 0 = .ok (.aload_n 0, 1) := by decide +kernel
theorem dX9_errorPosition_1 : decode cX9_errorPosition 1 = .ok (.iconst 0, 1) := by decide +kernel
theorem dX9_errorPosition_2 : decode cX9_errorPosition 2 = .ok (.putfield 77, 3) := by decide +kernel
theorem dX9_errorPosition_5 : decode cX9_errorPosition 5 = .ok (.aload_n 0, 1) := by decide +kernel
theorem dX9_errorPosition_6 : decode cX9_errorPosition 6 = .ok (.getfield 41, 3) := by decide +kernel
theorem dX9_errorPosition_9 : decode cX9_errorPosition 9 = .ok (.ireturn, 1) := by decide +kernel
theorem dX9_peek_0 : decode cX9_peek 0 = .ok (.aload_n 0, 1) := by decide +kernel
theorem dX9_peek_1 : decode cX9_peek 1 = .ok (.getfield 90, 3) := by decide +kernel
theorem dX9_peek_4 : decode cX9_peek 4 = .ok (.aload_n 0, 1) := by decide +kernel
theorem dX9_peek_5 : decode cX9_peek 5 = .ok (.getfield 93, 3) := by decide +kernel
theorem dX9_peek_8 : decode cX9_peek 8 = .ok (.if_icmp .ge 19, 3) := by decide +kernel
theorem dX9_peek_11 : decode cX9_peek 11 = .ok (.aload_n 0, 1) := by decide +kernel
theorem dX9_peek_12 : decode cX9_peek 12 = .ok (.getfield 37, 3) := by decide +kernel
theorem dX9_peek_15 : decode cX9_peek 15 = .ok (.aload_n 0, 1) := by decide +kernel
theorem dX9_peek_16 : decode cX9_peek 16 = .ok (.getfield 90, 3) := by decide +kernel
theorem dX9_peek_19 : decode cX9_peek 19 = .ok (.baload, 1) := by decide +kernel
theorem dX9_peek_20 : decode cX9_peek 20 = .ok (.sipush 255, 3) := by decide +kernel
theorem dX9_peek_23 : decode cX9_peek 23 = .ok (.iand, 1) := by decide +kernel
theorem dX9_peek_24 : decode cX9_peek 24 = .ok (.goto 4, 3) := by decide +kernel
theorem dX9_peek_27 : decode cX9_peek 27 = .ok (.iconst (-1), 1) := by decide +kernel
theorem dX9_peek_28 : decode cX9_peek 28 = .ok (.ireturn, 1) := by decide +kernel
theorem dX9_advance_0 : decode cX9_advance 0 = .ok (.aload_n 0, 1) := by decide +kernel
theorem dX9_advance_1 : decode cX9_advance 1 = .ok (.invokevirtual 96, 3) := by decide +kernel
theorem dX9_advance_4 : decode cX9_advance 4 = .ok (.bipush 32, 2) := by decide +kernel
theorem dX9_advance_6 : decode cX9_advance 6 = .ok (.if_icmp .eq 12, 3) := by decide +kernel
theorem dX9_advance_9 : decode cX9_advance 9 = .ok (.aload_n 0, 1) := by decide +kernel
theorem dX9_advance_10 : decode cX9_advance 10 = .ok (.invokevirtual 96, 3) := by decide +kernel
theorem dX9_advance_13 : decode cX9_advance 13 = .ok (.bipush 10, 2) := by decide +kernel
theorem dX9_advance_15 : decode cX9_advance 15 = .ok (.if_icmp .ne 16, 3) := by decide +kernel
theorem dX9_advance_18 : decode cX9_advance 18 = .ok (.aload_n 0, 1) := by decide +kernel
theorem dX9_advance_19 : decode cX9_advance 19 = .ok (.dup, 1) := by decide +kernel
theorem dX9_advance_20 : decode cX9_advance 20 = .ok (.getfield 90, 3) := by decide +kernel
theorem dX9_advance_23 : decode cX9_advance 23 = .ok (.iconst 1, 1) := by decide +kernel
theorem dX9_advance_24 : decode cX9_advance 24 = .ok (.iadd, 1) := by decide +kernel
theorem dX9_advance_25 : decode cX9_advance 25 = .ok (.putfield 90, 3) := by decide +kernel
theorem dX9_advance_28 : decode cX9_advance 28 = .ok (.goto (-28), 3) := by decide +kernel
theorem dX9_advance_31 : decode cX9_advance 31 = .ok (.aload_n 0, 1) := by decide +kernel
theorem dX9_advance_32 : decode cX9_advance 32 = .ok (.aload_n 0, 1) := by decide +kernel
theorem dX9_advance_33 : decode cX9_advance 33 = .ok (.getfield 90, 3) := by decide +kernel
theorem dX9_advance_36 : decode cX9_advance 36 = .ok (.putfield 100, 3) := by decide +kernel
theorem dX9_advance_39 : decode cX9_advance 39 = .ok (.aload_n 0, 1) := by decide +kernel
theorem dX9_advance_40 : decode cX9_advance 40 = .ok (.lconst 0, 1) := by decide +kernel
theorem dX9_advance_41 : decode cX9_advance 41 = .ok (.putfield 103, 3) := by decide +kernel
theorem dX9_advance_44 : decode cX9_advance 44 = .ok (.aload_n 0, 1) := by decide +kernel
theorem dX9_advance_45 : decode cX9_advance 45 = .ok (.iconst 0, 1) := by decide +kernel
theorem dX9_advance_46 : decode cX9_advance 46 = .ok (.putfield 107, 3) := by decide +kernel
theorem dX9_advance_49 : decode cX9_advance 49 = .ok (.aload_n 0, 1) := by decide +kernel
theorem dX9_advance_50 : decode cX9_advance 50 = .ok (.invokevirtual 96, 3) := by decide +kernel
theorem dX9_advance_53 : decode cX9_advance 53 = .ok (.istore_n 1, 1) := by decide +kernel
theorem dX9_advance_54 : decode cX9_advance 54 = .ok (.iload_n 1, 1) := by decide +kernel
theorem dX9_advance_55 : decode cX9_advance 55 = .ok (.ifCond .ge 11, 3) := by decide +kernel
theorem dX9_advance_58 : decode cX9_advance 58 = .ok (.aload_n 0, 1) := by decide +kernel
theorem dX9_advance_59 : decode cX9_advance 59 = .ok (.iconst 0, 1) := by decide +kernel
theorem dX9_advance_60 : decode cX9_advance 60 = .ok (.putfield 110, 3) := by decide +kernel
theorem dX9_advance_63 : decode cX9_advance 63 = .ok (.goto 206, 3) := by decide +kernel
theorem dX9_advance_66 : decode cX9_advance 66 = .ok (.iload_n 1, 1) := by decide +kernel
theorem dX9_advance_67 : decode cX9_advance 67 = .ok (.bipush 97, 2) := by decide +kernel
theorem dX9_advance_69 : decode cX9_advance 69 = .ok (.bipush 122, 2) := by decide +kernel
theorem dX9_advance_71 : decode cX9_advance 71 = .ok (.invokestatic 113, 3) := by decide +kernel
theorem dX9_advance_74 : decode cX9_advance 74 = .ok (.ifCond .eq 94, 3) := by decide +kernel
theorem dX9_advance_77 : decode cX9_advance 77 = .ok (.aload_n 0, 1) := by decide +kernel
theorem dX9_advance_78 : decode cX9_advance 78 = .ok (.iconst 1, 1) := by decide +kernel
theorem dX9_advance_79 : decode cX9_advance 79 = .ok (.putfield 110, 3) := by decide +kernel
theorem dX9_advance_82 : decode cX9_advance 82 = .ok (.aload_n 0, 1) := by decide +kernel
theorem dX9_advance_83 : decode cX9_advance 83 = .ok (.invokevirtual 96, 3) := by decide +kernel
theorem dX9_advance_86 : decode cX9_advance 86 = .ok (.bipush 97, 2) := by decide +kernel
theorem dX9_advance_88 : decode cX9_advance 88 = .ok (.bipush 122, 2) := by decide +kernel
theorem dX9_advance_90 : decode cX9_advance 90 = .ok (.invokestatic 113, 3) := by decide +kernel
theorem dX9_advance_93 : decode cX9_advance 93 = .ok (.ifCond .eq 53, 3) := by decide +kernel
theorem dX9_advance_96 : decode cX9_advance 96 = .ok (.aload_n 0, 1) := by decide +kernel
theorem dX9_advance_97 : decode cX9_advance 97 = .ok (.aload_n 0, 1) := by decide +kernel
theorem dX9_advance_98 : decode cX9_advance 98 = .ok (.getfield 90, 3) := by decide +kernel
theorem dX9_advance_101 : decode cX9_advance 101 = .ok (.aload_n 0, 1) := by decide +kernel
theorem dX9_advance_102 : decode cX9_advance 102 = .ok (.getfield 100, 3) := by decide +kernel
theorem dX9_advance_105 : decode cX9_advance 105 = .ok (.isub, 1) := by decide +kernel
theorem dX9_advance_106 : decode cX9_advance 106 = .ok (.bipush 12, 2) := by decide +kernel
theorem dX9_advance_108 : decode cX9_advance 108 = .ok (.if_icmp .ge 21, 3) := by decide +kernel
theorem dX9_advance_111 : decode cX9_advance 111 = .ok (.aload_n 0, 1) := by decide +kernel
theorem dX9_advance_112 : decode cX9_advance 112 = .ok (.getfield 103, 3) := by decide +kernel
theorem dX9_advance_115 : decode cX9_advance 115 = .ok (.iconst 5, 1) := by decide +kernel
theorem dX9_advance_116 : decode cX9_advance 116 = .ok (.lshl, 1) := by decide +kernel
theorem dX9_advance_117 : decode cX9_advance 117 = .ok (.aload_n 0, 1) := by decide +kernel
theorem dX9_advance_118 : decode cX9_advance 118 = .ok (.invokevirtual 96, 3) := by decide +kernel
theorem dX9_advance_121 : decode cX9_advance 121 = .ok (.bipush 96, 2) := by decide +kernel
theorem dX9_advance_123 : decode cX9_advance 123 = .ok (.isub, 1) := by decide +kernel
theorem dX9_advance_124 : decode cX9_advance 124 = .ok (.i2l, 1) := by decide +kernel
theorem dX9_advance_125 : decode cX9_advance 125 = .ok (.lor, 1) := by decide +kernel
theorem dX9_advance_126 : decode cX9_advance 126 = .ok (.goto 4, 3) := by decide +kernel
theorem dX9_advance_129 : decode cX9_advance 129 = .ok (.lconst 0, 1) := by decide +kernel
theorem dX9_advance_130 : decode cX9_advance 130 = .ok (.putfield 103, 3) := by decide +kernel
theorem dX9_advance_133 : decode cX9_advance 133 = .ok (.aload_n 0, 1) := by decide +kernel
theorem dX9_advance_134 : decode cX9_advance 134 = .ok (.dup, 1) := by decide +kernel
theorem dX9_advance_135 : decode cX9_advance 135 = .ok (.getfield 90, 3) := by decide +kernel
theorem dX9_advance_138 : decode cX9_advance 138 = .ok (.iconst 1, 1) := by decide +kernel
theorem dX9_advance_139 : decode cX9_advance 139 = .ok (.iadd, 1) := by decide +kernel
theorem dX9_advance_140 : decode cX9_advance 140 = .ok (.putfield 90, 3) := by decide +kernel
theorem dX9_advance_143 : decode cX9_advance 143 = .ok (.goto (-61), 3) := by decide +kernel
theorem dX9_advance_146 : decode cX9_advance 146 = .ok (.aload_n 0, 1) := by decide +kernel
theorem dX9_advance_147 : decode cX9_advance 147 = .ok (.getfield 90, 3) := by decide +kernel
theorem dX9_advance_150 : decode cX9_advance 150 = .ok (.aload_n 0, 1) := by decide +kernel
theorem dX9_advance_151 : decode cX9_advance 151 = .ok (.getfield 100, 3) := by decide +kernel
theorem dX9_advance_154 : decode cX9_advance 154 = .ok (.isub, 1) := by decide +kernel
theorem dX9_advance_155 : decode cX9_advance 155 = .ok (.bipush 12, 2) := by decide +kernel
theorem dX9_advance_157 : decode cX9_advance 157 = .ok (.if_icmp .le 112, 3) := by decide +kernel
theorem dX9_advance_160 : decode cX9_advance 160 = .ok (.aload_n 0, 1) := by decide +kernel
theorem dX9_advance_161 : decode cX9_advance 161 = .ok (.lconst 0, 1) := by decide +kernel
theorem dX9_advance_162 : decode cX9_advance 162 = .ok (.putfield 103, 3) := by decide +kernel
theorem dX9_advance_165 : decode cX9_advance 165 = .ok (.goto 104, 3) := by decide +kernel
theorem dX9_advance_168 : decode cX9_advance 168 = .ok (.iload_n 1, 1) := by decide +kernel
theorem dX9_advance_169 : decode cX9_advance 169 = .ok (.bipush 48, 2) := by decide +kernel
theorem dX9_advance_171 : decode cX9_advance 171 = .ok (.bipush 57, 2) := by decide +kernel
theorem dX9_advance_173 : decode cX9_advance 173 = .ok (.invokestatic 113, 3) := by decide +kernel
theorem dX9_advance_176 : decode cX9_advance 176 = .ok (.ifCond .eq 68, 3) := by decide +kernel
theorem dX9_advance_179 : decode cX9_advance 179 = .ok (.aload_n 0, 1) := by decide +kernel
theorem dX9_advance_180 : decode cX9_advance 180 = .ok (.iconst 2, 1) := by decide +kernel
theorem dX9_advance_181 : decode cX9_advance 181 = .ok (.putfield 110, 3) := by decide +kernel
theorem dX9_advance_184 : decode cX9_advance 184 = .ok (.aload_n 0, 1) := by decide +kernel
theorem dX9_advance_185 : decode cX9_advance 185 = .ok (.invokevirtual 96, 3) := by decide +kernel
theorem dX9_advance_188 : decode cX9_advance 188 = .ok (.bipush 48, 2) := by decide +kernel
theorem dX9_advance_190 : decode cX9_advance 190 = .ok (.bipush 57, 2) := by decide +kernel
theorem dX9_advance_192 : decode cX9_advance 192 = .ok (.invokestatic 113, 3) := by decide +kernel
theorem dX9_advance_195 : decode cX9_advance 195 = .ok (.ifCond .eq 74, 3) := by decide +kernel
theorem dX9_advance_198 : decode cX9_advance 198 = .ok (.aload_n 0, 1) := by decide +kernel
theorem dX9_advance_199 : decode cX9_advance 199 = .ok (.aload_n 0, 1) := by decide +kernel
theorem dX9_advance_200 : decode cX9_advance 200 = .ok (.getfield 107, 3) := by decide +kernel
theorem dX9_advance_203 : decode cX9_advance 203 = .ok (.ldc 117, 2) := by decide +kernel
theorem dX9_advance_205 : decode cX9_advance 205 = .ok (.if_icmp .le 8, 3) := by decide +kernel
theorem dX9_advance_208 : decode cX9_advance 208 = .ok (.ldc 118, 2) := by decide +kernel
theorem dX9_advance_210 : decode cX9_advance 210 = .ok (.goto 18, 3) := by decide +kernel
theorem dX9_advance_213 : decode cX9_advance 213 = .ok (.bipush 10, 2) := by decide +kernel
theorem dX9_advance_215 : decode cX9_advance 215 = .ok (.aload_n 0, 1) := by decide +kernel
theorem dX9_advance_216 : decode cX9_advance 216 = .ok (.getfield 107, 3) := by decide +kernel
theorem dX9_advance_219 : decode cX9_advance 219 = .ok (.imul, 1) := by decide +kernel
theorem dX9_advance_220 : decode cX9_advance 220 = .ok (.aload_n 0, 1) := by decide +kernel
theorem dX9_advance_221 : decode cX9_advance 221 = .ok (.invokevirtual 96, 3) := by decide +kernel
theorem dX9_advance_224 : decode cX9_advance 224 = .ok (.iadd, 1) := by decide +kernel
theorem dX9_advance_225 : decode cX9_advance 225 = .ok (.bipush 48, 2) := by decide +kernel
theorem dX9_advance_227 : decode cX9_advance 227 = .ok (.isub, 1) := by decide +kernel
theorem dX9_advance_228 : decode cX9_advance 228 = .ok (.putfield 107, 3) := by decide +kernel
theorem dX9_advance_231 : decode cX9_advance 231 = .ok (.aload_n 0, 1) := by decide +kernel
theorem dX9_advance_232 : decode cX9_advance 232 = .ok (.dup, 1) := by decide +kernel
theorem dX9_advance_233 : decode cX9_advance 233 = .ok (.getfield 90, 3) := by decide +kernel
theorem dX9_advance_236 : decode cX9_advance 236 = .ok (.iconst 1, 1) := by decide +kernel
theorem dX9_advance_237 : decode cX9_advance 237 = .ok (.iadd, 1) := by decide +kernel
theorem dX9_advance_238 : decode cX9_advance 238 = .ok (.putfield 90, 3) := by decide +kernel
theorem dX9_advance_241 : decode cX9_advance 241 = .ok (.goto (-57), 3) := by decide +kernel
theorem dX9_advance_244 : decode cX9_advance 244 = .ok (.aload_n 0, 1) := by decide +kernel
theorem dX9_advance_245 : decode cX9_advance 245 = .ok (.iload_n 1, 1) := by decide +kernel
theorem dX9_advance_246 : decode cX9_advance 246 = .ok (.bipush 59, 2) := by decide +kernel
theorem dX9_advance_248 : decode cX9_advance 248 = .ok (.if_icmp .ne 7, 3) := by decide +kernel
theorem dX9_advance_251 : decode cX9_advance 251 = .ok (.iconst 3, 1) := by decide +kernel
theorem dX9_advance_252 : decode cX9_advance 252 = .ok (.goto 4, 3) := by decide +kernel
theorem dX9_advance_255 : decode cX9_advance 255 = .ok (.iconst 4, 1) := by decide +kernel
theorem dX9_advance_256 : decode cX9_advance 256 = .ok (.putfield 110, 3) := by decide +kernel
theorem dX9_advance_259 : decode cX9_advance 259 = .ok (.aload_n 0, 1) := by decide +kernel
theorem dX9_advance_260 : decode cX9_advance 260 = .ok (.dup, 1) := by decide +kernel
theorem dX9_advance_261 : decode cX9_advance 261 = .ok (.getfield 90, 3) := by decide +kernel
theorem dX9_advance_264 : decode cX9_advance 264 = .ok (.iconst 1, 1) := by decide +kernel
theorem dX9_advance_265 : decode cX9_advance 265 = .ok (.iadd, 1) := by decide +kernel
theorem dX9_advance_266 : decode cX9_advance 266 = .ok (.putfield 90, 3) := by decide +kernel
theorem dX9_advance_269 : decode cX9_advance 269 = .ok (.return_, 1) := by decide +kernel
theorem dX9_check_0 : decode cX9_check 0 = .ok (.iload_n 1, 1) := by decide +kernel
theorem dX9_check_1 : decode cX9_check 1 = .ok (.ifCond .ne 10, 3) := by decide +kernel
theorem dX9_check_4 : decode cX9_check 4 = .ok (.aload_n 0, 1) := by decide +kernel
theorem dX9_check_5 : decode cX9_check 5 = .ok (.getfield 119, 3) := by decide +kernel
theorem dX9_check_8 : decode cX9_check 8 = .ok (.ifCond .eq 4, 3) := by decide +kernel
theorem dX9_check_11 : decode cX9_check 11 = .ok (.return_, 1) := by decide +kernel
theorem dX9_check_12 : decode cX9_check 12 = .ok (.aload_n 0, 1) := by decide +kernel
theorem dX9_check_13 : decode cX9_check 13 = .ok (.iload_n 2, 1) := by decide +kernel
theorem dX9_check_14 : decode cX9_check 14 = .ok (.putfield 119, 3) := by decide +kernel
theorem dX9_check_17 : decode cX9_check 17 = .ok (.aload_n 0, 1) := by decide +kernel
theorem dX9_check_18 : decode cX9_check 18 = .ok (.aload_n 0, 1) := by decide +kernel
theorem dX9_check_19 : decode cX9_check 19 = .ok (.getfield 100, 3) := by decide +kernel
theorem dX9_check_22 : decode cX9_check 22 = .ok (.putfield 41, 3) := by decide +kernel
theorem dX9_check_25 : decode cX9_check 25 = .ok (.return_, 1) := by decide +kernel
theorem dX9_advanceIfGood_0 : decode cX9_advanceIfGood 0 = .ok (.aload_n 0, 1) := by decide +kernel
theorem dX9_advanceIfGood_1 : decode cX9_advanceIfGood 1 = .ok (.getfield 119, 3) := by decide +kernel
theorem dX9_advanceIfGood_4 : decode cX9_advanceIfGood 4 = .ok (.ifCond .ne 7, 3) := by decide +kernel
theorem dX9_advanceIfGood_7 : decode cX9_advanceIfGood 7 = .ok (.aload_n 0, 1) := by decide +kernel
theorem dX9_advanceIfGood_8 : decode cX9_advanceIfGood 8 = .ok (.invokevirtual 122, 3) := by decide +kernel
theorem dX9_advanceIfGood_11 : decode cX9_advanceIfGood 11 = .ok (.return_, 1) := by decide +kernel
theorem dX9_isWord_0 : decode cX9_isWord 0 = .ok (.aload_n 0, 1) := by decide +kernel
theorem dX9_isWord_1 : decode cX9_isWord 1 = .ok (.getfield 119, 3) := by decide +kernel
theorem dX9_isWord_4 : decode cX9_isWord 4 = .ok (.ifCond .ne 24, 3) := by decide +kernel
theorem dX9_isWord_7 : decode cX9_isWord 7 = .ok (.aload_n 0, 1) := by decide +kernel
theorem dX9_isWord_8 : decode cX9_isWord 8 = .ok (.getfield 110, 3) := by decide +kernel
theorem dX9_isWord_11 : decode cX9_isWord 11 = .ok (.iconst 1, 1) := by decide +kernel
theorem dX9_isWord_12 : decode cX9_isWord 12 = .ok (.if_icmp .ne 16, 3) := by decide +kernel
theorem dX9_isWord_15 : decode cX9_isWord 15 = .ok (.aload_n 0, 1) := by decide +kernel
theorem dX9_isWord_16 : decode cX9_isWord 16 = .ok (.getfield 103, 3) := by decide +kernel
theorem dX9_isWord_19 : decode cX9_isWord 19 = .ok (.lload_n 1, 1) := by decide +kernel
theorem dX9_isWord_20 : decode cX9_isWord 20 = .ok (.lcmp, 1) := by decide +kernel
theorem dX9_isWord_21 : decode cX9_isWord 21 = .ok (.ifCond .ne 7, 3) := by decide +kernel
theorem dX9_isWord_24 : decode cX9_isWord 24 = .ok (.iconst 1, 1) := by decide +kernel
theorem dX9_isWord_25 : decode cX9_isWord 25 = .ok (.goto 4, 3) := by decide +kernel
theorem dX9_isWord_28 : decode cX9_isWord 28 = .ok (.iconst 0, 1) := by decide +kernel
theorem dX9_isWord_29 : decode cX9_isWord 29 = .ok (.ireturn, 1) := by decide +kernel
theorem dX9_readInteger_0 : decode cX9_readInteger 0 = .ok (.aload_n 0, 1) := by decide +kernel
theorem dX9_readInteger_1 : decode cX9_readInteger 1 = .ok (.aload_n 0, 1) := by decide +kernel
theorem dX9_readInteger_2 : decode cX9_readInteger 2 = .ok (.getfield 110, 3) := by decide +kernel
theorem dX9_readInteger_5 : decode cX9_readInteger 5 = .ok (.iconst 2, 1) := by decide +kernel
theorem dX9_readInteger_6 : decode cX9_readInteger 6 = .ok (.if_icmp .ne 7, 3) := by decide +kernel
theorem dX9_readInteger_9 : decode cX9_readInteger 9 = .ok (.iconst 1, 1) := by decide +kernel
theorem dX9_readInteger_10 : decode cX9_readInteger 10 = .ok (.goto 4, 3) := by decide +kernel
theorem dX9_readInteger_13 : decode cX9_readInteger 13 = .ok (.iconst 0, 1) := by decide +kernel
theorem dX9_readInteger_14 : decode cX9_readInteger 14 = .ok (.bipush (-11), 2) := by decide +kernel
theorem dX9_readInteger_16 : decode cX9_readInteger 16 = .ok (.invokevirtual 125, 3) := by decide +kernel
theorem dX9_readInteger_19 : decode cX9_readInteger 19 = .ok (.aload_n 0, 1) := by decide +kernel
theorem dX9_readInteger_20 : decode cX9_readInteger 20 = .ok (.aload_n 0, 1) := by decide +kernel
theorem dX9_readInteger_21 : decode cX9_readInteger 21 = .ok (.getfield 107, 3) := by decide +kernel
theorem dX9_readInteger_24 : decode cX9_readInteger 24 = .ok (.iload_n 1, 1) := by decide +kernel
theorem dX9_readInteger_25 : decode cX9_readInteger 25 = .ok (.iload_n 2, 1) := by decide +kernel
theorem dX9_readInteger_26 : decode cX9_readInteger 26 = .ok (.invokestatic 113, 3) := by decide +kernel
theorem dX9_readInteger_29 : decode cX9_readInteger 29 = .ok (.bipush (-12), 2) := by decide +kernel
theorem dX9_readInteger_31 : decode cX9_readInteger 31 = .ok (.invokevirtual 125, 3) := by decide +kernel
theorem dX9_readInteger_34 : decode cX9_readInteger 34 = .ok (.aload_n 0, 1) := by decide +kernel
theorem dX9_readInteger_35 : decode cX9_readInteger 35 = .ok (.getfield 107, 3) := by decide +kernel
theorem dX9_readInteger_38 : decode cX9_readInteger 38 = .ok (.istore_n 3, 1) := by decide +kernel
theorem dX9_readInteger_39 : decode cX9_readInteger 39 = .ok (.aload_n 0, 1) := by decide +kernel
theorem dX9_readInteger_40 : decode cX9_readInteger 40 = .ok (.invokevirtual 129, 3) := by decide +kernel
theorem dX9_readInteger_43 : decode cX9_readInteger 43 = .ok (.iload_n 3, 1) := by decide +kernel
theorem dX9_readInteger_44 : decode cX9_readInteger 44 = .ok (.ireturn, 1) := by decide +kernel
theorem dX9_isKeyword_0 : decode cX9_isKeyword 0 = .ok (.aload_n 0, 1) := by decide +kernel
theorem dX9_isKeyword_1 : decode cX9_isKeyword 1 = .ok (.getfield 103, 3) := by decide +kernel
theorem dX9_isKeyword_4 : decode cX9_isKeyword 4 = .ok (.ldc2_w 132, 3) := by decide +kernel
theorem dX9_isKeyword_7 : decode cX9_isKeyword 7 = .ok (.lcmp, 1) := by decide +kernel
theorem dX9_isKeyword_8 : decode cX9_isKeyword 8 = .ok (.ifCond .eq 69, 3) := by decide +kernel
theorem dX9_isKeyword_11 : decode cX9_isKeyword 11 = .ok (.aload_n 0, 1) := by decide +kernel
theorem dX9_isKeyword_12 : decode cX9_isKeyword 12 = .ok (.getfield 103, 3) := by decide +kernel
theorem dX9_isKeyword_15 : decode cX9_isKeyword 15 = .ok (.ldc2_w 134, 3) := by decide +kernel
theorem dX9_isKeyword_18 : decode cX9_isKeyword 18 = .ok (.lcmp, 1) := by decide +kernel
theorem dX9_isKeyword_19 : decode cX9_isKeyword 19 = .ok (.ifCond .eq 58, 3) := by decide +kernel
theorem dX9_isKeyword_22 : decode cX9_isKeyword 22 = .ok (.aload_n 0, 1) := by decide +kernel
theorem dX9_isKeyword_23 : decode cX9_isKeyword 23 = .ok (.getfield 103, 3) := by decide +kernel
theorem dX9_isKeyword_26 : decode cX9_isKeyword 26 = .ok (.ldc2_w 136, 3) := by decide +kernel
theorem dX9_isKeyword_29 : decode cX9_isKeyword 29 = .ok (.lcmp, 1) := by decide +kernel
theorem dX9_isKeyword_30 : decode cX9_isKeyword 30 = .ok (.ifCond .eq 47, 3) := by decide +kernel
theorem dX9_isKeyword_33 : decode cX9_isKeyword 33 = .ok (.aload_n 0, 1) := by decide +kernel
theorem dX9_isKeyword_34 : decode cX9_isKeyword 34 = .ok (.getfield 103, 3) := by decide +kernel
theorem dX9_isKeyword_37 : decode cX9_isKeyword 37 = .ok (.ldc2_w 138, 3) := by decide +kernel
theorem dX9_isKeyword_40 : decode cX9_isKeyword 40 = .ok (.lcmp, 1) := by decide +kernel
theorem dX9_isKeyword_41 : decode cX9_isKeyword 41 = .ok (.ifCond .eq 36, 3) := by decide +kernel
theorem dX9_isKeyword_44 : decode cX9_isKeyword 44 = .ok (.aload_n 0, 1) := by decide +kernel
theorem dX9_isKeyword_45 : decode cX9_isKeyword 45 = .ok (.getfield 103, 3) := by decide +kernel
theorem dX9_isKeyword_48 : decode cX9_isKeyword 48 = .ok (.ldc2_w 140, 3) := by decide +kernel
theorem dX9_isKeyword_51 : decode cX9_isKeyword 51 = .ok (.lcmp, 1) := by decide +kernel
theorem dX9_isKeyword_52 : decode cX9_isKeyword 52 = .ok (.ifCond .eq 25, 3) := by decide +kernel
theorem dX9_isKeyword_55 : decode cX9_isKeyword 55 = .ok (.aload_n 0, 1) := by decide +kernel
theorem dX9_isKeyword_56 : decode cX9_isKeyword 56 = .ok (.getfield 103, 3) := by decide +kernel
theorem dX9_isKeyword_59 : decode cX9_isKeyword 59 = .ok (.ldc2_w 142, 3) := by decide +kernel
theorem dX9_isKeyword_62 : decode cX9_isKeyword 62 = .ok (.lcmp, 1) := by decide +kernel
theorem dX9_isKeyword_63 : decode cX9_isKeyword 63 = .ok (.ifCond .eq 14, 3) := by decide +kernel
theorem dX9_isKeyword_66 : decode cX9_isKeyword 66 = .ok (.aload_n 0, 1) := by decide +kernel
theorem dX9_isKeyword_67 : decode cX9_isKeyword 67 = .ok (.getfield 103, 3) := by decide +kernel
theorem dX9_isKeyword_70 : decode cX9_isKeyword 70 = .ok (.ldc2_w 144, 3) := by decide +kernel
theorem dX9_isKeyword_73 : decode cX9_isKeyword 73 = .ok (.lcmp, 1) := by decide +kernel
theorem dX9_isKeyword_74 : decode cX9_isKeyword 74 = .ok (.ifCond .ne 7, 3) := by decide +kernel
theorem dX9_isKeyword_77 : decode cX9_isKeyword 77 = .ok (.iconst 1, 1) := by decide +kernel
theorem dX9_isKeyword_78 : decode cX9_isKeyword 78 = .ok (.goto 4, 3) := by decide +kernel
theorem dX9_isKeyword_81 : decode cX9_isKeyword 81 = .ok (.iconst 0, 1) := by decide +kernel
theorem dX9_isKeyword_82 : decode cX9_isKeyword 82 = .ok (.ireturn, 1) := by decide +kernel
theorem dX9_lettersHere_0 : decode cX9_lettersHere 0 = .ok (.aload_n 0, 1) := by decide +kernel
theorem dX9_lettersHere_1 : decode cX9_lettersHere 1 = .ok (.aload_n 0, 1) := by decide +kernel
theorem dX9_lettersHere_2 : decode cX9_lettersHere 2 = .ok (.getfield 110, 3) := by decide +kernel
theorem dX9_lettersHere_5 : decode cX9_lettersHere 5 = .ok (.iconst 1, 1) := by decide +kernel
theorem dX9_lettersHere_6 : decode cX9_lettersHere 6 = .ok (.if_icmp .ne 28, 3) := by decide +kernel
theorem dX9_lettersHere_9 : decode cX9_lettersHere 9 = .ok (.aload_n 0, 1) := by decide +kernel
theorem dX9_lettersHere_10 : decode cX9_lettersHere 10 = .ok (.getfield 90, 3) := by decide +kernel
theorem dX9_lettersHere_13 : decode cX9_lettersHere 13 = .ok (.aload_n 0, 1) := by decide +kernel
theorem dX9_lettersHere_14 : decode cX9_lettersHere 14 = .ok (.getfield 100, 3) := by decide +kernel
theorem dX9_lettersHere_17 : decode cX9_lettersHere 17 = .ok (.isub, 1) := by decide +kernel
theorem dX9_lettersHere_18 : decode cX9_lettersHere 18 = .ok (.bipush 6, 2) := by decide +kernel
theorem dX9_lettersHere_20 : decode cX9_lettersHere 20 = .ok (.if_icmp .gt 14, 3) := by decide +kernel
theorem dX9_lettersHere_23 : decode cX9_lettersHere 23 = .ok (.aload_n 0, 1) := by decide +kernel
theorem dX9_lettersHere_24 : decode cX9_lettersHere 24 = .ok (.invokevirtual 146, 3) := by decide +kernel
theorem dX9_lettersHere_27 : decode cX9_lettersHere 27 = .ok (.ifCond .ne 7, 3) := by decide +kernel
theorem dX9_lettersHere_30 : decode cX9_lettersHere 30 = .ok (.iconst 1, 1) := by decide +kernel
theorem dX9_lettersHere_31 : decode cX9_lettersHere 31 = .ok (.goto 4, 3) := by decide +kernel
theorem dX9_lettersHere_34 : decode cX9_lettersHere 34 = .ok (.iconst 0, 1) := by decide +kernel
theorem dX9_lettersHere_35 : decode cX9_lettersHere 35 = .ok (.bipush (-11), 2) := by decide +kernel
theorem dX9_lettersHere_37 : decode cX9_lettersHere 37 = .ok (.invokevirtual 125, 3) := by decide +kernel
theorem dX9_lettersHere_40 : decode cX9_lettersHere 40 = .ok (.aload_n 0, 1) := by decide +kernel
theorem dX9_lettersHere_41 : decode cX9_lettersHere 41 = .ok (.getfield 103, 3) := by decide +kernel
theorem dX9_lettersHere_44 : decode cX9_lettersHere 44 = .ok (.l2i, 1) := by decide +kernel
theorem dX9_lettersHere_45 : decode cX9_lettersHere 45 = .ok (.istore_n 1, 1) := by decide +kernel
theorem dX9_lettersHere_46 : decode cX9_lettersHere 46 = .ok (.aload_n 0, 1) := by decide +kernel
theorem dX9_lettersHere_47 : decode cX9_lettersHere 47 = .ok (.getfield 90, 3) := by decide +kernel
theorem dX9_lettersHere_50 : decode cX9_lettersHere 50 = .ok (.aload_n 0, 1) := by decide +kernel
theorem dX9_lettersHere_51 : decode cX9_lettersHere 51 = .ok (.getfield 100, 3) := by decide +kernel
theorem dX9_lettersHere_54 : decode cX9_lettersHere 54 = .ok (.isub, 1) := by decide +kernel
theorem dX9_lettersHere_55 : decode cX9_lettersHere 55 = .ok (.istore_n 2, 1) := by decide +kernel
theorem dX9_lettersHere_56 : decode cX9_lettersHere 56 = .ok (.iload_n 2, 1) := by decide +kernel
theorem dX9_lettersHere_57 : decode cX9_lettersHere 57 = .ok (.bipush 6, 2) := by decide +kernel
theorem dX9_lettersHere_59 : decode cX9_lettersHere 59 = .ok (.if_icmp .ge 13, 3) := by decide +kernel
theorem dX9_lettersHere_62 : decode cX9_lettersHere 62 = .ok (.iload_n 1, 1) := by decide +kernel
theorem dX9_lettersHere_63 : decode cX9_lettersHere 63 = .ok (.iconst 5, 1) := by decide +kernel
theorem dX9_lettersHere_64 : decode cX9_lettersHere 64 = .ok (.ishl, 1) := by decide +kernel
theorem dX9_lettersHere_65 : decode cX9_lettersHere 65 = .ok (.istore_n 1, 1) := by decide +kernel
theorem dX9_lettersHere_66 : decode cX9_lettersHere 66 = .ok (.iinc 2 1, 3) := by decide +kernel
theorem dX9_lettersHere_69 : decode cX9_lettersHere 69 = .ok (.goto (-13), 3) := by decide +kernel
theorem dX9_lettersHere_72 : decode cX9_lettersHere 72 = .ok (.iload_n 1, 1) := by decide +kernel
theorem dX9_lettersHere_73 : decode cX9_lettersHere 73 = .ok (.ireturn, 1) := by decide +kernel
theorem dX9_indexOf_0 : decode cX9_indexOf 0 = .ok (.iconst 0, 1) := by decide +kernel
theorem dX9_indexOf_1 : decode cX9_indexOf 1 = .ok (.istore_n 3, 1) := by decide +kernel
theorem dX9_indexOf_2 : decode cX9_indexOf 2 = .ok (.iload_n 3, 1) := by decide +kernel
theorem dX9_indexOf_3 : decode cX9_indexOf 3 = .ok (.iload_n 1, 1) := by decide +kernel
theorem dX9_indexOf_4 : decode cX9_indexOf 4 = .ok (.if_icmp .ge 18, 3) := by decide +kernel
theorem dX9_indexOf_7 : decode cX9_indexOf 7 = .ok (.aload_n 0, 1) := by decide +kernel
theorem dX9_indexOf_8 : decode cX9_indexOf 8 = .ok (.iload_n 3, 1) := by decide +kernel
theorem dX9_indexOf_9 : decode cX9_indexOf 9 = .ok (.iaload, 1) := by decide +kernel
theorem dX9_indexOf_10 : decode cX9_indexOf 10 = .ok (.iload_n 2, 1) := by decide +kernel
theorem dX9_indexOf_11 : decode cX9_indexOf 11 = .ok (.if_icmp .ne 5, 3) := by decide +kernel
theorem dX9_indexOf_14 : decode cX9_indexOf 14 = .ok (.iload_n 3, 1) := by decide +kernel
theorem dX9_indexOf_15 : decode cX9_indexOf 15 = .ok (.ireturn, 1) := by decide +kernel
theorem dX9_indexOf_16 : decode cX9_indexOf 16 = .ok (.iinc 3 1, 3) := by decide +kernel
theorem dX9_indexOf_19 : decode cX9_indexOf 19 = .ok (.goto (-17), 3) := by decide +kernel
theorem dX9_indexOf_22 : decode cX9_indexOf 22 = .ok (.iconst (-1), 1) := by decide +kernel
theorem dX9_indexOf_23 : decode cX9_indexOf 23 = .ok (.ireturn, 1) := by decide +kernel
theorem dX9_readNewName_0 : decode cX9_readNewName 0 = .ok (.aload_n 0, 1) := by decide +kernel
theorem dX9_readNewName_1 : decode cX9_readNewName 1 = .ok (.getfield 119, 3) := by decide +kernel
theorem dX9_readNewName_4 : decode cX9_readNewName 4 = .ok (.ifCond .ne 10, 3) := by decide +kernel
theorem dX9_readNewName_7 : decode cX9_readNewName 7 = .ok (.aload_n 0, 1) := by decide +kernel
theorem dX9_readNewName_8 : decode cX9_readNewName 8 = .ok (.invokevirtual 150, 3) := by decide +kernel
theorem dX9_readNewName_11 : decode cX9_readNewName 11 = .ok (.goto 4, 3) := by decide +kernel
theorem dX9_readNewName_14 : decode cX9_readNewName 14 = .ok (.iconst 0, 1) := by decide +kernel
theorem dX9_readNewName_15 : decode cX9_readNewName 15 = .ok (.istore_n 1, 1) := by decide +kernel
theorem dX9_readNewName_16 : decode cX9_readNewName 16 = .ok (.aload_n 0, 1) := by decide +kernel
theorem dX9_readNewName_17 : decode cX9_readNewName 17 = .ok (.aload_n 0, 1) := by decide +kernel
theorem dX9_readNewName_18 : decode cX9_readNewName 18 = .ok (.getfield 28, 3) := by decide +kernel
theorem dX9_readNewName_21 : decode cX9_readNewName 21 = .ok (.aload_n 0, 1) := by decide +kernel
theorem dX9_readNewName_22 : decode cX9_readNewName 22 = .ok (.getfield 153, 3) := by decide +kernel
theorem dX9_readNewName_25 : decode cX9_readNewName 25 = .ok (.iload_n 1, 1) := by decide +kernel
theorem dX9_readNewName_26 : decode cX9_readNewName 26 = .ok (.invokestatic 156, 3) := by decide +kernel
theorem dX9_readNewName_29 : decode cX9_readNewName 29 = .ok (.ifCond .ge 22, 3) := by decide +kernel
theorem dX9_readNewName_32 : decode cX9_readNewName 32 = .ok (.aload_n 0, 1) := by decide +kernel
theorem dX9_readNewName_33 : decode cX9_readNewName 33 = .ok (.getfield 31, 3) := by decide +kernel
theorem dX9_readNewName_36 : decode cX9_readNewName 36 = .ok (.aload_n 0, 1) := by decide +kernel
theorem dX9_readNewName_37 : decode cX9_readNewName 37 = .ok (.getfield 160, 3) := by decide +kernel
theorem dX9_readNewName_40 : decode cX9_readNewName 40 = .ok (.iload_n 1, 1) := by decide +kernel
theorem dX9_readNewName_41 : decode cX9_readNewName 41 = .ok (.invokestatic 156, 3) := by decide +kernel
theorem dX9_readNewName_44 : decode cX9_readNewName 44 = .ok (.ifCond .ge 7, 3) := by decide +kernel
theorem dX9_readNewName_47 : decode cX9_readNewName 47 = .ok (.iconst 1, 1) := by decide +kernel
theorem dX9_readNewName_48 : decode cX9_readNewName 48 = .ok (.goto 4, 3) := by decide +kernel
theorem dX9_readNewName_51 : decode cX9_readNewName 51 = .ok (.iconst 0, 1) := by decide +kernel
theorem dX9_readNewName_52 : decode cX9_readNewName 52 = .ok (.bipush (-14), 2) := by decide +kernel
theorem dX9_readNewName_54 : decode cX9_readNewName 54 = .ok (.invokevirtual 125, 3) := by decide +kernel
theorem dX9_readNewName_57 : decode cX9_readNewName 57 = .ok (.aload_n 0, 1) := by decide +kernel
theorem dX9_readNewName_58 : decode cX9_readNewName 58 = .ok (.invokevirtual 129, 3) := by decide +kernel
theorem dX9_readNewName_61 : decode cX9_readNewName 61 = .ok (.iload_n 1, 1) := by decide +kernel
theorem dX9_readNewName_62 : decode cX9_readNewName 62 = .ok (.ireturn, 1) := by decide +kernel
theorem dX9_readList_0 : decode cX9_readList 0 = .ok (.iconst 0, 1) := by decide +kernel
theorem dX9_readList_1 : decode cX9_readList 1 = .ok (.istore_n 3, 1) := by decide +kernel
theorem dX9_readList_2 : decode cX9_readList 2 = .ok (.iconst 1, 1) := by decide +kernel
theorem dX9_readList_3 : decode cX9_readList 3 = .ok (.istore 4, 2) := by decide +kernel
theorem dX9_readList_5 : decode cX9_readList 5 = .ok (.aload_n 0, 1) := by decide +kernel
theorem dX9_readList_6 : decode cX9_readList 6 = .ok (.getfield 119, 3) := by decide +kernel
theorem dX9_readList_9 : decode cX9_readList 9 = .ok (.ifCond .ne 105, 3) := by decide +kernel
theorem dX9_readList_12 : decode cX9_readList 12 = .ok (.iload 4, 2) := by decide +kernel
theorem dX9_readList_14 : decode cX9_readList 14 = .ok (.ifCond .ne 22, 3) := by decide +kernel
theorem dX9_readList_17 : decode cX9_readList 17 = .ok (.aload_n 0, 1) := by decide +kernel
theorem dX9_readList_18 : decode cX9_readList 18 = .ok (.getfield 110, 3) := by decide +kernel
theorem dX9_readList_21 : decode cX9_readList 21 = .ok (.iconst 1, 1) := by decide +kernel
theorem dX9_readList_22 : decode cX9_readList 22 = .ok (.if_icmp .ne 92, 3) := by decide +kernel
theorem dX9_readList_25 : decode cX9_readList 25 = .ok (.aload_n 0, 1) := by decide +kernel
theorem dX9_readList_26 : decode cX9_readList 26 = .ok (.getfield 103, 3) := by decide +kernel
theorem dX9_readList_29 : decode cX9_readList 29 = .ok (.ldc2_w 136, 3) := by decide +kernel
theorem dX9_readList_32 : decode cX9_readList 32 = .ok (.lcmp, 1) := by decide +kernel
theorem dX9_readList_33 : decode cX9_readList 33 = .ok (.ifCond .eq 81, 3) := by decide +kernel
theorem dX9_readList_36 : decode cX9_readList 36 = .ok (.aload_n 1, 1) := by decide +kernel
theorem dX9_readList_37 : decode cX9_readList 37 = .ok (.iload_n 2, 1) := by decide +kernel
theorem dX9_readList_38 : decode cX9_readList 38 = .ok (.aload_n 0, 1) := by decide +kernel
theorem dX9_readList_39 : decode cX9_readList 39 = .ok (.invokevirtual 150, 3) := by decide +kernel
theorem dX9_readList_42 : decode cX9_readList 42 = .ok (.invokestatic 156, 3) := by decide +kernel
theorem dX9_readList_45 : decode cX9_readList 45 = .ok (.istore 5, 2) := by decide +kernel
theorem dX9_readList_47 : decode cX9_readList 47 = .ok (.aload_n 0, 1) := by decide +kernel
theorem dX9_readList_48 : decode cX9_readList 48 = .ok (.iload 5, 2) := by decide +kernel
theorem dX9_readList_50 : decode cX9_readList 50 = .ok (.ifCond .lt 7, 3) := by decide +kernel
theorem dX9_readList_53 : decode cX9_readList 53 = .ok (.iconst 1, 1) := by decide +kernel
theorem dX9_readList_54 : decode cX9_readList 54 = .ok (.goto 4, 3) := by decide +kernel
theorem dX9_readList_57 : decode cX9_readList 57 = .ok (.iconst 0, 1) := by decide +kernel
theorem dX9_readList_58 : decode cX9_readList 58 = .ok (.bipush (-13), 2) := by decide +kernel
theorem dX9_readList_60 : decode cX9_readList 60 = .ok (.invokevirtual 125, 3) := by decide +kernel
theorem dX9_readList_63 : decode cX9_readList 63 = .ok (.aload_n 0, 1) := by decide +kernel
theorem dX9_readList_64 : decode cX9_readList 64 = .ok (.iload 5, 2) := by decide +kernel
theorem dX9_readList_66 : decode cX9_readList 66 = .ok (.ifCond .lt 12, 3) := by decide +kernel
theorem dX9_readList_69 : decode cX9_readList 69 = .ok (.iload_n 3, 1) := by decide +kernel
theorem dX9_readList_70 : decode cX9_readList 70 = .ok (.iload 5, 2) := by decide +kernel
theorem dX9_readList_72 : decode cX9_readList 72 = .ok (.invokestatic 163, 3) := by decide +kernel
theorem dX9_readList_75 : decode cX9_readList 75 = .ok (.ifCond .ne 7, 3) := by decide +kernel
theorem dX9_readList_78 : decode cX9_readList 78 = .ok (.iconst 1, 1) := by decide +kernel
theorem dX9_readList_79 : decode cX9_readList 79 = .ok (.goto 4, 3) := by decide +kernel
theorem dX9_readList_82 : decode cX9_readList 82 = .ok (.iconst 0, 1) := by decide +kernel
theorem dX9_readList_83 : decode cX9_readList 83 = .ok (.bipush (-14), 2) := by decide +kernel
theorem dX9_readList_85 : decode cX9_readList 85 = .ok (.invokevirtual 125, 3) := by decide +kernel
theorem dX9_readList_88 : decode cX9_readList 88 = .ok (.iload_n 3, 1) := by decide +kernel
theorem dX9_readList_89 : decode cX9_readList 89 = .ok (.iload 5, 2) := by decide +kernel
theorem dX9_readList_91 : decode cX9_readList 91 = .ok (.ifCond .ge 7, 3) := by decide +kernel
theorem dX9_readList_94 : decode cX9_readList 94 = .ok (.iconst 0, 1) := by decide +kernel
theorem dX9_readList_95 : decode cX9_readList 95 = .ok (.goto 7, 3) := by decide +kernel
theorem dX9_readList_98 : decode cX9_readList 98 = .ok (.iconst 1, 1) := by decide +kernel
theorem dX9_readList_99 : decode cX9_readList 99 = .ok (.iload 5, 2) := by decide +kernel
theorem dX9_readList_101 : decode cX9_readList 101 = .ok (.ishl, 1) := by decide +kernel
theorem dX9_readList_102 : decode cX9_readList 102 = .ok (.ior, 1) := by decide +kernel
theorem dX9_readList_103 : decode cX9_readList 103 = .ok (.istore_n 3, 1) := by decide +kernel
theorem dX9_readList_104 : decode cX9_readList 104 = .ok (.aload_n 0, 1) := by decide +kernel
theorem dX9_readList_105 : decode cX9_readList 105 = .ok (.invokevirtual 129, 3) := by decide +kernel
theorem dX9_readList_108 : decode cX9_readList 108 = .ok (.iconst 0, 1) := by decide +kernel
theorem dX9_readList_109 : decode cX9_readList 109 = .ok (.istore 4, 2) := by decide +kernel
theorem dX9_readList_111 : decode cX9_readList 111 = .ok (.goto (-106), 3) := by decide +kernel
theorem dX9_readList_114 : decode cX9_readList 114 = .ok (.iload_n 3, 1) := by decide +kernel
theorem dX9_readList_115 : decode cX9_readList 115 = .ok (.ireturn, 1) := by decide +kernel
theorem dX9_parseDistrict_0 : decode cX9_parseDistrict 0 = .ok (.aload_n 0, 1) := by decide +kernel
theorem dX9_parseDistrict_1 : decode cX9_parseDistrict 1 = .ok (.getfield 153, 3) := by decide +kernel
theorem dX9_parseDistrict_4 : decode cX9_parseDistrict 4 = .ok (.istore_n 1, 1) := by decide +kernel
theorem dX9_parseDistrict_5 : decode cX9_parseDistrict 5 = .ok (.aload_n 0, 1) := by decide +kernel
theorem dX9_parseDistrict_6 : decode cX9_parseDistrict 6 = .ok (.iload_n 1, 1) := by decide +kernel
theorem dX9_parseDistrict_7 : decode cX9_parseDistrict 7 = .ok (.iconst 4, 1) := by decide +kernel
theorem dX9_parseDistrict_8 : decode cX9_parseDistrict 8 = .ok (.if_icmp .ge 7, 3) := by decide +kernel
theorem dX9_parseDistrict_11 : decode cX9_parseDistrict 11 = .ok (.iconst 1, 1) := by decide +kernel
theorem dX9_parseDistrict_12 : decode cX9_parseDistrict 12 = .ok (.goto 4, 3) := by decide +kernel
theorem dX9_parseDistrict_15 : decode cX9_parseDistrict 15 = .ok (.iconst 0, 1) := by decide +kernel
theorem dX9_parseDistrict_16 : decode cX9_parseDistrict 16 = .ok (.bipush (-15), 2) := by decide +kernel
theorem dX9_parseDistrict_18 : decode cX9_parseDistrict 18 = .ok (.invokevirtual 125, 3) := by decide +kernel
theorem dX9_parseDistrict_21 : decode cX9_parseDistrict 21 = .ok (.aload_n 0, 1) := by decide +kernel
theorem dX9_parseDistrict_22 : decode cX9_parseDistrict 22 = .ok (.invokevirtual 129, 3) := by decide +kernel
theorem dX9_parseDistrict_25 : decode cX9_parseDistrict 25 = .ok (.aload_n 0, 1) := by decide +kernel
theorem dX9_parseDistrict_26 : decode cX9_parseDistrict 26 = .ok (.invokevirtual 167, 3) := by decide +kernel
theorem dX9_parseDistrict_29 : decode cX9_parseDistrict 29 = .ok (.istore_n 2, 1) := by decide +kernel
theorem dX9_parseDistrict_30 : decode cX9_parseDistrict 30 = .ok (.aload_n 0, 1) := by decide +kernel
theorem dX9_parseDistrict_31 : decode cX9_parseDistrict 31 = .ok (.iconst 0, 1) := by decide +kernel
theorem dX9_parseDistrict_32 : decode cX9_parseDistrict 32 = .ok (.ldc 170, 2) := by decide +kernel
theorem dX9_parseDistrict_34 : decode cX9_parseDistrict 34 = .ok (.invokevirtual 171, 3) := by decide +kernel
theorem dX9_parseDistrict_37 : decode cX9_parseDistrict 37 = .ok (.istore_n 3, 1) := by decide +kernel
theorem dX9_parseDistrict_38 : decode cX9_parseDistrict 38 = .ok (.aload_n 0, 1) := by decide +kernel
theorem dX9_parseDistrict_39 : decode cX9_parseDistrict 39 = .ok (.getfield 119, 3) := by decide +kernel
theorem dX9_parseDistrict_42 : decode cX9_parseDistrict 42 = .ok (.ifCond .eq 4, 3) := by decide +kernel
theorem dX9_parseDistrict_45 : decode cX9_parseDistrict 45 = .ok (.return_, 1) := by decide +kernel
theorem dX9_parseDistrict_46 : decode cX9_parseDistrict 46 = .ok (.aload_n 0, 1) := by decide +kernel
theorem dX9_parseDistrict_47 : decode cX9_parseDistrict 47 = .ok (.getfield 28, 3) := by decide +kernel
theorem dX9_parseDistrict_50 : decode cX9_parseDistrict 50 = .ok (.iload_n 1, 1) := by decide +kernel
theorem dX9_parseDistrict_51 : decode cX9_parseDistrict 51 = .ok (.iload_n 2, 1) := by decide +kernel
theorem dX9_parseDistrict_52 : decode cX9_parseDistrict 52 = .ok (.iastore, 1) := by decide +kernel
theorem dX9_parseDistrict_53 : decode cX9_parseDistrict 53 = .ok (.aload_n 0, 1) := by decide +kernel
theorem dX9_parseDistrict_54 : decode cX9_parseDistrict 54 = .ok (.getfield 13, 3) := by decide +kernel
theorem dX9_parseDistrict_57 : decode cX9_parseDistrict 57 = .ok (.iconst 4, 1) := by decide +kernel
theorem dX9_parseDistrict_58 : decode cX9_parseDistrict 58 = .ok (.iload_n 1, 1) := by decide +kernel
theorem dX9_parseDistrict_59 : decode cX9_parseDistrict 59 = .ok (.iadd, 1) := by decide +kernel
theorem dX9_parseDistrict_60 : decode cX9_parseDistrict 60 = .ok (.iload_n 3, 1) := by decide +kernel
theorem dX9_parseDistrict_61 : decode cX9_parseDistrict 61 = .ok (.iastore, 1) := by decide +kernel
theorem dX9_parseDistrict_62 : decode cX9_parseDistrict 62 = .ok (.aload_n 0, 1) := by decide +kernel
theorem dX9_parseDistrict_63 : decode cX9_parseDistrict 63 = .ok (.dup, 1) := by decide +kernel
theorem dX9_parseDistrict_64 : decode cX9_parseDistrict 64 = .ok (.getfield 153, 3) := by decide +kernel
theorem dX9_parseDistrict_67 : decode cX9_parseDistrict 67 = .ok (.iconst 1, 1) := by decide +kernel
theorem dX9_parseDistrict_68 : decode cX9_parseDistrict 68 = .ok (.iadd, 1) := by decide +kernel
theorem dX9_parseDistrict_69 : decode cX9_parseDistrict 69 = .ok (.putfield 153, 3) := by decide +kernel
theorem dX9_parseDistrict_72 : decode cX9_parseDistrict 72 = .ok (.return_, 1) := by decide +kernel
theorem dX9_parseProject_0 : decode cX9_parseProject 0 = .ok (.aload_n 0, 1) := by decide +kernel
theorem dX9_parseProject_1 : decode cX9_parseProject 1 = .ok (.getfield 160, 3) := by decide +kernel
theorem dX9_parseProject_4 : decode cX9_parseProject 4 = .ok (.istore_n 1, 1) := by decide +kernel
theorem dX9_parseProject_5 : decode cX9_parseProject 5 = .ok (.aload_n 0, 1) := by decide +kernel
theorem dX9_parseProject_6 : decode cX9_parseProject 6 = .ok (.iload_n 1, 1) := by decide +kernel
theorem dX9_parseProject_7 : decode cX9_parseProject 7 = .ok (.bipush 12, 2) := by decide +kernel
theorem dX9_parseProject_9 : decode cX9_parseProject 9 = .ok (.if_icmp .ge 7, 3) := by decide +kernel
theorem dX9_parseProject_12 : decode cX9_parseProject 12 = .ok (.iconst 1, 1) := by decide +kernel
theorem dX9_parseProject_13 : decode cX9_parseProject 13 = .ok (.goto 4, 3) := by decide +kernel
theorem dX9_parseProject_16 : decode cX9_parseProject 16 = .ok (.iconst 0, 1) := by decide +kernel
theorem dX9_parseProject_17 : decode cX9_parseProject 17 = .ok (.bipush (-15), 2) := by decide +kernel
theorem dX9_parseProject_19 : decode cX9_parseProject 19 = .ok (.invokevirtual 125, 3) := by decide +kernel
theorem dX9_parseProject_22 : decode cX9_parseProject 22 = .ok (.aload_n 0, 1) := by decide +kernel
theorem dX9_parseProject_23 : decode cX9_parseProject 23 = .ok (.invokevirtual 129, 3) := by decide +kernel
theorem dX9_parseProject_26 : decode cX9_parseProject 26 = .ok (.aload_n 0, 1) := by decide +kernel
theorem dX9_parseProject_27 : decode cX9_parseProject 27 = .ok (.invokevirtual 167, 3) := by decide +kernel
theorem dX9_parseProject_30 : decode cX9_parseProject 30 = .ok (.istore_n 2, 1) := by decide +kernel
theorem dX9_parseProject_31 : decode cX9_parseProject 31 = .ok (.aload_n 0, 1) := by decide +kernel
theorem dX9_parseProject_32 : decode cX9_parseProject 32 = .ok (.iconst 1, 1) := by decide +kernel
theorem dX9_parseProject_33 : decode cX9_parseProject 33 = .ok (.ldc 170, 2) := by decide +kernel
theorem dX9_parseProject_35 : decode cX9_parseProject 35 = .ok (.invokevirtual 171, 3) := by decide +kernel
theorem dX9_parseProject_38 : decode cX9_parseProject 38 = .ok (.istore_n 3, 1) := by decide +kernel
theorem dX9_parseProject_39 : decode cX9_parseProject 39 = .ok (.aload_n 0, 1) := by decide +kernel
theorem dX9_parseProject_40 : decode cX9_parseProject 40 = .ok (.aload_n 0, 1) := by decide +kernel
theorem dX9_parseProject_41 : decode cX9_parseProject 41 = .ok (.getfield 28, 3) := by decide +kernel
theorem dX9_parseProject_44 : decode cX9_parseProject 44 = .ok (.aload_n 0, 1) := by decide +kernel
theorem dX9_parseProject_45 : decode cX9_parseProject 45 = .ok (.getfield 153, 3) := by decide +kernel
theorem dX9_parseProject_48 : decode cX9_parseProject 48 = .ok (.invokevirtual 175, 3) := by decide +kernel
theorem dX9_parseProject_51 : decode cX9_parseProject 51 = .ok (.istore 4, 2) := by decide +kernel
theorem dX9_parseProject_53 : decode cX9_parseProject 53 = .ok (.aload_n 0, 1) := by decide +kernel
theorem dX9_parseProject_54 : decode cX9_parseProject 54 = .ok (.getfield 119, 3) := by decide +kernel
theorem dX9_parseProject_57 : decode cX9_parseProject 57 = .ok (.ifCond .eq 4, 3) := by decide +kernel
theorem dX9_parseProject_60 : decode cX9_parseProject 60 = .ok (.return_, 1) := by decide +kernel
theorem dX9_parseProject_61 : decode cX9_parseProject 61 = .ok (.aload_n 0, 1) := by decide +kernel
theorem dX9_parseProject_62 : decode cX9_parseProject 62 = .ok (.getfield 31, 3) := by decide +kernel
theorem dX9_parseProject_65 : decode cX9_parseProject 65 = .ok (.iload_n 1, 1) := by decide +kernel
theorem dX9_parseProject_66 : decode cX9_parseProject 66 = .ok (.iload_n 2, 1) := by decide +kernel
theorem dX9_parseProject_67 : decode cX9_parseProject 67 = .ok (.iastore, 1) := by decide +kernel
theorem dX9_parseProject_68 : decode cX9_parseProject 68 = .ok (.aload_n 0, 1) := by decide +kernel
theorem dX9_parseProject_69 : decode cX9_parseProject 69 = .ok (.getfield 34, 3) := by decide +kernel
theorem dX9_parseProject_72 : decode cX9_parseProject 72 = .ok (.iload_n 1, 1) := by decide +kernel
theorem dX9_parseProject_73 : decode cX9_parseProject 73 = .ok (.iload 4, 2) := by decide +kernel
theorem dX9_parseProject_75 : decode cX9_parseProject 75 = .ok (.iastore, 1) := by decide +kernel
theorem dX9_parseProject_76 : decode cX9_parseProject 76 = .ok (.aload_n 0, 1) := by decide +kernel
theorem dX9_parseProject_77 : decode cX9_parseProject 77 = .ok (.getfield 13, 3) := by decide +kernel
theorem dX9_parseProject_80 : decode cX9_parseProject 80 = .ok (.bipush 8, 2) := by decide +kernel
theorem dX9_parseProject_82 : decode cX9_parseProject 82 = .ok (.iload_n 1, 1) := by decide +kernel
theorem dX9_parseProject_83 : decode cX9_parseProject 83 = .ok (.iadd, 1) := by decide +kernel
theorem dX9_parseProject_84 : decode cX9_parseProject 84 = .ok (.iload_n 3, 1) := by decide +kernel
theorem dX9_parseProject_85 : decode cX9_parseProject 85 = .ok (.iastore, 1) := by decide +kernel
theorem dX9_parseProject_86 : decode cX9_parseProject 86 = .ok (.aload_n 0, 1) := by decide +kernel
theorem dX9_parseProject_87 : decode cX9_parseProject 87 = .ok (.dup, 1) := by decide +kernel
theorem dX9_parseProject_88 : decode cX9_parseProject 88 = .ok (.getfield 160, 3) := by decide +kernel
theorem dX9_parseProject_91 : decode cX9_parseProject 91 = .ok (.iconst 1, 1) := by decide +kernel
theorem dX9_parseProject_92 : decode cX9_parseProject 92 = .ok (.iadd, 1) := by decide +kernel
theorem dX9_parseProject_93 : decode cX9_parseProject 93 = .ok (.putfield 160, 3) := by decide +kernel
theorem dX9_parseProject_96 : decode cX9_parseProject 96 = .ok (.return_, 1) := by decide +kernel
theorem dX9_parseVoter_0 : decode cX9_parseVoter 0 = .ok (.aload_n 0, 1) := by decide +kernel
theorem dX9_parseVoter_1 : decode cX9_parseVoter 1 = .ok (.getfield 179, 3) := by decide +kernel
theorem dX9_parseVoter_4 : decode cX9_parseVoter 4 = .ok (.istore_n 1, 1) := by decide +kernel
theorem dX9_parseVoter_5 : decode cX9_parseVoter 5 = .ok (.aload_n 0, 1) := by decide +kernel
theorem dX9_parseVoter_6 : decode cX9_parseVoter 6 = .ok (.iload_n 1, 1) := by decide +kernel
theorem dX9_parseVoter_7 : decode cX9_parseVoter 7 = .ok (.bipush 24, 2) := by decide +kernel
theorem dX9_parseVoter_9 : decode cX9_parseVoter 9 = .ok (.if_icmp .ge 7, 3) := by decide +kernel
theorem dX9_parseVoter_12 : decode cX9_parseVoter 12 = .ok (.iconst 1, 1) := by decide +kernel
theorem dX9_parseVoter_13 : decode cX9_parseVoter 13 = .ok (.goto 4, 3) := by decide +kernel
theorem dX9_parseVoter_16 : decode cX9_parseVoter 16 = .ok (.iconst 0, 1) := by decide +kernel
theorem dX9_parseVoter_17 : decode cX9_parseVoter 17 = .ok (.bipush (-15), 2) := by decide +kernel
theorem dX9_parseVoter_19 : decode cX9_parseVoter 19 = .ok (.invokevirtual 125, 3) := by decide +kernel
theorem dX9_parseVoter_22 : decode cX9_parseVoter 22 = .ok (.aload_n 0, 1) := by decide +kernel
theorem dX9_parseVoter_23 : decode cX9_parseVoter 23 = .ok (.invokevirtual 129, 3) := by decide +kernel
theorem dX9_parseVoter_26 : decode cX9_parseVoter 26 = .ok (.aload_n 0, 1) := by decide +kernel
theorem dX9_parseVoter_27 : decode cX9_parseVoter 27 = .ok (.iconst 1, 1) := by decide +kernel
theorem dX9_parseVoter_28 : decode cX9_parseVoter 28 = .ok (.bipush 9, 2) := by decide +kernel
theorem dX9_parseVoter_30 : decode cX9_parseVoter 30 = .ok (.invokevirtual 171, 3) := by decide +kernel
theorem dX9_parseVoter_33 : decode cX9_parseVoter 33 = .ok (.istore_n 2, 1) := by decide +kernel
theorem dX9_parseVoter_34 : decode cX9_parseVoter 34 = .ok (.aload_n 0, 1) := by decide +kernel
theorem dX9_parseVoter_35 : decode cX9_parseVoter 35 = .ok (.aload_n 0, 1) := by decide +kernel
theorem dX9_parseVoter_36 : decode cX9_parseVoter 36 = .ok (.ldc2_w 134, 3) := by decide +kernel
theorem dX9_parseVoter_39 : decode cX9_parseVoter 39 = .ok (.invokevirtual 182, 3) := by decide +kernel
theorem dX9_parseVoter_42 : decode cX9_parseVoter 42 = .ok (.bipush (-11), 2) := by decide +kernel
theorem dX9_parseVoter_44 : decode cX9_parseVoter 44 = .ok (.invokevirtual 125, 3) := by decide +kernel
theorem dX9_parseVoter_47 : decode cX9_parseVoter 47 = .ok (.aload_n 0, 1) := by decide +kernel
theorem dX9_parseVoter_48 : decode cX9_parseVoter 48 = .ok (.invokevirtual 129, 3) := by decide +kernel
theorem dX9_parseVoter_51 : decode cX9_parseVoter 51 = .ok (.aload_n 0, 1) := by decide +kernel
theorem dX9_parseVoter_52 : decode cX9_parseVoter 52 = .ok (.aload_n 0, 1) := by decide +kernel
theorem dX9_parseVoter_53 : decode cX9_parseVoter 53 = .ok (.getfield 28, 3) := by decide +kernel
theorem dX9_parseVoter_56 : decode cX9_parseVoter 56 = .ok (.aload_n 0, 1) := by decide +kernel
theorem dX9_parseVoter_57 : decode cX9_parseVoter 57 = .ok (.getfield 153, 3) := by decide +kernel
theorem dX9_parseVoter_60 : decode cX9_parseVoter 60 = .ok (.invokevirtual 175, 3) := by decide +kernel
theorem dX9_parseVoter_63 : decode cX9_parseVoter 63 = .ok (.istore_n 3, 1) := by decide +kernel
theorem dX9_parseVoter_64 : decode cX9_parseVoter 64 = .ok (.iconst 0, 1) := by decide +kernel
theorem dX9_parseVoter_65 : decode cX9_parseVoter 65 = .ok (.istore 4, 2) := by decide +kernel
theorem dX9_parseVoter_67 : decode cX9_parseVoter 67 = .ok (.aload_n 0, 1) := by decide +kernel
theorem dX9_parseVoter_68 : decode cX9_parseVoter 68 = .ok (.ldc2_w 136, 3) := by decide +kernel
theorem dX9_parseVoter_71 : decode cX9_parseVoter 71 = .ok (.invokevirtual 182, 3) := by decide +kernel
theorem dX9_parseVoter_74 : decode cX9_parseVoter 74 = .ok (.ifCond .eq 21, 3) := by decide +kernel
theorem dX9_parseVoter_77 : decode cX9_parseVoter 77 = .ok (.aload_n 0, 1) := by decide +kernel
theorem dX9_parseVoter_78 : decode cX9_parseVoter 78 = .ok (.invokevirtual 122, 3) := by decide +kernel
theorem dX9_parseVoter_81 : decode cX9_parseVoter 81 = .ok (.aload_n 0, 1) := by decide +kernel
theorem dX9_parseVoter_82 : decode cX9_parseVoter 82 = .ok (.aload_n 0, 1) := by decide +kernel
theorem dX9_parseVoter_83 : decode cX9_parseVoter 83 = .ok (.getfield 31, 3) := by decide +kernel
theorem dX9_parseVoter_86 : decode cX9_parseVoter 86 = .ok (.aload_n 0, 1) := by decide +kernel
theorem dX9_parseVoter_87 : decode cX9_parseVoter 87 = .ok (.getfield 160, 3) := by decide +kernel
theorem dX9_parseVoter_90 : decode cX9_parseVoter 90 = .ok (.invokevirtual 175, 3) := by decide +kernel
theorem dX9_parseVoter_93 : decode cX9_parseVoter 93 = .ok (.istore 4, 2) := by decide +kernel
theorem dX9_parseVoter_95 : decode cX9_parseVoter 95 = .ok (.aload_n 0, 1) := by decide +kernel
theorem dX9_parseVoter_96 : decode cX9_parseVoter 96 = .ok (.getfield 119, 3) := by decide +kernel
theorem dX9_parseVoter_99 : decode cX9_parseVoter 99 = .ok (.ifCond .eq 4, 3) := by decide +kernel
theorem dX9_parseVoter_102 : decode cX9_parseVoter 102 = .ok (.return_, 1) := by decide +kernel
theorem dX9_parseVoter_103 : decode cX9_parseVoter 103 = .ok (.aload_n 0, 1) := by decide +kernel
theorem dX9_parseVoter_104 : decode cX9_parseVoter 104 = .ok (.getfield 13, 3) := by decide +kernel
theorem dX9_parseVoter_107 : decode cX9_parseVoter 107 = .ok (.bipush 20, 2) := by decide +kernel
theorem dX9_parseVoter_109 : decode cX9_parseVoter 109 = .ok (.iload_n 1, 1) := by decide +kernel
theorem dX9_parseVoter_110 : decode cX9_parseVoter 110 = .ok (.iadd, 1) := by decide +kernel
theorem dX9_parseVoter_111 : decode cX9_parseVoter 111 = .ok (.iload_n 2, 1) := by decide +kernel
theorem dX9_parseVoter_112 : decode cX9_parseVoter 112 = .ok (.iastore, 1) := by decide +kernel
theorem dX9_parseVoter_113 : decode cX9_parseVoter 113 = .ok (.aload_n 0, 1) := by decide +kernel
theorem dX9_parseVoter_114 : decode cX9_parseVoter 114 = .ok (.getfield 13, 3) := by decide +kernel
theorem dX9_parseVoter_117 : decode cX9_parseVoter 117 = .ok (.bipush 44, 2) := by decide +kernel
theorem dX9_parseVoter_119 : decode cX9_parseVoter 119 = .ok (.iload_n 1, 1) := by decide +kernel
theorem dX9_parseVoter_120 : decode cX9_parseVoter 120 = .ok (.iadd, 1) := by decide +kernel
theorem dX9_parseVoter_121 : decode cX9_parseVoter 121 = .ok (.iload_n 3, 1) := by decide +kernel
theorem dX9_parseVoter_122 : decode cX9_parseVoter 122 = .ok (.iastore, 1) := by decide +kernel
theorem dX9_parseVoter_123 : decode cX9_parseVoter 123 = .ok (.aload_n 0, 1) := by decide +kernel
theorem dX9_parseVoter_124 : decode cX9_parseVoter 124 = .ok (.getfield 13, 3) := by decide +kernel
theorem dX9_parseVoter_127 : decode cX9_parseVoter 127 = .ok (.bipush 68, 2) := by decide +kernel
theorem dX9_parseVoter_129 : decode cX9_parseVoter 129 = .ok (.iload_n 1, 1) := by decide +kernel
theorem dX9_parseVoter_130 : decode cX9_parseVoter 130 = .ok (.iadd, 1) := by decide +kernel
theorem dX9_parseVoter_131 : decode cX9_parseVoter 131 = .ok (.iload 4, 2) := by decide +kernel
theorem dX9_parseVoter_133 : decode cX9_parseVoter 133 = .ok (.iastore, 1) := by decide +kernel
theorem dX9_parseVoter_134 : decode cX9_parseVoter 134 = .ok (.aload_n 0, 1) := by decide +kernel
theorem dX9_parseVoter_135 : decode cX9_parseVoter 135 = .ok (.dup, 1) := by decide +kernel
theorem dX9_parseVoter_136 : decode cX9_parseVoter 136 = .ok (.getfield 179, 3) := by decide +kernel
theorem dX9_parseVoter_139 : decode cX9_parseVoter 139 = .ok (.iconst 1, 1) := by decide +kernel
theorem dX9_parseVoter_140 : decode cX9_parseVoter 140 = .ok (.iadd, 1) := by decide +kernel
theorem dX9_parseVoter_141 : decode cX9_parseVoter 141 = .ok (.putfield 179, 3) := by decide +kernel
theorem dX9_parseVoter_144 : decode cX9_parseVoter 144 = .ok (.return_, 1) := by decide +kernel
theorem dX9_settingHere_0 : decode cX9_settingHere 0 = .ok (.aload_n 0, 1) := by decide +kernel
theorem dX9_settingHere_1 : decode cX9_settingHere 1 = .ok (.ldc2_w 140, 3) := by decide +kernel
theorem dX9_settingHere_4 : decode cX9_settingHere 4 = .ok (.invokevirtual 182, 3) := by decide +kernel
theorem dX9_settingHere_7 : decode cX9_settingHere 7 = .ok (.ifCond .eq 5, 3) := by decide +kernel
theorem dX9_settingHere_10 : decode cX9_settingHere 10 = .ok (.iconst 0, 1) := by decide +kernel
theorem dX9_settingHere_11 : decode cX9_settingHere 11 = .ok (.ireturn, 1) := by decide +kernel
theorem dX9_settingHere_12 : decode cX9_settingHere 12 = .ok (.aload_n 0, 1) := by decide +kernel
theorem dX9_settingHere_13 : decode cX9_settingHere 13 = .ok (.ldc2_w 186, 3) := by decide +kernel
theorem dX9_settingHere_16 : decode cX9_settingHere 16 = .ok (.invokevirtual 182, 3) := by decide +kernel
theorem dX9_settingHere_19 : decode cX9_settingHere 19 = .ok (.ifCond .eq 5, 3) := by decide +kernel
theorem dX9_settingHere_22 : decode cX9_settingHere 22 = .ok (.iconst 1, 1) := by decide +kernel
theorem dX9_settingHere_23 : decode cX9_settingHere 23 = .ok (.ireturn, 1) := by decide +kernel
theorem dX9_settingHere_24 : decode cX9_settingHere 24 = .ok (.aload_n 0, 1) := by decide +kernel
theorem dX9_settingHere_25 : decode cX9_settingHere 25 = .ok (.ldc2_w 142, 3) := by decide +kernel
theorem dX9_settingHere_28 : decode cX9_settingHere 28 = .ok (.invokevirtual 182, 3) := by decide +kernel
theorem dX9_settingHere_31 : decode cX9_settingHere 31 = .ok (.ifCond .eq 5, 3) := by decide +kernel
theorem dX9_settingHere_34 : decode cX9_settingHere 34 = .ok (.iconst 2, 1) := by decide +kernel
theorem dX9_settingHere_35 : decode cX9_settingHere 35 = .ok (.ireturn, 1) := by decide +kernel
theorem dX9_settingHere_36 : decode cX9_settingHere 36 = .ok (.aload_n 0, 1) := by decide +kernel
theorem dX9_settingHere_37 : decode cX9_settingHere 37 = .ok (.ldc2_w 144, 3) := by decide +kernel
theorem dX9_settingHere_40 : decode cX9_settingHere 40 = .ok (.invokevirtual 182, 3) := by decide +kernel
theorem dX9_settingHere_43 : decode cX9_settingHere 43 = .ok (.ifCond .eq 7, 3) := by decide +kernel
theorem dX9_settingHere_46 : decode cX9_settingHere 46 = .ok (.iconst 3, 1) := by decide +kernel
theorem dX9_settingHere_47 : decode cX9_settingHere 47 = .ok (.goto 4, 3) := by decide +kernel
theorem dX9_settingHere_50 : decode cX9_settingHere 50 = .ok (.iconst (-1), 1) := by decide +kernel
theorem dX9_settingHere_51 : decode cX9_settingHere 51 = .ok (.ireturn, 1) := by decide +kernel
theorem dX9_parseSetting_0 : decode cX9_parseSetting 0 = .ok (.aload_n 0, 1) := by decide +kernel
theorem dX9_parseSetting_1 : decode cX9_parseSetting 1 = .ok (.invokevirtual 122, 3) := by decide +kernel
theorem dX9_parseSetting_4 : decode cX9_parseSetting 4 = .ok (.aload_n 0, 1) := by decide +kernel
theorem dX9_parseSetting_5 : decode cX9_parseSetting 5 = .ok (.invokevirtual 188, 3) := by decide +kernel
theorem dX9_parseSetting_8 : decode cX9_parseSetting 8 = .ok (.istore_n 1, 1) := by decide +kernel
theorem dX9_parseSetting_9 : decode cX9_parseSetting 9 = .ok (.aload_n 0, 1) := by decide +kernel
theorem dX9_parseSetting_10 : decode cX9_parseSetting 10 = .ok (.iload_n 1, 1) := by decide +kernel
theorem dX9_parseSetting_11 : decode cX9_parseSetting 11 = .ok (.ifCond .lt 7, 3) := by decide +kernel
theorem dX9_parseSetting_14 : decode cX9_parseSetting 14 = .ok (.iconst 1, 1) := by decide +kernel
theorem dX9_parseSetting_15 : decode cX9_parseSetting 15 = .ok (.goto 4, 3) := by decide +kernel
theorem dX9_parseSetting_18 : decode cX9_parseSetting 18 = .ok (.iconst 0, 1) := by decide +kernel
theorem dX9_parseSetting_19 : decode cX9_parseSetting 19 = .ok (.bipush (-11), 2) := by decide +kernel
theorem dX9_parseSetting_21 : decode cX9_parseSetting 21 = .ok (.invokevirtual 125, 3) := by decide +kernel
theorem dX9_parseSetting_24 : decode cX9_parseSetting 24 = .ok (.aload_n 0, 1) := by decide +kernel
theorem dX9_parseSetting_25 : decode cX9_parseSetting 25 = .ok (.getfield 119, 3) := by decide +kernel
theorem dX9_parseSetting_28 : decode cX9_parseSetting 28 = .ok (.ifCond .eq 4, 3) := by decide +kernel
theorem dX9_parseSetting_31 : decode cX9_parseSetting 31 = .ok (.return_, 1) := by decide +kernel
theorem dX9_parseSetting_32 : decode cX9_parseSetting 32 = .ok (.aload_n 0, 1) := by decide +kernel
theorem dX9_parseSetting_33 : decode cX9_parseSetting 33 = .ok (.aload_n 0, 1) := by decide +kernel
theorem dX9_parseSetting_34 : decode cX9_parseSetting 34 = .ok (.getfield 191, 3) := by decide +kernel
theorem dX9_parseSetting_37 : decode cX9_parseSetting 37 = .ok (.iload_n 1, 1) := by decide +kernel
theorem dX9_parseSetting_38 : decode cX9_parseSetting 38 = .ok (.invokestatic 163, 3) := by decide +kernel
theorem dX9_parseSetting_41 : decode cX9_parseSetting 41 = .ok (.ifCond .ne 7, 3) := by decide +kernel
theorem dX9_parseSetting_44 : decode cX9_parseSetting 44 = .ok (.iconst 1, 1) := by decide +kernel
theorem dX9_parseSetting_45 : decode cX9_parseSetting 45 = .ok (.goto 4, 3) := by decide +kernel
theorem dX9_parseSetting_48 : decode cX9_parseSetting 48 = .ok (.iconst 0, 1) := by decide +kernel
theorem dX9_parseSetting_49 : decode cX9_parseSetting 49 = .ok (.bipush (-14), 2) := by decide +kernel
theorem dX9_parseSetting_51 : decode cX9_parseSetting 51 = .ok (.invokevirtual 125, 3) := by decide +kernel
theorem dX9_parseSetting_54 : decode cX9_parseSetting 54 = .ok (.aload_n 0, 1) := by decide +kernel
theorem dX9_parseSetting_55 : decode cX9_parseSetting 55 = .ok (.dup, 1) := by decide +kernel
theorem dX9_parseSetting_56 : decode cX9_parseSetting 56 = .ok (.getfield 191, 3) := by decide +kernel
theorem dX9_parseSetting_59 : decode cX9_parseSetting 59 = .ok (.iconst 1, 1) := by decide +kernel
theorem dX9_parseSetting_60 : decode cX9_parseSetting 60 = .ok (.iload_n 1, 1) := by decide +kernel
theorem dX9_parseSetting_61 : decode cX9_parseSetting 61 = .ok (.ishl, 1) := by decide +kernel
theorem dX9_parseSetting_62 : decode cX9_parseSetting 62 = .ok (.ior, 1) := by decide +kernel
theorem dX9_parseSetting_63 : decode cX9_parseSetting 63 = .ok (.putfield 191, 3) := by decide +kernel
theorem dX9_parseSetting_66 : decode cX9_parseSetting 66 = .ok (.aload_n 0, 1) := by decide +kernel
theorem dX9_parseSetting_67 : decode cX9_parseSetting 67 = .ok (.invokevirtual 129, 3) := by decide +kernel
theorem dX9_parseSetting_70 : decode cX9_parseSetting 70 = .ok (.aload_n 0, 1) := by decide +kernel
theorem dX9_parseSetting_71 : decode cX9_parseSetting 71 = .ok (.getfield 119, 3) := by decide +kernel
theorem dX9_parseSetting_74 : decode cX9_parseSetting 74 = .ok (.ifCond .ne 21, 3) := by decide +kernel
theorem dX9_parseSetting_77 : decode cX9_parseSetting 77 = .ok (.aload_n 0, 1) := by decide +kernel
theorem dX9_parseSetting_78 : decode cX9_parseSetting 78 = .ok (.getfield 13, 3) := by decide +kernel
theorem dX9_parseSetting_81 : decode cX9_parseSetting 81 = .ok (.iload_n 1, 1) := by decide +kernel
theorem dX9_parseSetting_82 : decode cX9_parseSetting 82 = .ok (.aload_n 0, 1) := by decide +kernel
theorem dX9_parseSetting_83 : decode cX9_parseSetting 83 = .ok (.iload_n 1, 1) := by decide +kernel
theorem dX9_parseSetting_84 : decode cX9_parseSetting 84 = .ok (.invokestatic 194, 3) := by decide +kernel
theorem dX9_parseSetting_87 : decode cX9_parseSetting 87 = .ok (.iload_n 1, 1) := by decide +kernel
theorem dX9_parseSetting_88 : decode cX9_parseSetting 88 = .ok (.invokestatic 198, 3) := by decide +kernel
theorem dX9_parseSetting_91 : decode cX9_parseSetting 91 = .ok (.invokevirtual 171, 3) := by decide +kernel
theorem dX9_parseSetting_94 : decode cX9_parseSetting 94 = .ok (.iastore, 1) := by decide +kernel
theorem dX9_parseSetting_95 : decode cX9_parseSetting 95 = .ok (.return_, 1) := by decide +kernel
theorem dX9_parseStatement_0 : decode cX9_parseStatement 0 = .ok (.aload_n 0, 1) := by decide +kernel
theorem dX9_parseStatement_1 : decode cX9_parseStatement 1 = .ok (.ldc2_w 201, 3) := by decide +kernel
theorem dX9_parseStatement_4 : decode cX9_parseStatement 4 = .ok (.invokevirtual 182, 3) := by decide +kernel
theorem dX9_parseStatement_7 : decode cX9_parseStatement 7 = .ok (.ifCond .eq 10, 3) := by decide +kernel
theorem dX9_parseStatement_10 : decode cX9_parseStatement 10 = .ok (.aload_n 0, 1) := by decide +kernel
theorem dX9_parseStatement_11 : decode cX9_parseStatement 11 = .ok (.invokevirtual 203, 3) := by decide +kernel
theorem dX9_parseStatement_14 : decode cX9_parseStatement 14 = .ok (.goto 61, 3) := by decide +kernel
theorem dX9_parseStatement_17 : decode cX9_parseStatement 17 = .ok (.aload_n 0, 1) := by decide +kernel
theorem dX9_parseStatement_18 : decode cX9_parseStatement 18 = .ok (.ldc2_w 206, 3) := by decide +kernel
theorem dX9_parseStatement_21 : decode cX9_parseStatement 21 = .ok (.invokevirtual 182, 3) := by decide +kernel
theorem dX9_parseStatement_24 : decode cX9_parseStatement 24 = .ok (.ifCond .eq 10, 3) := by decide +kernel
theorem dX9_parseStatement_27 : decode cX9_parseStatement 27 = .ok (.aload_n 0, 1) := by decide +kernel
theorem dX9_parseStatement_28 : decode cX9_parseStatement 28 = .ok (.invokevirtual 208, 3) := by decide +kernel
theorem dX9_parseStatement_31 : decode cX9_parseStatement 31 = .ok (.goto 44, 3) := by decide +kernel
theorem dX9_parseStatement_34 : decode cX9_parseStatement 34 = .ok (.aload_n 0, 1) := by decide +kernel
theorem dX9_parseStatement_35 : decode cX9_parseStatement 35 = .ok (.ldc2_w 132, 3) := by decide +kernel
theorem dX9_parseStatement_38 : decode cX9_parseStatement 38 = .ok (.invokevirtual 182, 3) := by decide +kernel
theorem dX9_parseStatement_41 : decode cX9_parseStatement 41 = .ok (.ifCond .eq 10, 3) := by decide +kernel
theorem dX9_parseStatement_44 : decode cX9_parseStatement 44 = .ok (.aload_n 0, 1) := by decide +kernel
theorem dX9_parseStatement_45 : decode cX9_parseStatement 45 = .ok (.invokevirtual 211, 3) := by decide +kernel
theorem dX9_parseStatement_48 : decode cX9_parseStatement 48 = .ok (.goto 27, 3) := by decide +kernel
theorem dX9_parseStatement_51 : decode cX9_parseStatement 51 = .ok (.aload_n 0, 1) := by decide +kernel
theorem dX9_parseStatement_52 : decode cX9_parseStatement 52 = .ok (.ldc2_w 138, 3) := by decide +kernel
theorem dX9_parseStatement_55 : decode cX9_parseStatement 55 = .ok (.invokevirtual 182, 3) := by decide +kernel
theorem dX9_parseStatement_58 : decode cX9_parseStatement 58 = .ok (.ifCond .eq 10, 3) := by decide +kernel
theorem dX9_parseStatement_61 : decode cX9_parseStatement 61 = .ok (.aload_n 0, 1) := by decide +kernel
theorem dX9_parseStatement_62 : decode cX9_parseStatement 62 = .ok (.invokevirtual 214, 3) := by decide +kernel
theorem dX9_parseStatement_65 : decode cX9_parseStatement 65 = .ok (.goto 10, 3) := by decide +kernel
theorem dX9_parseStatement_68 : decode cX9_parseStatement 68 = .ok (.aload_n 0, 1) := by decide +kernel
theorem dX9_parseStatement_69 : decode cX9_parseStatement 69 = .ok (.iconst 0, 1) := by decide +kernel
theorem dX9_parseStatement_70 : decode cX9_parseStatement 70 = .ok (.bipush (-11), 2) := by decide +kernel
theorem dX9_parseStatement_72 : decode cX9_parseStatement 72 = .ok (.invokevirtual 125, 3) := by decide +kernel
theorem dX9_parseStatement_75 : decode cX9_parseStatement 75 = .ok (.return_, 1) := by decide +kernel
theorem dX9_load_0 : decode cX9_load 0 = .ok (.aload_n 0, 1) := by decide +kernel
theorem dX9_load_1 : decode cX9_load 1 = .ok (.iconst 0, 1) := by decide +kernel
theorem dX9_load_2 : decode cX9_load 2 = .ok (.putfield 77, 3) := by decide +kernel
theorem dX9_load_5 : decode cX9_load 5 = .ok (.iload_n 1, 1) := by decide +kernel
theorem dX9_load_6 : decode cX9_load 6 = .ok (.iconst 0, 1) := by decide +kernel
theorem dX9_load_7 : decode cX9_load 7 = .ok (.aload_n 0, 1) := by decide +kernel
theorem dX9_load_8 : decode cX9_load 8 = .ok (.getfield 83, 3) := by decide +kernel
theorem dX9_load_11 : decode cX9_load 11 = .ok (.invokestatic 113, 3) := by decide +kernel
theorem dX9_load_14 : decode cX9_load 14 = .ok (.ifCond .ne 6, 3) := by decide +kernel
theorem dX9_load_17 : decode cX9_load 17 = .ok (.bipush (-2), 2) := by decide +kernel
theorem dX9_load_19 : decode cX9_load 19 = .ok (.ireturn, 1) := by decide +kernel
theorem dX9_load_20 : decode cX9_load 20 = .ok (.aload_n 0, 1) := by decide +kernel
theorem dX9_load_21 : decode cX9_load 21 = .ok (.iload_n 1, 1) := by decide +kernel
theorem dX9_load_22 : decode cX9_load 22 = .ok (.putfield 93, 3) := by decide +kernel
theorem dX9_load_25 : decode cX9_load 25 = .ok (.aload_n 0, 1) := by decide +kernel
theorem dX9_load_26 : decode cX9_load 26 = .ok (.iconst 0, 1) := by decide +kernel
theorem dX9_load_27 : decode cX9_load 27 = .ok (.putfield 90, 3) := by decide +kernel
theorem dX9_load_30 : decode cX9_load 30 = .ok (.aload_n 0, 1) := by decide +kernel
theorem dX9_load_31 : decode cX9_load 31 = .ok (.iconst 0, 1) := by decide +kernel
theorem dX9_load_32 : decode cX9_load 32 = .ok (.putfield 119, 3) := by decide +kernel
theorem dX9_load_35 : decode cX9_load 35 = .ok (.aload_n 0, 1) := by decide +kernel
theorem dX9_load_36 : decode cX9_load 36 = .ok (.iconst (-1), 1) := by decide +kernel
theorem dX9_load_37 : decode cX9_load 37 = .ok (.putfield 41, 3) := by decide +kernel
theorem dX9_load_40 : decode cX9_load 40 = .ok (.aload_n 0, 1) := by decide +kernel
theorem dX9_load_41 : decode cX9_load 41 = .ok (.iconst 0, 1) := by decide +kernel
theorem dX9_load_42 : decode cX9_load 42 = .ok (.putfield 191, 3) := by decide +kernel
theorem dX9_load_45 : decode cX9_load 45 = .ok (.aload_n 0, 1) := by decide +kernel
theorem dX9_load_46 : decode cX9_load 46 = .ok (.iconst 0, 1) := by decide +kernel
theorem dX9_load_47 : decode cX9_load 47 = .ok (.putfield 217, 3) := by decide +kernel
theorem dX9_load_50 : decode cX9_load 50 = .ok (.aload_n 0, 1) := by decide +kernel
theorem dX9_load_51 : decode cX9_load 51 = .ok (.iconst 0, 1) := by decide +kernel
theorem dX9_load_52 : decode cX9_load 52 = .ok (.putfield 153, 3) := by decide +kernel
theorem dX9_load_55 : decode cX9_load 55 = .ok (.aload_n 0, 1) := by decide +kernel
theorem dX9_load_56 : decode cX9_load 56 = .ok (.iconst 0, 1) := by decide +kernel
theorem dX9_load_57 : decode cX9_load 57 = .ok (.putfield 160, 3) := by decide +kernel
theorem dX9_load_60 : decode cX9_load 60 = .ok (.aload_n 0, 1) := by decide +kernel
theorem dX9_load_61 : decode cX9_load 61 = .ok (.iconst 0, 1) := by decide +kernel
theorem dX9_load_62 : decode cX9_load 62 = .ok (.putfield 179, 3) := by decide +kernel
theorem dX9_load_65 : decode cX9_load 65 = .ok (.aload_n 0, 1) := by decide +kernel
theorem dX9_load_66 : decode cX9_load 66 = .ok (.getfield 13, 3) := by decide +kernel
theorem dX9_load_69 : decode cX9_load 69 = .ok (.invokestatic 73, 3) := by decide +kernel
theorem dX9_load_72 : decode cX9_load 72 = .ok (.aload_n 0, 1) := by decide +kernel
theorem dX9_load_73 : decode cX9_load 73 = .ok (.invokevirtual 122, 3) := by decide +kernel
theorem dX9_load_76 : decode cX9_load 76 = .ok (.aload_n 0, 1) := by decide +kernel
theorem dX9_load_77 : decode cX9_load 77 = .ok (.getfield 119, 3) := by decide +kernel
theorem dX9_load_80 : decode cX9_load 80 = .ok (.ifCond .ne 50, 3) := by decide +kernel
theorem dX9_load_83 : decode cX9_load 83 = .ok (.aload_n 0, 1) := by decide +kernel
theorem dX9_load_84 : decode cX9_load 84 = .ok (.getfield 110, 3) := by decide +kernel
theorem dX9_load_87 : decode cX9_load 87 = .ok (.ifCond .eq 43, 3) := by decide +kernel
theorem dX9_load_90 : decode cX9_load 90 = .ok (.aload_n 0, 1) := by decide +kernel
theorem dX9_load_91 : decode cX9_load 91 = .ok (.invokevirtual 220, 3) := by decide +kernel
theorem dX9_load_94 : decode cX9_load 94 = .ok (.aload_n 0, 1) := by decide +kernel
theorem dX9_load_95 : decode cX9_load 95 = .ok (.aload_n 0, 1) := by decide +kernel
theorem dX9_load_96 : decode cX9_load 96 = .ok (.getfield 110, 3) := by decide +kernel
theorem dX9_load_99 : decode cX9_load 99 = .ok (.iconst 3, 1) := by decide +kernel
theorem dX9_load_100 : decode cX9_load 100 = .ok (.if_icmp .ne 7, 3) := by decide +kernel
theorem dX9_load_103 : decode cX9_load 103 = .ok (.iconst 1, 1) := by decide +kernel
theorem dX9_load_104 : decode cX9_load 104 = .ok (.goto 4, 3) := by decide +kernel
theorem dX9_load_107 : decode cX9_load 107 = .ok (.iconst 0, 1) := by decide +kernel
theorem dX9_load_108 : decode cX9_load 108 = .ok (.bipush (-11), 2) := by decide +kernel
theorem dX9_load_110 : decode cX9_load 110 = .ok (.invokevirtual 125, 3) := by decide +kernel
theorem dX9_load_113 : decode cX9_load 113 = .ok (.aload_n 0, 1) := by decide +kernel
theorem dX9_load_114 : decode cX9_load 114 = .ok (.invokevirtual 129, 3) := by decide +kernel
theorem dX9_load_117 : decode cX9_load 117 = .ok (.aload_n 0, 1) := by decide +kernel
theorem dX9_load_118 : decode cX9_load 118 = .ok (.dup, 1) := by decide +kernel
theorem dX9_load_119 : decode cX9_load 119 = .ok (.getfield 217, 3) := by decide +kernel
theorem dX9_load_122 : decode cX9_load 122 = .ok (.iconst 1, 1) := by decide +kernel
theorem dX9_load_123 : decode cX9_load 123 = .ok (.iadd, 1) := by decide +kernel
theorem dX9_load_124 : decode cX9_load 124 = .ok (.putfield 217, 3) := by decide +kernel
theorem dX9_load_127 : decode cX9_load 127 = .ok (.goto (-51), 3) := by decide +kernel
theorem dX9_load_130 : decode cX9_load 130 = .ok (.aload_n 0, 1) := by decide +kernel
theorem dX9_load_131 : decode cX9_load 131 = .ok (.iconst 0, 1) := by decide +kernel
theorem dX9_load_132 : decode cX9_load 132 = .ok (.putfield 83, 3) := by decide +kernel
theorem dX9_load_135 : decode cX9_load 135 = .ok (.aload_n 0, 1) := by decide +kernel
theorem dX9_load_136 : decode cX9_load 136 = .ok (.getfield 119, 3) := by decide +kernel
theorem dX9_load_139 : decode cX9_load 139 = .ok (.ifCond .eq 8, 3) := by decide +kernel
theorem dX9_load_142 : decode cX9_load 142 = .ok (.aload_n 0, 1) := by decide +kernel
theorem dX9_load_143 : decode cX9_load 143 = .ok (.getfield 119, 3) := by decide +kernel
theorem dX9_load_146 : decode cX9_load 146 = .ok (.ireturn, 1) := by decide +kernel
theorem dX9_load_147 : decode cX9_load 147 = .ok (.iconst 0, 1) := by decide +kernel
theorem dX9_load_148 : decode cX9_load 148 = .ok (.istore_n 2, 1) := by decide +kernel
theorem dX9_load_149 : decode cX9_load 149 = .ok (.iload_n 2, 1) := by decide +kernel
theorem dX9_load_150 : decode cX9_load 150 = .ok (.bipush 92, 2) := by decide +kernel
theorem dX9_load_152 : decode cX9_load 152 = .ok (.if_icmp .ge 21, 3) := by decide +kernel
theorem dX9_load_155 : decode cX9_load 155 = .ok (.aload_n 0, 1) := by decide +kernel
theorem dX9_load_156 : decode cX9_load 156 = .ok (.getfield 7, 3) := by decide +kernel
theorem dX9_load_159 : decode cX9_load 159 = .ok (.iload_n 2, 1) := by decide +kernel
theorem dX9_load_160 : decode cX9_load 160 = .ok (.aload_n 0, 1) := by decide +kernel
theorem dX9_load_161 : decode cX9_load 161 = .ok (.getfield 13, 3) := by decide +kernel
theorem dX9_load_164 : decode cX9_load 164 = .ok (.iload_n 2, 1) := by decide +kernel
theorem dX9_load_165 : decode cX9_load 165 = .ok (.iaload, 1) := by decide +kernel
theorem dX9_load_166 : decode cX9_load 166 = .ok (.iastore, 1) := by decide +kernel
theorem dX9_load_167 : decode cX9_load 167 = .ok (.iinc 2 1, 3) := by decide +kernel
theorem dX9_load_170 : decode cX9_load 170 = .ok (.goto (-21), 3) := by decide +kernel
theorem dX9_load_173 : decode cX9_load 173 = .ok (.iconst 0, 1) := by decide +kernel
theorem dX9_load_174 : decode cX9_load 174 = .ok (.istore_n 2, 1) := by decide +kernel
theorem dX9_load_175 : decode cX9_load 175 = .ok (.iload_n 2, 1) := by decide +kernel
theorem dX9_load_176 : decode cX9_load 176 = .ok (.iconst 4, 1) := by decide +kernel
theorem dX9_load_177 : decode cX9_load 177 = .ok (.if_icmp .ge 21, 3) := by decide +kernel
theorem dX9_load_180 : decode cX9_load 180 = .ok (.aload_n 0, 1) := by decide +kernel
theorem dX9_load_181 : decode cX9_load 181 = .ok (.getfield 19, 3) := by decide +kernel
theorem dX9_load_184 : decode cX9_load 184 = .ok (.iload_n 2, 1) := by decide +kernel
theorem dX9_load_185 : decode cX9_load 185 = .ok (.aload_n 0, 1) := by decide +kernel
theorem dX9_load_186 : decode cX9_load 186 = .ok (.getfield 28, 3) := by decide +kernel
theorem dX9_load_189 : decode cX9_load 189 = .ok (.iload_n 2, 1) := by decide +kernel
theorem dX9_load_190 : decode cX9_load 190 = .ok (.iaload, 1) := by decide +kernel
theorem dX9_load_191 : decode cX9_load 191 = .ok (.iastore, 1) := by decide +kernel
theorem dX9_load_192 : decode cX9_load 192 = .ok (.iinc 2 1, 3) := by decide +kernel
theorem dX9_load_195 : decode cX9_load 195 = .ok (.goto (-20), 3) := by decide +kernel
theorem dX9_load_198 : decode cX9_load 198 = .ok (.iconst 0, 1) := by decide +kernel
theorem dX9_load_199 : decode cX9_load 199 = .ok (.istore_n 2, 1) := by decide +kernel
theorem dX9_load_200 : decode cX9_load 200 = .ok (.iload_n 2, 1) := by decide +kernel
theorem dX9_load_201 : decode cX9_load 201 = .ok (.bipush 12, 2) := by decide +kernel
theorem dX9_load_203 : decode cX9_load 203 = .ok (.if_icmp .ge 33, 3) := by decide +kernel
theorem dX9_load_206 : decode cX9_load 206 = .ok (.aload_n 0, 1) := by decide +kernel
theorem dX9_load_207 : decode cX9_load 207 = .ok (.getfield 22, 3) := by decide +kernel
theorem dX9_load_210 : decode cX9_load 210 = .ok (.iload_n 2, 1) := by decide +kernel
theorem dX9_load_211 : decode cX9_load 211 = .ok (.aload_n 0, 1) := by decide +kernel
theorem dX9_load_212 : decode cX9_load 212 = .ok (.getfield 31, 3) := by decide +kernel
theorem dX9_load_215 : decode cX9_load 215 = .ok (.iload_n 2, 1) := by decide +kernel
theorem dX9_load_216 : decode cX9_load 216 = .ok (.iaload, 1) := by decide +kernel
theorem dX9_load_217 : decode cX9_load 217 = .ok (.iastore, 1) := by decide +kernel
theorem dX9_load_218 : decode cX9_load 218 = .ok (.aload_n 0, 1) := by decide +kernel
theorem dX9_load_219 : decode cX9_load 219 = .ok (.getfield 25, 3) := by decide +kernel
theorem dX9_load_222 : decode cX9_load 222 = .ok (.iload_n 2, 1) := by decide +kernel
theorem dX9_load_223 : decode cX9_load 223 = .ok (.aload_n 0, 1) := by decide +kernel
theorem dX9_load_224 : decode cX9_load 224 = .ok (.getfield 34, 3) := by decide +kernel
theorem dX9_load_227 : decode cX9_load 227 = .ok (.iload_n 2, 1) := by decide +kernel
theorem dX9_load_228 : decode cX9_load 228 = .ok (.iaload, 1) := by decide +kernel
theorem dX9_load_229 : decode cX9_load 229 = .ok (.iastore, 1) := by decide +kernel
theorem dX9_load_230 : decode cX9_load 230 = .ok (.iinc 2 1, 3) := by decide +kernel
theorem dX9_load_233 : decode cX9_load 233 = .ok (.goto (-33), 3) := by decide +kernel
theorem dX9_load_236 : decode cX9_load 236 = .ok (.aload_n 0, 1) := by decide +kernel
theorem dX9_load_237 : decode cX9_load 237 = .ok (.aload_n 0, 1) := by decide +kernel
theorem dX9_load_238 : decode cX9_load 238 = .ok (.getfield 153, 3) := by decide +kernel
theorem dX9_load_241 : decode cX9_load 241 = .ok (.putfield 223, 3) := by decide +kernel
theorem dX9_load_244 : decode cX9_load 244 = .ok (.aload_n 0, 1) := by decide +kernel
theorem dX9_load_245 : decode cX9_load 245 = .ok (.aload_n 0, 1) := by decide +kernel
theorem dX9_load_246 : decode cX9_load 246 = .ok (.getfield 160, 3) := by decide +kernel
theorem dX9_load_249 : decode cX9_load 249 = .ok (.putfield 226, 3) := by decide +kernel
theorem dX9_load_252 : decode cX9_load 252 = .ok (.aload_n 0, 1) := by decide +kernel
theorem dX9_load_253 : decode cX9_load 253 = .ok (.aload_n 0, 1) := by decide +kernel
theorem dX9_load_254 : decode cX9_load 254 = .ok (.getfield 179, 3) := by decide +kernel
theorem dX9_load_257 : decode cX9_load 257 = .ok (.putfield 229, 3) := by decide +kernel
theorem dX9_load_260 : decode cX9_load 260 = .ok (.aload_n 0, 1) := by decide +kernel
theorem dX9_load_261 : decode cX9_load 261 = .ok (.iconst 0, 1) := by decide +kernel
theorem dX9_load_262 : decode cX9_load 262 = .ok (.putfield 80, 3) := by decide +kernel
theorem dX9_load_265 : decode cX9_load 265 = .ok (.aload_n 0, 1) := by decide +kernel
theorem dX9_load_266 : decode cX9_load 266 = .ok (.getfield 217, 3) := by decide +kernel
theorem dX9_load_269 : decode cX9_load 269 = .ok (.ireturn, 1) := by decide +kernel
theorem dX9_isDistrict_0 : decode cX9_isDistrict 0 = .ok (.iload_n 1, 1) := by decide +kernel
theorem dX9_isDistrict_1 : decode cX9_isDistrict 1 = .ok (.iconst 0, 1) := by decide +kernel
theorem dX9_isDistrict_2 : decode cX9_isDistrict 2 = .ok (.aload_n 0, 1) := by decide +kernel
theorem dX9_isDistrict_3 : decode cX9_isDistrict 3 = .ok (.getfield 223, 3) := by decide +kernel
theorem dX9_isDistrict_6 : decode cX9_isDistrict 6 = .ok (.iconst 1, 1) := by decide +kernel
theorem dX9_isDistrict_7 : decode cX9_isDistrict 7 = .ok (.isub, 1) := by decide +kernel
theorem dX9_isDistrict_8 : decode cX9_isDistrict 8 = .ok (.invokestatic 113, 3) := by decide +kernel
theorem dX9_isDistrict_11 : decode cX9_isDistrict 11 = .ok (.ireturn, 1) := by decide +kernel
theorem dX9_isProject_0 : decode cX9_isProject 0 = .ok (.iload_n 1, 1) := by decide +kernel
theorem dX9_isProject_1 : decode cX9_isProject 1 = .ok (.iconst 0, 1) := by decide +kernel
theorem dX9_isProject_2 : decode cX9_isProject 2 = .ok (.aload_n 0, 1) := by decide +kernel
theorem dX9_isProject_3 : decode cX9_isProject 3 = .ok (.getfield 226, 3) := by decide +kernel
theorem dX9_isProject_6 : decode cX9_isProject 6 = .ok (.iconst 1, 1) := by decide +kernel
theorem dX9_isProject_7 : decode cX9_isProject 7 = .ok (.isub, 1) := by decide +kernel
theorem dX9_isProject_8 : decode cX9_isProject 8 = .ok (.invokestatic 113, 3) := by decide +kernel
theorem dX9_isProject_11 : decode cX9_isProject 11 = .ok (.ireturn, 1) := by decide +kernel
theorem dX9_isVoter_0 : decode cX9_isVoter 0 = .ok (.iload_n 1, 1) := by decide +kernel
theorem dX9_isVoter_1 : decode cX9_isVoter 1 = .ok (.iconst 0, 1) := by decide +kernel
theorem dX9_isVoter_2 : decode cX9_isVoter 2 = .ok (.aload_n 0, 1) := by decide +kernel
theorem dX9_isVoter_3 : decode cX9_isVoter 3 = .ok (.getfield 229, 3) := by decide +kernel
theorem dX9_isVoter_6 : decode cX9_isVoter 6 = .ok (.iconst 1, 1) := by decide +kernel
theorem dX9_isVoter_7 : decode cX9_isVoter 7 = .ok (.isub, 1) := by decide +kernel
theorem dX9_isVoter_8 : decode cX9_isVoter 8 = .ok (.invokestatic 113, 3) := by decide +kernel
theorem dX9_isVoter_11 : decode cX9_isVoter 11 = .ok (.ireturn, 1) := by decide +kernel
theorem dX9_districtCount_0 : decode cX9_districtCount 0 = .ok (.aload_n 0, 1) := by decide +kernel
theorem dX9_districtCount_1 : decode cX9_districtCount 1 = .ok (.iconst 0, 1) := by decide +kernel
theorem dX9_districtCount_2 : decode cX9_districtCount 2 = .ok (.putfield 77, 3) := by decide +kernel
theorem dX9_districtCount_5 : decode cX9_districtCount 5 = .ok (.aload_n 0, 1) := by decide +kernel
theorem dX9_districtCount_6 : decode cX9_districtCount 6 = .ok (.getfield 223, 3) := by decide +kernel
theorem dX9_districtCount_9 : decode cX9_districtCount 9 = .ok (.ireturn, 1) := by decide +kernel
theorem dX9_projectCount_0 : decode cX9_projectCount 0 = .ok (.aload_n 0, 1) := by decide +kernel
theorem dX9_projectCount_1 : decode cX9_projectCount 1 = .ok (.iconst 0, 1) := by decide +kernel
theorem dX9_projectCount_2 : decode cX9_projectCount 2 = .ok (.putfield 77, 3) := by decide +kernel
theorem dX9_projectCount_5 : decode cX9_projectCount 5 = .ok (.aload_n 0, 1) := by decide +kernel
theorem dX9_projectCount_6 : decode cX9_projectCount 6 = .ok (.getfield 226, 3) := by decide +kernel
theorem dX9_projectCount_9 : decode cX9_projectCount 9 = .ok (.ireturn, 1) := by decide +kernel
theorem dX9_voterCount_0 : decode cX9_voterCount 0 = .ok (.aload_n 0, 1) := by decide +kernel
theorem dX9_voterCount_1 : decode cX9_voterCount 1 = .ok (.iconst 0, 1) := by decide +kernel
theorem dX9_voterCount_2 : decode cX9_voterCount 2 = .ok (.putfield 77, 3) := by decide +kernel
theorem dX9_voterCount_5 : decode cX9_voterCount 5 = .ok (.aload_n 0, 1) := by decide +kernel
theorem dX9_voterCount_6 : decode cX9_voterCount 6 = .ok (.getfield 229, 3) := by decide +kernel
theorem dX9_voterCount_9 : decode cX9_voterCount 9 = .ok (.ireturn, 1) := by decide +kernel
theorem dX9_districtNamed_0 : decode cX9_districtNamed 0 = .ok (.aload_n 0, 1) := by decide +kernel
theorem dX9_districtNamed_1 : decode cX9_districtNamed 1 = .ok (.iconst 0, 1) := by decide +kernel
theorem dX9_districtNamed_2 : decode cX9_districtNamed 2 = .ok (.putfield 77, 3) := by decide +kernel
theorem dX9_districtNamed_5 : decode cX9_districtNamed 5 = .ok (.aload_n 0, 1) := by decide +kernel
theorem dX9_districtNamed_6 : decode cX9_districtNamed 6 = .ok (.getfield 19, 3) := by decide +kernel
theorem dX9_districtNamed_9 : decode cX9_districtNamed 9 = .ok (.aload_n 0, 1) := by decide +kernel
theorem dX9_districtNamed_10 : decode cX9_districtNamed 10 = .ok (.getfield 223, 3) := by decide +kernel
theorem dX9_districtNamed_13 : decode cX9_districtNamed 13 = .ok (.iload_n 1, 1) := by decide +kernel
theorem dX9_districtNamed_14 : decode cX9_districtNamed 14 = .ok (.invokestatic 156, 3) := by decide +kernel
theorem dX9_districtNamed_17 : decode cX9_districtNamed 17 = .ok (.ireturn, 1) := by decide +kernel
theorem dX9_projectNamed_0 : decode cX9_projectNamed 0 = .ok (.aload_n 0, 1) := by decide +kernel
theorem dX9_projectNamed_1 : decode cX9_projectNamed 1 = .ok (.iconst 0, 1) := by decide +kernel
theorem dX9_projectNamed_2 : decode cX9_projectNamed 2 = .ok (.putfield 77, 3) := by decide +kernel
theorem dX9_projectNamed_5 : decode cX9_projectNamed 5 = .ok (.aload_n 0, 1) := by decide +kernel
theorem dX9_projectNamed_6 : decode cX9_projectNamed 6 = .ok (.getfield 22, 3) := by decide +kernel
theorem dX9_projectNamed_9 : decode cX9_projectNamed 9 = .ok (.aload_n 0, 1) := by decide +kernel
theorem dX9_projectNamed_10 : decode cX9_projectNamed 10 = .ok (.getfield 226, 3) := by decide +kernel
theorem dX9_projectNamed_13 : decode cX9_projectNamed 13 = .ok (.iload_n 1, 1) := by decide +kernel
theorem dX9_projectNamed_14 : decode cX9_projectNamed 14 = .ok (.invokestatic 156, 3) := by decide +kernel
theorem dX9_projectNamed_17 : decode cX9_projectNamed 17 = .ok (.ireturn, 1) := by decide +kernel
theorem dX9_budgetOf_0 : decode cX9_budgetOf 0 = .ok (.aload_n 0, 1) := by decide +kernel
theorem dX9_budgetOf_1 : decode cX9_budgetOf 1 = .ok (.aload_n 0, 1) := by decide +kernel
theorem dX9_budgetOf_2 : decode cX9_budgetOf 2 = .ok (.iload_n 1, 1) := by decide +kernel
theorem dX9_budgetOf_3 : decode cX9_budgetOf 3 = .ok (.invokevirtual 232, 3) := by decide +kernel
theorem dX9_budgetOf_6 : decode cX9_budgetOf 6 = .ok (.invokevirtual 236, 3) := by decide +kernel
theorem dX9_budgetOf_9 : decode cX9_budgetOf 9 = .ok (.ifCond .eq 7, 3) := by decide +kernel
theorem dX9_budgetOf_12 : decode cX9_budgetOf 12 = .ok (.iconst 0, 1) := by decide +kernel
theorem dX9_budgetOf_13 : decode cX9_budgetOf 13 = .ok (.goto 11, 3) := by decide +kernel
theorem dX9_budgetOf_16 : decode cX9_budgetOf 16 = .ok (.aload_n 0, 1) := by decide +kernel
theorem dX9_budgetOf_17 : decode cX9_budgetOf 17 = .ok (.getfield 7, 3) := by decide +kernel
theorem dX9_budgetOf_20 : decode cX9_budgetOf 20 = .ok (.iconst 4, 1) := by decide +kernel
theorem dX9_budgetOf_21 : decode cX9_budgetOf 21 = .ok (.iload_n 1, 1) := by decide +kernel
theorem dX9_budgetOf_22 : decode cX9_budgetOf 22 = .ok (.iadd, 1) := by decide +kernel
theorem dX9_budgetOf_23 : decode cX9_budgetOf 23 = .ok (.iaload, 1) := by decide +kernel
theorem dX9_budgetOf_24 : decode cX9_budgetOf 24 = .ok (.ireturn, 1) := by decide +kernel
theorem dX9_costOf_0 : decode cX9_costOf 0 = .ok (.aload_n 0, 1) := by decide +kernel
theorem dX9_costOf_1 : decode cX9_costOf 1 = .ok (.aload_n 0, 1) := by decide +kernel
theorem dX9_costOf_2 : decode cX9_costOf 2 = .ok (.iload_n 1, 1) := by decide +kernel
theorem dX9_costOf_3 : decode cX9_costOf 3 = .ok (.invokevirtual 240, 3) := by decide +kernel
theorem dX9_costOf_6 : decode cX9_costOf 6 = .ok (.invokevirtual 236, 3) := by decide +kernel
theorem dX9_costOf_9 : decode cX9_costOf 9 = .ok (.ifCond .eq 7, 3) := by decide +kernel
theorem dX9_costOf_12 : decode cX9_costOf 12 = .ok (.iconst 0, 1) := by decide +kernel
theorem dX9_costOf_13 : decode cX9_costOf 13 = .ok (.goto 12, 3) := by decide +kernel
theorem dX9_costOf_16 : decode cX9_costOf 16 = .ok (.aload_n 0, 1) := by decide +kernel
theorem dX9_costOf_17 : decode cX9_costOf 17 = .ok (.getfield 7, 3) := by decide +kernel
theorem dX9_costOf_20 : decode cX9_costOf 20 = .ok (.bipush 8, 2) := by decide +kernel
theorem dX9_costOf_22 : decode cX9_costOf 22 = .ok (.iload_n 1, 1) := by decide +kernel
theorem dX9_costOf_23 : decode cX9_costOf 23 = .ok (.iadd, 1) := by decide +kernel
theorem dX9_costOf_24 : decode cX9_costOf 24 = .ok (.iaload, 1) := by decide +kernel
theorem dX9_costOf_25 : decode cX9_costOf 25 = .ok (.ireturn, 1) := by decide +kernel
theorem dX9_districtsOf_0 : decode cX9_districtsOf 0 = .ok (.aload_n 0, 1) := by decide +kernel
theorem dX9_districtsOf_1 : decode cX9_districtsOf 1 = .ok (.aload_n 0, 1) := by decide +kernel
theorem dX9_districtsOf_2 : decode cX9_districtsOf 2 = .ok (.iload_n 1, 1) := by decide +kernel
theorem dX9_districtsOf_3 : decode cX9_districtsOf 3 = .ok (.invokevirtual 240, 3) := by decide +kernel
theorem dX9_districtsOf_6 : decode cX9_districtsOf 6 = .ok (.invokevirtual 236, 3) := by decide +kernel
theorem dX9_districtsOf_9 : decode cX9_districtsOf 9 = .ok (.ifCond .eq 7, 3) := by decide +kernel
theorem dX9_districtsOf_12 : decode cX9_districtsOf 12 = .ok (.iconst 0, 1) := by decide +kernel
theorem dX9_districtsOf_13 : decode cX9_districtsOf 13 = .ok (.goto 9, 3) := by decide +kernel
theorem dX9_districtsOf_16 : decode cX9_districtsOf 16 = .ok (.aload_n 0, 1) := by decide +kernel
theorem dX9_districtsOf_17 : decode cX9_districtsOf 17 = .ok (.getfield 25, 3) := by decide +kernel
theorem dX9_districtsOf_20 : decode cX9_districtsOf 20 = .ok (.iload_n 1, 1) := by decide +kernel
theorem dX9_districtsOf_21 : decode cX9_districtsOf 21 = .ok (.iaload, 1) := by decide +kernel
theorem dX9_districtsOf_22 : decode cX9_districtsOf 22 = .ok (.ireturn, 1) := by decide +kernel
theorem dX9_memberships_0 : decode cX9_memberships 0 = .ok (.aload_n 0, 1) := by decide +kernel
theorem dX9_memberships_1 : decode cX9_memberships 1 = .ok (.aload_n 0, 1) := by decide +kernel
theorem dX9_memberships_2 : decode cX9_memberships 2 = .ok (.iload_n 1, 1) := by decide +kernel
theorem dX9_memberships_3 : decode cX9_memberships 3 = .ok (.invokevirtual 243, 3) := by decide +kernel
theorem dX9_memberships_6 : decode cX9_memberships 6 = .ok (.invokevirtual 236, 3) := by decide +kernel
theorem dX9_memberships_9 : decode cX9_memberships 9 = .ok (.ifCond .eq 7, 3) := by decide +kernel
theorem dX9_memberships_12 : decode cX9_memberships 12 = .ok (.iconst 0, 1) := by decide +kernel
theorem dX9_memberships_13 : decode cX9_memberships 13 = .ok (.goto 12, 3) := by decide +kernel
theorem dX9_memberships_16 : decode cX9_memberships 16 = .ok (.aload_n 0, 1) := by decide +kernel
theorem dX9_memberships_17 : decode cX9_memberships 17 = .ok (.getfield 7, 3) := by decide +kernel
theorem dX9_memberships_20 : decode cX9_memberships 20 = .ok (.bipush 44, 2) := by decide +kernel
theorem dX9_memberships_22 : decode cX9_memberships 22 = .ok (.iload_n 1, 1) := by decide +kernel
theorem dX9_memberships_23 : decode cX9_memberships 23 = .ok (.iadd, 1) := by decide +kernel
theorem dX9_memberships_24 : decode cX9_memberships 24 = .ok (.iaload, 1) := by decide +kernel
theorem dX9_memberships_25 : decode cX9_memberships 25 = .ok (.ireturn, 1) := by decide +kernel
theorem dX9_approvals_0 : decode cX9_approvals 0 = .ok (.aload_n 0, 1) := by decide +kernel
theorem dX9_approvals_1 : decode cX9_approvals 1 = .ok (.aload_n 0, 1) := by decide +kernel
theorem dX9_approvals_2 : decode cX9_approvals 2 = .ok (.iload_n 1, 1) := by decide +kernel
theorem dX9_approvals_3 : decode cX9_approvals 3 = .ok (.invokevirtual 243, 3) := by decide +kernel
theorem dX9_approvals_6 : decode cX9_approvals 6 = .ok (.invokevirtual 236, 3) := by decide +kernel
theorem dX9_approvals_9 : decode cX9_approvals 9 = .ok (.ifCond .eq 7, 3) := by decide +kernel
theorem dX9_approvals_12 : decode cX9_approvals 12 = .ok (.iconst 0, 1) := by decide +kernel
theorem dX9_approvals_13 : decode cX9_approvals 13 = .ok (.goto 12, 3) := by decide +kernel
theorem dX9_approvals_16 : decode cX9_approvals 16 = .ok (.aload_n 0, 1) := by decide +kernel
theorem dX9_approvals_17 : decode cX9_approvals 17 = .ok (.getfield 7, 3) := by decide +kernel
theorem dX9_approvals_20 : decode cX9_approvals 20 = .ok (.bipush 68, 2) := by decide +kernel
theorem dX9_approvals_22 : decode cX9_approvals 22 = .ok (.iload_n 1, 1) := by decide +kernel
theorem dX9_approvals_23 : decode cX9_approvals 23 = .ok (.iadd, 1) := by decide +kernel
theorem dX9_approvals_24 : decode cX9_approvals 24 = .ok (.iaload, 1) := by decide +kernel
theorem dX9_approvals_25 : decode cX9_approvals 25 = .ok (.ireturn, 1) := by decide +kernel
theorem dX9_weightOf_0 : decode cX9_weightOf 0 = .ok (.aload_n 0, 1) := by decide +kernel
theorem dX9_weightOf_1 : decode cX9_weightOf 1 = .ok (.aload_n 0, 1) := by decide +kernel
theorem dX9_weightOf_2 : decode cX9_weightOf 2 = .ok (.iload_n 1, 1) := by decide +kernel
theorem dX9_weightOf_3 : decode cX9_weightOf 3 = .ok (.invokevirtual 243, 3) := by decide +kernel
theorem dX9_weightOf_6 : decode cX9_weightOf 6 = .ok (.invokevirtual 236, 3) := by decide +kernel
theorem dX9_weightOf_9 : decode cX9_weightOf 9 = .ok (.ifCond .eq 7, 3) := by decide +kernel
theorem dX9_weightOf_12 : decode cX9_weightOf 12 = .ok (.iconst 0, 1) := by decide +kernel
theorem dX9_weightOf_13 : decode cX9_weightOf 13 = .ok (.goto 12, 3) := by decide +kernel
theorem dX9_weightOf_16 : decode cX9_weightOf 16 = .ok (.aload_n 0, 1) := by decide +kernel
theorem dX9_weightOf_17 : decode cX9_weightOf 17 = .ok (.getfield 7, 3) := by decide +kernel
theorem dX9_weightOf_20 : decode cX9_weightOf 20 = .ok (.bipush 20, 2) := by decide +kernel
theorem dX9_weightOf_22 : decode cX9_weightOf 22 = .ok (.iload_n 1, 1) := by decide +kernel
theorem dX9_weightOf_23 : decode cX9_weightOf 23 = .ok (.iadd, 1) := by decide +kernel
theorem dX9_weightOf_24 : decode cX9_weightOf 24 = .ok (.iaload, 1) := by decide +kernel
theorem dX9_weightOf_25 : decode cX9_weightOf 25 = .ok (.ireturn, 1) := by decide +kernel
theorem dX9_getSetting_0 : decode cX9_getSetting 0 = .ok (.aload_n 0, 1) := by decide +kernel
theorem dX9_getSetting_1 : decode cX9_getSetting 1 = .ok (.iconst 0, 1) := by decide +kernel
theorem dX9_getSetting_2 : decode cX9_getSetting 2 = .ok (.putfield 77, 3) := by decide +kernel
theorem dX9_getSetting_5 : decode cX9_getSetting 5 = .ok (.iload_n 1, 1) := by decide +kernel
theorem dX9_getSetting_6 : decode cX9_getSetting 6 = .ok (.iconst 0, 1) := by decide +kernel
theorem dX9_getSetting_7 : decode cX9_getSetting 7 = .ok (.iconst 3, 1) := by decide +kernel
theorem dX9_getSetting_8 : decode cX9_getSetting 8 = .ok (.invokestatic 113, 3) := by decide +kernel
theorem dX9_getSetting_11 : decode cX9_getSetting 11 = .ok (.ifCond .eq 12, 3) := by decide +kernel
theorem dX9_getSetting_14 : decode cX9_getSetting 14 = .ok (.aload_n 0, 1) := by decide +kernel
theorem dX9_getSetting_15 : decode cX9_getSetting 15 = .ok (.getfield 7, 3) := by decide +kernel
theorem dX9_getSetting_18 : decode cX9_getSetting 18 = .ok (.iload_n 1, 1) := by decide +kernel
theorem dX9_getSetting_19 : decode cX9_getSetting 19 = .ok (.iaload, 1) := by decide +kernel
theorem dX9_getSetting_20 : decode cX9_getSetting 20 = .ok (.goto 5, 3) := by decide +kernel
theorem dX9_getSetting_23 : decode cX9_getSetting 23 = .ok (.bipush (-2), 2) := by decide +kernel
theorem dX9_getSetting_25 : decode cX9_getSetting 25 = .ok (.ireturn, 1) := by decide +kernel
theorem dX9_supports_0 : decode cX9_supports 0 = .ok (.aload_n 0, 1) := by decide +kernel
theorem dX9_supports_1 : decode cX9_supports 1 = .ok (.getfield 7, 3) := by decide +kernel
theorem dX9_supports_4 : decode cX9_supports 4 = .ok (.bipush 68, 2) := by decide +kernel
theorem dX9_supports_6 : decode cX9_supports 6 = .ok (.iload_n 1, 1) := by decide +kernel
theorem dX9_supports_7 : decode cX9_supports 7 = .ok (.iadd, 1) := by decide +kernel
theorem dX9_supports_8 : decode cX9_supports 8 = .ok (.iaload, 1) := by decide +kernel
theorem dX9_supports_9 : decode cX9_supports 9 = .ok (.iload_n 2, 1) := by decide +kernel
theorem dX9_supports_10 : decode cX9_supports 10 = .ok (.invokestatic 163, 3) := by decide +kernel
theorem dX9_supports_13 : decode cX9_supports 13 = .ok (.ifCond .eq 26, 3) := by decide +kernel
theorem dX9_supports_16 : decode cX9_supports 16 = .ok (.aload_n 0, 1) := by decide +kernel
theorem dX9_supports_17 : decode cX9_supports 17 = .ok (.getfield 7, 3) := by decide +kernel
theorem dX9_supports_20 : decode cX9_supports 20 = .ok (.bipush 44, 2) := by decide +kernel
theorem dX9_supports_22 : decode cX9_supports 22 = .ok (.iload_n 1, 1) := by decide +kernel
theorem dX9_supports_23 : decode cX9_supports 23 = .ok (.iadd, 1) := by decide +kernel
theorem dX9_supports_24 : decode cX9_supports 24 = .ok (.iaload, 1) := by decide +kernel
theorem dX9_supports_25 : decode cX9_supports 25 = .ok (.aload_n 0, 1) := by decide +kernel
theorem dX9_supports_26 : decode cX9_supports 26 = .ok (.getfield 25, 3) := by decide +kernel
theorem dX9_supports_29 : decode cX9_supports 29 = .ok (.iload_n 2, 1) := by decide +kernel
theorem dX9_supports_30 : decode cX9_supports 30 = .ok (.iaload, 1) := by decide +kernel
theorem dX9_supports_31 : decode cX9_supports 31 = .ok (.iand, 1) := by decide +kernel
theorem dX9_supports_32 : decode cX9_supports 32 = .ok (.ifCond .eq 7, 3) := by decide +kernel
theorem dX9_supports_35 : decode cX9_supports 35 = .ok (.iconst 1, 1) := by decide +kernel
theorem dX9_supports_36 : decode cX9_supports 36 = .ok (.goto 4, 3) := by decide +kernel
theorem dX9_supports_39 : decode cX9_supports 39 = .ok (.iconst 0, 1) := by decide +kernel
theorem dX9_supports_40 : decode cX9_supports 40 = .ok (.ireturn, 1) := by decide +kernel
theorem dX9_supporters_0 : decode cX9_supporters 0 = .ok (.aload_n 0, 1) := by decide +kernel
theorem dX9_supporters_1 : decode cX9_supporters 1 = .ok (.aload_n 0, 1) := by decide +kernel
theorem dX9_supporters_2 : decode cX9_supporters 2 = .ok (.iload_n 1, 1) := by decide +kernel
theorem dX9_supporters_3 : decode cX9_supporters 3 = .ok (.invokevirtual 240, 3) := by decide +kernel
theorem dX9_supporters_6 : decode cX9_supporters 6 = .ok (.invokevirtual 236, 3) := by decide +kernel
theorem dX9_supporters_9 : decode cX9_supporters 9 = .ok (.ifCond .eq 5, 3) := by decide +kernel
theorem dX9_supporters_12 : decode cX9_supporters 12 = .ok (.iconst 0, 1) := by decide +kernel
theorem dX9_supporters_13 : decode cX9_supporters 13 = .ok (.ireturn, 1) := by decide +kernel
theorem dX9_supporters_14 : decode cX9_supporters 14 = .ok (.iconst 0, 1) := by decide +kernel
theorem dX9_supporters_15 : decode cX9_supporters 15 = .ok (.istore_n 2, 1) := by decide +kernel
theorem dX9_supporters_16 : decode cX9_supporters 16 = .ok (.iconst 0, 1) := by decide +kernel
theorem dX9_supporters_17 : decode cX9_supporters 17 = .ok (.istore_n 3, 1) := by decide +kernel
theorem dX9_supporters_18 : decode cX9_supporters 18 = .ok (.iload_n 3, 1) := by decide +kernel
theorem dX9_supporters_19 : decode cX9_supporters 19 = .ok (.aload_n 0, 1) := by decide +kernel
theorem dX9_supporters_20 : decode cX9_supporters 20 = .ok (.getfield 229, 3) := by decide +kernel
theorem dX9_supporters_23 : decode cX9_supporters 23 = .ok (.if_icmp .ge 28, 3) := by decide +kernel
theorem dX9_supporters_26 : decode cX9_supporters 26 = .ok (.iload_n 2, 1) := by decide +kernel
theorem dX9_supporters_27 : decode cX9_supporters 27 = .ok (.aload_n 0, 1) := by decide +kernel
theorem dX9_supporters_28 : decode cX9_supporters 28 = .ok (.iload_n 3, 1) := by decide +kernel
theorem dX9_supporters_29 : decode cX9_supporters 29 = .ok (.iload_n 1, 1) := by decide +kernel
theorem dX9_supporters_30 : decode cX9_supporters 30 = .ok (.invokevirtual 246, 3) := by decide +kernel
theorem dX9_supporters_33 : decode cX9_supporters 33 = .ok (.ifCond .eq 9, 3) := by decide +kernel
theorem dX9_supporters_36 : decode cX9_supporters 36 = .ok (.iconst 1, 1) := by decide +kernel
theorem dX9_supporters_37 : decode cX9_supporters 37 = .ok (.iload_n 3, 1) := by decide +kernel
theorem dX9_supporters_38 : decode cX9_supporters 38 = .ok (.ishl, 1) := by decide +kernel
theorem dX9_supporters_39 : decode cX9_supporters 39 = .ok (.goto 4, 3) := by decide +kernel
theorem dX9_supporters_42 : decode cX9_supporters 42 = .ok (.iconst 0, 1) := by decide +kernel
theorem dX9_supporters_43 : decode cX9_supporters 43 = .ok (.ior, 1) := by decide +kernel
theorem dX9_supporters_44 : decode cX9_supporters 44 = .ok (.istore_n 2, 1) := by decide +kernel
theorem dX9_supporters_45 : decode cX9_supporters 45 = .ok (.iinc 3 1, 3) := by decide +kernel
theorem dX9_supporters_48 : decode cX9_supporters 48 = .ok (.goto (-30), 3) := by decide +kernel
theorem dX9_supporters_51 : decode cX9_supporters 51 = .ok (.iload_n 2, 1) := by decide +kernel
theorem dX9_supporters_52 : decode cX9_supporters 52 = .ok (.ireturn, 1) := by decide +kernel
theorem dX9_votesOf_0 : decode cX9_votesOf 0 = .ok (.iconst 0, 1) := by decide +kernel
theorem dX9_votesOf_1 : decode cX9_votesOf 1 = .ok (.istore_n 2, 1) := by decide +kernel
theorem dX9_votesOf_2 : decode cX9_votesOf 2 = .ok (.iconst 0, 1) := by decide +kernel
theorem dX9_votesOf_3 : decode cX9_votesOf 3 = .ok (.istore_n 3, 1) := by decide +kernel
theorem dX9_votesOf_4 : decode cX9_votesOf 4 = .ok (.iload_n 3, 1) := by decide +kernel
theorem dX9_votesOf_5 : decode cX9_votesOf 5 = .ok (.aload_n 0, 1) := by decide +kernel
theorem dX9_votesOf_6 : decode cX9_votesOf 6 = .ok (.getfield 229, 3) := by decide +kernel
theorem dX9_votesOf_9 : decode cX9_votesOf 9 = .ok (.if_icmp .ge 34, 3) := by decide +kernel
theorem dX9_votesOf_12 : decode cX9_votesOf 12 = .ok (.iload_n 2, 1) := by decide +kernel
theorem dX9_votesOf_13 : decode cX9_votesOf 13 = .ok (.aload_n 0, 1) := by decide +kernel
theorem dX9_votesOf_14 : decode cX9_votesOf 14 = .ok (.iload_n 3, 1) := by decide +kernel
theorem dX9_votesOf_15 : decode cX9_votesOf 15 = .ok (.iload_n 1, 1) := by decide +kernel
theorem dX9_votesOf_16 : decode cX9_votesOf 16 = .ok (.invokevirtual 246, 3) := by decide +kernel
theorem dX9_votesOf_19 : decode cX9_votesOf 19 = .ok (.ifCond .eq 15, 3) := by decide +kernel
theorem dX9_votesOf_22 : decode cX9_votesOf 22 = .ok (.aload_n 0, 1) := by decide +kernel
theorem dX9_votesOf_23 : decode cX9_votesOf 23 = .ok (.getfield 7, 3) := by decide +kernel
theorem dX9_votesOf_26 : decode cX9_votesOf 26 = .ok (.bipush 20, 2) := by decide +kernel
theorem dX9_votesOf_28 : decode cX9_votesOf 28 = .ok (.iload_n 3, 1) := by decide +kernel
theorem dX9_votesOf_29 : decode cX9_votesOf 29 = .ok (.iadd, 1) := by decide +kernel
theorem dX9_votesOf_30 : decode cX9_votesOf 30 = .ok (.iaload, 1) := by decide +kernel
theorem dX9_votesOf_31 : decode cX9_votesOf 31 = .ok (.goto 4, 3) := by decide +kernel
theorem dX9_votesOf_34 : decode cX9_votesOf 34 = .ok (.iconst 0, 1) := by decide +kernel
theorem dX9_votesOf_35 : decode cX9_votesOf 35 = .ok (.iadd, 1) := by decide +kernel
theorem dX9_votesOf_36 : decode cX9_votesOf 36 = .ok (.istore_n 2, 1) := by decide +kernel
theorem dX9_votesOf_37 : decode cX9_votesOf 37 = .ok (.iinc 3 1, 3) := by decide +kernel
theorem dX9_votesOf_40 : decode cX9_votesOf 40 = .ok (.goto (-36), 3) := by decide +kernel
theorem dX9_votesOf_43 : decode cX9_votesOf 43 = .ok (.iload_n 2, 1) := by decide +kernel
theorem dX9_votesOf_44 : decode cX9_votesOf 44 = .ok (.ireturn, 1) := by decide +kernel
theorem dX9_votesFor_0 : decode cX9_votesFor 0 = .ok (.aload_n 0, 1) := by decide +kernel
theorem dX9_votesFor_1 : decode cX9_votesFor 1 = .ok (.aload_n 0, 1) := by decide +kernel
theorem dX9_votesFor_2 : decode cX9_votesFor 2 = .ok (.iload_n 1, 1) := by decide +kernel
theorem dX9_votesFor_3 : decode cX9_votesFor 3 = .ok (.invokevirtual 240, 3) := by decide +kernel
theorem dX9_votesFor_6 : decode cX9_votesFor 6 = .ok (.invokevirtual 236, 3) := by decide +kernel
theorem dX9_votesFor_9 : decode cX9_votesFor 9 = .ok (.ifCond .eq 7, 3) := by decide +kernel
theorem dX9_votesFor_12 : decode cX9_votesFor 12 = .ok (.iconst 0, 1) := by decide +kernel
theorem dX9_votesFor_13 : decode cX9_votesFor 13 = .ok (.goto 8, 3) := by decide +kernel
theorem dX9_votesFor_16 : decode cX9_votesFor 16 = .ok (.aload_n 0, 1) := by decide +kernel
theorem dX9_votesFor_17 : decode cX9_votesFor 17 = .ok (.iload_n 1, 1) := by decide +kernel
theorem dX9_votesFor_18 : decode cX9_votesFor 18 = .ok (.invokevirtual 249, 3) := by decide +kernel
theorem dX9_votesFor_21 : decode cX9_votesFor 21 = .ok (.ireturn, 1) := by decide +kernel
theorem dX9_worthOf_0 : decode cX9_worthOf 0 = .ok (.aload_n 0, 1) := by decide +kernel
theorem dX9_worthOf_1 : decode cX9_worthOf 1 = .ok (.getfield 7, 3) := by decide +kernel
theorem dX9_worthOf_4 : decode cX9_worthOf 4 = .ok (.iconst 0, 1) := by decide +kernel
theorem dX9_worthOf_5 : decode cX9_worthOf 5 = .ok (.iaload, 1) := by decide +kernel
theorem dX9_worthOf_6 : decode cX9_worthOf 6 = .ok (.ifCond .ne 7, 3) := by decide +kernel
theorem dX9_worthOf_9 : decode cX9_worthOf 9 = .ok (.iconst 1, 1) := by decide +kernel
theorem dX9_worthOf_10 : decode cX9_worthOf 10 = .ok (.goto 12, 3) := by decide +kernel
theorem dX9_worthOf_13 : decode cX9_worthOf 13 = .ok (.aload_n 0, 1) := by decide +kernel
theorem dX9_worthOf_14 : decode cX9_worthOf 14 = .ok (.getfield 7, 3) := by decide +kernel
theorem dX9_worthOf_17 : decode cX9_worthOf 17 = .ok (.bipush 8, 2) := by decide +kernel
theorem dX9_worthOf_19 : decode cX9_worthOf 19 = .ok (.iload_n 1, 1) := by decide +kernel
theorem dX9_worthOf_20 : decode cX9_worthOf 20 = .ok (.iadd, 1) := by decide +kernel
theorem dX9_worthOf_21 : decode cX9_worthOf 21 = .ok (.iaload, 1) := by decide +kernel
theorem dX9_worthOf_22 : decode cX9_worthOf 22 = .ok (.ireturn, 1) := by decide +kernel
theorem dX9_firstHolding_0 : decode cX9_firstHolding 0 = .ok (.aload_n 0, 1) := by decide +kernel
theorem dX9_firstHolding_1 : decode cX9_firstHolding 1 = .ok (.getfield 7, 3) := by decide +kernel
theorem dX9_firstHolding_4 : decode cX9_firstHolding 4 = .ok (.bipush 44, 2) := by decide +kernel
theorem dX9_firstHolding_6 : decode cX9_firstHolding 6 = .ok (.iload_n 1, 1) := by decide +kernel
theorem dX9_firstHolding_7 : decode cX9_firstHolding 7 = .ok (.iadd, 1) := by decide +kernel
theorem dX9_firstHolding_8 : decode cX9_firstHolding 8 = .ok (.iaload, 1) := by decide +kernel
theorem dX9_firstHolding_9 : decode cX9_firstHolding 9 = .ok (.iload_n 2, 1) := by decide +kernel
theorem dX9_firstHolding_10 : decode cX9_firstHolding 10 = .ok (.invokestatic 163, 3) := by decide +kernel
theorem dX9_firstHolding_13 : decode cX9_firstHolding 13 = .ok (.ifCond .ne 5, 3) := by decide +kernel
theorem dX9_firstHolding_16 : decode cX9_firstHolding 16 = .ok (.iconst 0, 1) := by decide +kernel
theorem dX9_firstHolding_17 : decode cX9_firstHolding 17 = .ok (.ireturn, 1) := by decide +kernel
theorem dX9_firstHolding_18 : decode cX9_firstHolding 18 = .ok (.iconst 0, 1) := by decide +kernel
theorem dX9_firstHolding_19 : decode cX9_firstHolding 19 = .ok (.istore_n 3, 1) := by decide +kernel
theorem dX9_firstHolding_20 : decode cX9_firstHolding 20 = .ok (.iconst 0, 1) := by decide +kernel
theorem dX9_firstHolding_21 : decode cX9_firstHolding 21 = .ok (.istore 4, 2) := by decide +kernel
theorem dX9_firstHolding_23 : decode cX9_firstHolding 23 = .ok (.iload 4, 2) := by decide +kernel
theorem dX9_firstHolding_25 : decode cX9_firstHolding 25 = .ok (.aload_n 0, 1) := by decide +kernel
theorem dX9_firstHolding_26 : decode cX9_firstHolding 26 = .ok (.getfield 229, 3) := by decide +kernel
theorem dX9_firstHolding_29 : decode cX9_firstHolding 29 = .ok (.if_icmp .ge 43, 3) := by decide +kernel
theorem dX9_firstHolding_32 : decode cX9_firstHolding 32 = .ok (.iload_n 3, 1) := by decide +kernel
theorem dX9_firstHolding_33 : decode cX9_firstHolding 33 = .ok (.aload_n 0, 1) := by decide +kernel
theorem dX9_firstHolding_34 : decode cX9_firstHolding 34 = .ok (.getfield 7, 3) := by decide +kernel
theorem dX9_firstHolding_37 : decode cX9_firstHolding 37 = .ok (.bipush 44, 2) := by decide +kernel
theorem dX9_firstHolding_39 : decode cX9_firstHolding 39 = .ok (.iload 4, 2) := by decide +kernel
theorem dX9_firstHolding_41 : decode cX9_firstHolding 41 = .ok (.iadd, 1) := by decide +kernel
theorem dX9_firstHolding_42 : decode cX9_firstHolding 42 = .ok (.iaload, 1) := by decide +kernel
theorem dX9_firstHolding_43 : decode cX9_firstHolding 43 = .ok (.iload_n 2, 1) := by decide +kernel
theorem dX9_firstHolding_44 : decode cX9_firstHolding 44 = .ok (.invokestatic 163, 3) := by decide +kernel
theorem dX9_firstHolding_47 : decode cX9_firstHolding 47 = .ok (.ifCond .eq 16, 3) := by decide +kernel
theorem dX9_firstHolding_50 : decode cX9_firstHolding 50 = .ok (.aload_n 0, 1) := by decide +kernel
theorem dX9_firstHolding_51 : decode cX9_firstHolding 51 = .ok (.getfield 7, 3) := by decide +kernel
theorem dX9_firstHolding_54 : decode cX9_firstHolding 54 = .ok (.bipush 20, 2) := by decide +kernel
theorem dX9_firstHolding_56 : decode cX9_firstHolding 56 = .ok (.iload 4, 2) := by decide +kernel
theorem dX9_firstHolding_58 : decode cX9_firstHolding 58 = .ok (.iadd, 1) := by decide +kernel
theorem dX9_firstHolding_59 : decode cX9_firstHolding 59 = .ok (.iaload, 1) := by decide +kernel
theorem dX9_firstHolding_60 : decode cX9_firstHolding 60 = .ok (.goto 4, 3) := by decide +kernel
theorem dX9_firstHolding_63 : decode cX9_firstHolding 63 = .ok (.iconst 0, 1) := by decide +kernel
theorem dX9_firstHolding_64 : decode cX9_firstHolding 64 = .ok (.iadd, 1) := by decide +kernel
theorem dX9_firstHolding_65 : decode cX9_firstHolding 65 = .ok (.istore_n 3, 1) := by decide +kernel
theorem dX9_firstHolding_66 : decode cX9_firstHolding 66 = .ok (.iinc 4 1, 3) := by decide +kernel
theorem dX9_firstHolding_69 : decode cX9_firstHolding 69 = .ok (.goto (-46), 3) := by decide +kernel
theorem dX9_firstHolding_72 : decode cX9_firstHolding 72 = .ok (.aload_n 0, 1) := by decide +kernel
theorem dX9_firstHolding_73 : decode cX9_firstHolding 73 = .ok (.getfield 7, 3) := by decide +kernel
theorem dX9_firstHolding_76 : decode cX9_firstHolding 76 = .ok (.iconst 4, 1) := by decide +kernel
theorem dX9_firstHolding_77 : decode cX9_firstHolding 77 = .ok (.iload_n 2, 1) := by decide +kernel
theorem dX9_firstHolding_78 : decode cX9_firstHolding 78 = .ok (.iadd, 1) := by decide +kernel
theorem dX9_firstHolding_79 : decode cX9_firstHolding 79 = .ok (.iaload, 1) := by decide +kernel
theorem dX9_firstHolding_80 : decode cX9_firstHolding 80 = .ok (.aload_n 0, 1) := by decide +kernel
theorem dX9_firstHolding_81 : decode cX9_firstHolding 81 = .ok (.getfield 7, 3) := by decide +kernel
theorem dX9_firstHolding_84 : decode cX9_firstHolding 84 = .ok (.bipush 20, 2) := by decide +kernel
theorem dX9_firstHolding_86 : decode cX9_firstHolding 86 = .ok (.iload_n 1, 1) := by decide +kernel
theorem dX9_firstHolding_87 : decode cX9_firstHolding 87 = .ok (.iadd, 1) := by decide +kernel
theorem dX9_firstHolding_88 : decode cX9_firstHolding 88 = .ok (.iaload, 1) := by decide +kernel
theorem dX9_firstHolding_89 : decode cX9_firstHolding 89 = .ok (.imul, 1) := by decide +kernel
theorem dX9_firstHolding_90 : decode cX9_firstHolding 90 = .ok (.iload_n 3, 1) := by decide +kernel
theorem dX9_firstHolding_91 : decode cX9_firstHolding 91 = .ok (.idiv, 1) := by decide +kernel
theorem dX9_firstHolding_92 : decode cX9_firstHolding 92 = .ok (.ireturn, 1) := by decide +kernel
theorem dX9_purse_0 : decode cX9_purse 0 = .ok (.aload_n 0, 1) := by decide +kernel
theorem dX9_purse_1 : decode cX9_purse 1 = .ok (.aload_n 0, 1) := by decide +kernel
theorem dX9_purse_2 : decode cX9_purse 2 = .ok (.iload_n 1, 1) := by decide +kernel
theorem dX9_purse_3 : decode cX9_purse 3 = .ok (.invokevirtual 243, 3) := by decide +kernel
theorem dX9_purse_6 : decode cX9_purse 6 = .ok (.ifCond .eq 15, 3) := by decide +kernel
theorem dX9_purse_9 : decode cX9_purse 9 = .ok (.aload_n 0, 1) := by decide +kernel
theorem dX9_purse_10 : decode cX9_purse 10 = .ok (.iload_n 2, 1) := by decide +kernel
theorem dX9_purse_11 : decode cX9_purse 11 = .ok (.invokevirtual 232, 3) := by decide +kernel
theorem dX9_purse_14 : decode cX9_purse 14 = .ok (.ifCond .eq 7, 3) := by decide +kernel
theorem dX9_purse_17 : decode cX9_purse 17 = .ok (.iconst 1, 1) := by decide +kernel
theorem dX9_purse_18 : decode cX9_purse 18 = .ok (.goto 4, 3) := by decide +kernel
theorem dX9_purse_21 : decode cX9_purse 21 = .ok (.iconst 0, 1) := by decide +kernel
theorem dX9_purse_22 : decode cX9_purse 22 = .ok (.invokevirtual 236, 3) := by decide +kernel
theorem dX9_purse_25 : decode cX9_purse 25 = .ok (.ifCond .eq 7, 3) := by decide +kernel
theorem dX9_purse_28 : decode cX9_purse 28 = .ok (.iconst 0, 1) := by decide +kernel
theorem dX9_purse_29 : decode cX9_purse 29 = .ok (.goto 9, 3) := by decide +kernel
theorem dX9_purse_32 : decode cX9_purse 32 = .ok (.aload_n 0, 1) := by decide +kernel
theorem dX9_purse_33 : decode cX9_purse 33 = .ok (.iload_n 1, 1) := by decide +kernel
theorem dX9_purse_34 : decode cX9_purse 34 = .ok (.iload_n 2, 1) := by decide +kernel
theorem dX9_purse_35 : decode cX9_purse 35 = .ok (.invokevirtual 252, 3) := by decide +kernel
theorem dX9_purse_38 : decode cX9_purse 38 = .ok (.ireturn, 1) := by decide +kernel
theorem dX9_fillPurses_0 : decode cX9_fillPurses 0 = .ok (.iconst 0, 1) := by decide +kernel
theorem dX9_fillPurses_1 : decode cX9_fillPurses 1 = .ok (.istore_n 2, 1) := by decide +kernel
theorem dX9_fillPurses_2 : decode cX9_fillPurses 2 = .ok (.iload_n 2, 1) := by decide +kernel
theorem dX9_fillPurses_3 : decode cX9_fillPurses 3 = .ok (.aload_n 0, 1) := by decide +kernel
theorem dX9_fillPurses_4 : decode cX9_fillPurses 4 = .ok (.getfield 229, 3) := by decide +kernel
theorem dX9_fillPurses_7 : decode cX9_fillPurses 7 = .ok (.if_icmp .ge 63, 3) := by decide +kernel
theorem dX9_fillPurses_10 : decode cX9_fillPurses 10 = .ok (.iconst 0, 1) := by decide +kernel
theorem dX9_fillPurses_11 : decode cX9_fillPurses 11 = .ok (.istore_n 3, 1) := by decide +kernel
theorem dX9_fillPurses_12 : decode cX9_fillPurses 12 = .ok (.iload_n 3, 1) := by decide +kernel
theorem dX9_fillPurses_13 : decode cX9_fillPurses 13 = .ok (.aload_n 0, 1) := by decide +kernel
theorem dX9_fillPurses_14 : decode cX9_fillPurses 14 = .ok (.getfield 223, 3) := by decide +kernel
theorem dX9_fillPurses_17 : decode cX9_fillPurses 17 = .ok (.if_icmp .ge 47, 3) := by decide +kernel
theorem dX9_fillPurses_20 : decode cX9_fillPurses 20 = .ok (.aload_n 0, 1) := by decide +kernel
theorem dX9_fillPurses_21 : decode cX9_fillPurses 21 = .ok (.getfield 45, 3) := by decide +kernel
theorem dX9_fillPurses_24 : decode cX9_fillPurses 24 = .ok (.iconst 4, 1) := by decide +kernel
theorem dX9_fillPurses_25 : decode cX9_fillPurses 25 = .ok (.iload_n 2, 1) := by decide +kernel
theorem dX9_fillPurses_26 : decode cX9_fillPurses 26 = .ok (.imul, 1) := by decide +kernel
theorem dX9_fillPurses_27 : decode cX9_fillPurses 27 = .ok (.iload_n 3, 1) := by decide +kernel
theorem dX9_fillPurses_28 : decode cX9_fillPurses 28 = .ok (.iadd, 1) := by decide +kernel
theorem dX9_fillPurses_29 : decode cX9_fillPurses 29 = .ok (.aload_n 0, 1) := by decide +kernel
theorem dX9_fillPurses_30 : decode cX9_fillPurses 30 = .ok (.getfield 7, 3) := by decide +kernel
theorem dX9_fillPurses_33 : decode cX9_fillPurses 33 = .ok (.bipush 44, 2) := by decide +kernel
theorem dX9_fillPurses_35 : decode cX9_fillPurses 35 = .ok (.iload_n 2, 1) := by decide +kernel
theorem dX9_fillPurses_36 : decode cX9_fillPurses 36 = .ok (.iadd, 1) := by decide +kernel
theorem dX9_fillPurses_37 : decode cX9_fillPurses 37 = .ok (.iaload, 1) := by decide +kernel
theorem dX9_fillPurses_38 : decode cX9_fillPurses 38 = .ok (.iload_n 3, 1) := by decide +kernel
theorem dX9_fillPurses_39 : decode cX9_fillPurses 39 = .ok (.invokestatic 163, 3) := by decide +kernel
theorem dX9_fillPurses_42 : decode cX9_fillPurses 42 = .ok (.ifCond .eq 14, 3) := by decide +kernel
theorem dX9_fillPurses_45 : decode cX9_fillPurses 45 = .ok (.aload_n 0, 1) := by decide +kernel
theorem dX9_fillPurses_46 : decode cX9_fillPurses 46 = .ok (.iload_n 2, 1) := by decide +kernel
theorem dX9_fillPurses_47 : decode cX9_fillPurses 47 = .ok (.iload_n 3, 1) := by decide +kernel
theorem dX9_fillPurses_48 : decode cX9_fillPurses 48 = .ok (.invokevirtual 252, 3) := by decide +kernel
theorem dX9_fillPurses_51 : decode cX9_fillPurses 51 = .ok (.iload_n 1, 1) := by decide +kernel
theorem dX9_fillPurses_52 : decode cX9_fillPurses 52 = .ok (.iadd, 1) := by decide +kernel
theorem dX9_fillPurses_53 : decode cX9_fillPurses 53 = .ok (.goto 4, 3) := by decide +kernel
theorem dX9_fillPurses_56 : decode cX9_fillPurses 56 = .ok (.iconst 0, 1) := by decide +kernel
theorem dX9_fillPurses_57 : decode cX9_fillPurses 57 = .ok (.iastore, 1) := by decide +kernel
theorem dX9_fillPurses_58 : decode cX9_fillPurses 58 = .ok (.iinc 3 1, 3) := by decide +kernel
theorem dX9_fillPurses_61 : decode cX9_fillPurses 61 = .ok (.goto (-49), 3) := by decide +kernel
theorem dX9_fillPurses_64 : decode cX9_fillPurses 64 = .ok (.iinc 2 1, 3) := by decide +kernel
theorem dX9_fillPurses_67 : decode cX9_fillPurses 67 = .ok (.goto (-65), 3) := by decide +kernel
theorem dX9_fillPurses_70 : decode cX9_fillPurses 70 = .ok (.return_, 1) := by decide +kernel
theorem dX9_meansOf_0 : decode cX9_meansOf 0 = .ok (.iconst 0, 1) := by decide +kernel
theorem dX9_meansOf_1 : decode cX9_meansOf 1 = .ok (.istore_n 3, 1) := by decide +kernel
theorem dX9_meansOf_2 : decode cX9_meansOf 2 = .ok (.iconst 0, 1) := by decide +kernel
theorem dX9_meansOf_3 : decode cX9_meansOf 3 = .ok (.istore 4, 2) := by decide +kernel
theorem dX9_meansOf_5 : decode cX9_meansOf 5 = .ok (.iload 4, 2) := by decide +kernel
theorem dX9_meansOf_7 : decode cX9_meansOf 7 = .ok (.aload_n 0, 1) := by decide +kernel
theorem dX9_meansOf_8 : decode cX9_meansOf 8 = .ok (.getfield 223, 3) := by decide +kernel
theorem dX9_meansOf_11 : decode cX9_meansOf 11 = .ok (.if_icmp .ge 41, 3) := by decide +kernel
theorem dX9_meansOf_14 : decode cX9_meansOf 14 = .ok (.iload_n 3, 1) := by decide +kernel
theorem dX9_meansOf_15 : decode cX9_meansOf 15 = .ok (.aload_n 0, 1) := by decide +kernel
theorem dX9_meansOf_16 : decode cX9_meansOf 16 = .ok (.getfield 25, 3) := by decide +kernel
theorem dX9_meansOf_19 : decode cX9_meansOf 19 = .ok (.iload_n 2, 1) := by decide +kernel
theorem dX9_meansOf_20 : decode cX9_meansOf 20 = .ok (.iaload, 1) := by decide +kernel
theorem dX9_meansOf_21 : decode cX9_meansOf 21 = .ok (.iload 4, 2) := by decide +kernel
theorem dX9_meansOf_23 : decode cX9_meansOf 23 = .ok (.invokestatic 163, 3) := by decide +kernel
theorem dX9_meansOf_26 : decode cX9_meansOf 26 = .ok (.ifCond .eq 17, 3) := by decide +kernel
theorem dX9_meansOf_29 : decode cX9_meansOf 29 = .ok (.aload_n 0, 1) := by decide +kernel
theorem dX9_meansOf_30 : decode cX9_meansOf 30 = .ok (.getfield 45, 3) := by decide +kernel
theorem dX9_meansOf_33 : decode cX9_meansOf 33 = .ok (.iconst 4, 1) := by decide +kernel
theorem dX9_meansOf_34 : decode cX9_meansOf 34 = .ok (.iload_n 1, 1) := by decide +kernel
theorem dX9_meansOf_35 : decode cX9_meansOf 35 = .ok (.imul, 1) := by decide +kernel
theorem dX9_meansOf_36 : decode cX9_meansOf 36 = .ok (.iload 4, 2) := by decide +kernel
theorem dX9_meansOf_38 : decode cX9_meansOf 38 = .ok (.iadd, 1) := by decide +kernel
theorem dX9_meansOf_39 : decode cX9_meansOf 39 = .ok (.iaload, 1) := by decide +kernel
theorem dX9_meansOf_40 : decode cX9_meansOf 40 = .ok (.goto 4, 3) := by decide +kernel
theorem dX9_meansOf_43 : decode cX9_meansOf 43 = .ok (.iconst 0, 1) := by decide +kernel
theorem dX9_meansOf_44 : decode cX9_meansOf 44 = .ok (.iadd, 1) := by decide +kernel
theorem dX9_meansOf_45 : decode cX9_meansOf 45 = .ok (.istore_n 3, 1) := by decide +kernel
theorem dX9_meansOf_46 : decode cX9_meansOf 46 = .ok (.iinc 4 1, 3) := by decide +kernel
theorem dX9_meansOf_49 : decode cX9_meansOf 49 = .ok (.goto (-44), 3) := by decide +kernel
theorem dX9_meansOf_52 : decode cX9_meansOf 52 = .ok (.iload_n 3, 1) := by decide +kernel
theorem dX9_meansOf_53 : decode cX9_meansOf 53 = .ok (.ireturn, 1) := by decide +kernel
theorem dX9_allMeans_0 : decode cX9_allMeans 0 = .ok (.iconst 0, 1) := by decide +kernel
theorem dX9_allMeans_1 : decode cX9_allMeans 1 = .ok (.istore_n 2, 1) := by decide +kernel
theorem dX9_allMeans_2 : decode cX9_allMeans 2 = .ok (.iconst 0, 1) := by decide +kernel
theorem dX9_allMeans_3 : decode cX9_allMeans 3 = .ok (.istore_n 3, 1) := by decide +kernel
theorem dX9_allMeans_4 : decode cX9_allMeans 4 = .ok (.iload_n 3, 1) := by decide +kernel
theorem dX9_allMeans_5 : decode cX9_allMeans 5 = .ok (.aload_n 0, 1) := by decide +kernel
theorem dX9_allMeans_6 : decode cX9_allMeans 6 = .ok (.getfield 229, 3) := by decide +kernel
theorem dX9_allMeans_9 : decode cX9_allMeans 9 = .ok (.if_icmp .ge 31, 3) := by decide +kernel
theorem dX9_allMeans_12 : decode cX9_allMeans 12 = .ok (.iload_n 2, 1) := by decide +kernel
theorem dX9_allMeans_13 : decode cX9_allMeans 13 = .ok (.aload_n 0, 1) := by decide +kernel
theorem dX9_allMeans_14 : decode cX9_allMeans 14 = .ok (.iload_n 3, 1) := by decide +kernel
theorem dX9_allMeans_15 : decode cX9_allMeans 15 = .ok (.iload_n 1, 1) := by decide +kernel
theorem dX9_allMeans_16 : decode cX9_allMeans 16 = .ok (.invokevirtual 246, 3) := by decide +kernel
theorem dX9_allMeans_19 : decode cX9_allMeans 19 = .ok (.ifCond .eq 12, 3) := by decide +kernel
theorem dX9_allMeans_22 : decode cX9_allMeans 22 = .ok (.aload_n 0, 1) := by decide +kernel
theorem dX9_allMeans_23 : decode cX9_allMeans 23 = .ok (.iload_n 3, 1) := by decide +kernel
theorem dX9_allMeans_24 : decode cX9_allMeans 24 = .ok (.iload_n 1, 1) := by decide +kernel
theorem dX9_allMeans_25 : decode cX9_allMeans 25 = .ok (.invokevirtual 255, 3) := by decide +kernel
theorem dX9_allMeans_28 : decode cX9_allMeans 28 = .ok (.goto 4, 3) := by decide +kernel
