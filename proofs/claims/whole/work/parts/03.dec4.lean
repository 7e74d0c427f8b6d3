theorem dL_satisfaction_4 : decode cL_satisfaction 4 = .ok (.iload_n 2, 1) := by decide +kernel
theorem dL_satisfaction_5 : decode cL_satisfaction 5 = .ok (.invokevirtual 62, 3) := by decide +kernel
theorem dL_satisfaction_8 : decode cL_satisfaction 8 = .ok (.i2l, 1) := by decide +kernel
theorem dL_satisfaction_9 : decode cL_satisfaction 9 = .ok (.lastore, 1) := by decide +kernel
theorem dL_satisfaction_10 : decode cL_satisfaction 10 = .ok (.goto 7, 3) := by decide +kernel
theorem dL_satisfaction_13 : decode cL_satisfaction 13 = .ok (.astore 4, 2) := by decide +kernel
theorem dL_satisfaction_15 : decode cL_satisfaction 15 = .ok (.iconst 1, 1) := by decide +kernel
theorem dL_satisfaction_16 : decode cL_satisfaction 16 = .ok (.ireturn, 1) := by decide +kernel
theorem dL_satisfaction_17 : decode cL_satisfaction 17 = .ok (.iconst 0, 1) := by decide +kernel
theorem dL_satisfaction_18 : decode cL_satisfaction 18 = .ok (.ireturn, 1) := by decide +kernel
theorem dL_claimOf_0 : decode cL_claimOf 0 = .ok (.aload_n 3, 1) := by decide +kernel
theorem dL_claimOf_1 : decode cL_claimOf 1 = .ok (.iconst 0, 1) := by decide +kernel
theorem dL_claimOf_2 : decode cL_claimOf 2 = .ok (.aload_n 0, 1) := by decide +kernel
theorem dL_claimOf_3 : decode cL_claimOf 3 = .ok (.iload_n 1, 1) := by decide +kernel
theorem dL_claimOf_4 : decode cL_claimOf 4 = .ok (.iload_n 2, 1) := by decide +kernel
theorem dL_claimOf_5 : decode cL_claimOf 5 = .ok (.invokevirtual 65, 3) := by decide +kernel
theorem dL_claimOf_8 : decode cL_claimOf 8 = .ok (.i2l, 1) := by decide +kernel
theorem dL_claimOf_9 : decode cL_claimOf 9 = .ok (.lastore, 1) := by decide +kernel
theorem dL_claimOf_10 : decode cL_claimOf 10 = .ok (.goto 7, 3) := by decide +kernel
theorem dL_claimOf_13 : decode cL_claimOf 13 = .ok (.astore 4, 2) := by decide +kernel
theorem dL_claimOf_15 : decode cL_claimOf 15 = .ok (.iconst 1, 1) := by decide +kernel
theorem dL_claimOf_16 : decode cL_claimOf 16 = .ok (.ireturn, 1) := by decide +kernel
theorem dL_claimOf_17 : decode cL_claimOf 17 = .ok (.iconst 0, 1) := by decide +kernel
theorem dL_claimOf_18 : decode cL_claimOf 18 = .ok (.ireturn, 1) := by decide +kernel
theorem dL_changedWithout_0 : decode cL_changedWithout 0 = .ok (.aload_n 2, 1) := by decide +kernel
theorem dL_changedWithout_1 : decode cL_changedWithout 1 = .ok (.iconst 0, 1) := by decide +kernel
theorem dL_changedWithout_2 : decode cL_changedWithout 2 = .ok (.aload_n 0, 1) := by decide +kernel
theorem dL_changedWithout_3 : decode cL_changedWithout 3 = .ok (.iload_n 1, 1) := by decide +kernel
theorem dL_changedWithout_4 : decode cL_changedWithout 4 = .ok (.invokevirtual 68, 3) := by decide +kernel
theorem dL_changedWithout_7 : decode cL_changedWithout 7 = .ok (.i2l, 1) := by decide +kernel
theorem dL_changedWithout_8 : decode cL_changedWithout 8 = .ok (.lastore, 1) := by decide +kernel
theorem dL_changedWithout_9 : decode cL_changedWithout 9 = .ok (.goto 6, 3) := by decide +kernel
theorem dL_changedWithout_12 : decode cL_changedWithout 12 = .ok (.astore_n 3, 1) := by decide +kernel
theorem dL_changedWithout_13 : decode cL_changedWithout 13 = .ok (.iconst 1, 1) := by decide +kernel
theorem dL_changedWithout_14 : decode cL_changedWithout 14 = .ok (.ireturn, 1) := by decide +kernel
theorem dL_changedWithout_15 : decode cL_changedWithout 15 = .ok (.iconst 0, 1) := by decide +kernel
theorem dL_changedWithout_16 : decode cL_changedWithout 16 = .ok (.ireturn, 1) := by decide +kernel
theorem dL_greedyLimit_0 : decode cL_greedyLimit 0 = .ok (.aload_n 2, 1) := by decide +kernel
theorem dL_greedyLimit_1 : decode cL_greedyLimit 1 = .ok (.iconst 0, 1) := by decide +kernel
theorem dL_greedyLimit_2 : decode cL_greedyLimit 2 = .ok (.aload_n 0, 1) := by decide +kernel
theorem dL_greedyLimit_3 : decode cL_greedyLimit 3 = .ok (.iload_n 1, 1) := by decide +kernel
theorem dL_greedyLimit_4 : decode cL_greedyLimit 4 = .ok (.invokevirtual 71, 3) := by decide +kernel
theorem dL_greedyLimit_7 : decode cL_greedyLimit 7 = .ok (.i2l, 1) := by decide +kernel
theorem dL_greedyLimit_8 : decode cL_greedyLimit 8 = .ok (.lastore, 1) := by decide +kernel
theorem dL_greedyLimit_9 : decode cL_greedyLimit 9 = .ok (.goto 6, 3) := by decide +kernel
theorem dL_greedyLimit_12 : decode cL_greedyLimit 12 = .ok (.astore_n 3, 1) := by decide +kernel
theorem dL_greedyLimit_13 : decode cL_greedyLimit 13 = .ok (.iconst 1, 1) := by decide +kernel
theorem dL_greedyLimit_14 : decode cL_greedyLimit 14 = .ok (.ireturn, 1) := by decide +kernel
theorem dL_greedyLimit_15 : decode cL_greedyLimit 15 = .ok (.iconst 0, 1) := by decide +kernel
theorem dL_greedyLimit_16 : decode cL_greedyLimit 16 = .ok (.ireturn, 1) := by decide +kernel
theorem dL_bestWithout_0 : decode cL_bestWithout 0 = .ok (.aload_n 2, 1) := by decide +kernel
theorem dL_bestWithout_1 : decode cL_bestWithout 1 = .ok (.iconst 0, 1) := by decide +kernel
theorem dL_bestWithout_2 : decode cL_bestWithout 2 = .ok (.aload_n 0, 1) := by decide +kernel
theorem dL_bestWithout_3 : decode cL_bestWithout 3 = .ok (.iload_n 1, 1) := by decide +kernel
theorem dL_bestWithout_4 : decode cL_bestWithout 4 = .ok (.invokevirtual 74, 3) := by decide +kernel
theorem dL_bestWithout_7 : decode cL_bestWithout 7 = .ok (.lastore, 1) := by decide +kernel
theorem dL_bestWithout_8 : decode cL_bestWithout 8 = .ok (.goto 6, 3) := by decide +kernel
theorem dL_bestWithout_11 : decode cL_bestWithout 11 = .ok (.astore_n 3, 1) := by decide +kernel
theorem dL_bestWithout_12 : decode cL_bestWithout 12 = .ok (.iconst 1, 1) := by decide +kernel
theorem dL_bestWithout_13 : decode cL_bestWithout 13 = .ok (.ireturn, 1) := by decide +kernel
theorem dL_bestWithout_14 : decode cL_bestWithout 14 = .ok (.iconst 0, 1) := by decide +kernel
theorem dL_bestWithout_15 : decode cL_bestWithout 15 = .ok (.ireturn, 1) := by decide +kernel
theorem dL_endowment_0 : decode cL_endowment 0 = .ok (.aload_n 2, 1) := by decide +kernel
theorem dL_endowment_1 : decode cL_endowment 1 = .ok (.iconst 0, 1) := by decide +kernel
theorem dL_endowment_2 : decode cL_endowment 2 = .ok (.aload_n 0, 1) := by decide +kernel
theorem dL_endowment_3 : decode cL_endowment 3 = .ok (.iload_n 1, 1) := by decide +kernel
theorem dL_endowment_4 : decode cL_endowment 4 = .ok (.invokevirtual 78, 3) := by decide +kernel
theorem dL_endowment_7 : decode cL_endowment 7 = .ok (.i2l, 1) := by decide +kernel
theorem dL_endowment_8 : decode cL_endowment 8 = .ok (.lastore, 1) := by decide +kernel
theorem dL_endowment_9 : decode cL_endowment 9 = .ok (.goto 6, 3) := by decide +kernel
theorem dL_endowment_12 : decode cL_endowment 12 = .ok (.astore_n 3, 1) := by decide +kernel
theorem dL_endowment_13 : decode cL_endowment 13 = .ok (.iconst 1, 1) := by decide +kernel
theorem dL_endowment_14 : decode cL_endowment 14 = .ok (.ireturn, 1) := by decide +kernel
theorem dL_endowment_15 : decode cL_endowment 15 = .ok (.iconst 0, 1) := by decide +kernel
theorem dL_endowment_16 : decode cL_endowment 16 = .ok (.ireturn, 1) := by decide +kernel
theorem dL_spentBy_0 : decode cL_spentBy 0 = .ok (.aload_n 2, 1) := by decide +kernel
theorem dL_spentBy_1 : decode cL_spentBy 1 = .ok (.iconst 0, 1) := by decide +kernel
theorem dL_spentBy_2 : decode cL_spentBy 2 = .ok (.aload_n 0, 1) := by decide +kernel
theorem dL_spentBy_3 : decode cL_spentBy 3 = .ok (.iload_n 1, 1) := by decide +kernel
theorem dL_spentBy_4 : decode cL_spentBy 4 = .ok (.invokevirtual 81, 3) := by decide +kernel
theorem dL_spentBy_7 : decode cL_spentBy 7 = .ok (.i2l, 1) := by decide +kernel
theorem dL_spentBy_8 : decode cL_spentBy 8 = .ok (.lastore, 1) := by decide +kernel
theorem dL_spentBy_9 : decode cL_spentBy 9 = .ok (.goto 6, 3) := by decide +kernel
theorem dL_spentBy_12 : decode cL_spentBy 12 = .ok (.astore_n 3, 1) := by decide +kernel
theorem dL_spentBy_13 : decode cL_spentBy 13 = .ok (.iconst 1, 1) := by decide +kernel
theorem dL_spentBy_14 : decode cL_spentBy 14 = .ok (.ireturn, 1) := by decide +kernel
theorem dL_spentBy_15 : decode cL_spentBy 15 = .ok (.iconst 0, 1) := by decide +kernel
theorem dL_spentBy_16 : decode cL_spentBy 16 = .ok (.ireturn, 1) := by decide +kernel
theorem dL_payers_0 : decode cL_payers 0 = .ok (.aload_n 2, 1) := by decide +kernel
theorem dL_payers_1 : decode cL_payers 1 = .ok (.iconst 0, 1) := by decide +kernel
theorem dL_payers_2 : decode cL_payers 2 = .ok (.aload_n 0, 1) := by decide +kernel
theorem dL_payers_3 : decode cL_payers 3 = .ok (.iload_n 1, 1) := by decide +kernel
theorem dL_payers_4 : decode cL_payers 4 = .ok (.invokevirtual 84, 3) := by decide +kernel
theorem dL_payers_7 : decode cL_payers 7 = .ok (.i2l, 1) := by decide +kernel
theorem dL_payers_8 : decode cL_payers 8 = .ok (.lastore, 1) := by decide +kernel
theorem dL_payers_9 : decode cL_payers 9 = .ok (.goto 6, 3) := by decide +kernel
theorem dL_payers_12 : decode cL_payers 12 = .ok (.astore_n 3, 1) := by decide +kernel
theorem dL_payers_13 : decode cL_payers 13 = .ok (.iconst 1, 1) := by decide +kernel
theorem dL_payers_14 : decode cL_payers 14 = .ok (.ireturn, 1) := by decide +kernel
theorem dL_payers_15 : decode cL_payers 15 = .ok (.iconst 0, 1) := by decide +kernel
theorem dL_payers_16 : decode cL_payers 16 = .ok (.ireturn, 1) := by decide +kernel
theorem dL_roundOf_0 : decode cL_roundOf 0 = .ok (.aload_n 2, 1) := by decide +kernel
theorem dL_roundOf_1 : decode cL_roundOf 1 = .ok (.iconst 0, 1) := by decide +kernel
theorem dL_roundOf_2 : decode cL_roundOf 2 = .ok (.aload_n 0, 1) := by decide +kernel
theorem dL_roundOf_3 : decode cL_roundOf 3 = .ok (.iload_n 1, 1) := by decide +kernel
theorem dL_roundOf_4 : decode cL_roundOf 4 = .ok (.invokevirtual 87, 3) := by decide +kernel
theorem dL_roundOf_7 : decode cL_roundOf 7 = .ok (.i2l, 1) := by decide +kernel
theorem dL_roundOf_8 : decode cL_roundOf 8 = .ok (.lastore, 1) := by decide +kernel
theorem dL_roundOf_9 : decode cL_roundOf 9 = .ok (.goto 6, 3) := by decide +kernel
theorem dL_roundOf_12 : decode cL_roundOf 12 = .ok (.astore_n 3, 1) := by decide +kernel
theorem dL_roundOf_13 : decode cL_roundOf 13 = .ok (.iconst 1, 1) := by decide +kernel
theorem dL_roundOf_14 : decode cL_roundOf 14 = .ok (.ireturn, 1) := by decide +kernel
theorem dL_roundOf_15 : decode cL_roundOf 15 = .ok (.iconst 0, 1) := by decide +kernel
theorem dL_roundOf_16 : decode cL_roundOf 16 = .ok (.ireturn, 1) := by decide +kernel
theorem dL_commonSupport_0 : decode cL_commonSupport 0 = .ok (.aload_n 3, 1) := by decide +kernel
theorem dL_commonSupport_1 : decode cL_commonSupport 1 = .ok (.iconst 0, 1) := by decide +kernel
theorem dL_commonSupport_2 : decode cL_commonSupport 2 = .ok (.aload_n 0, 1) := by decide +kernel
theorem dL_commonSupport_3 : decode cL_commonSupport 3 = .ok (.iload_n 1, 1) := by decide +kernel
theorem dL_commonSupport_4 : decode cL_commonSupport 4 = .ok (.iload_n 2, 1) := by decide +kernel
theorem dL_commonSupport_5 : decode cL_commonSupport 5 = .ok (.invokevirtual 90, 3) := by decide +kernel
theorem dL_commonSupport_8 : decode cL_commonSupport 8 = .ok (.i2l, 1) := by decide +kernel
theorem dL_commonSupport_9 : decode cL_commonSupport 9 = .ok (.lastore, 1) := by decide +kernel
theorem dL_commonSupport_10 : decode cL_commonSupport 10 = .ok (.goto 7, 3) := by decide +kernel
theorem dL_commonSupport_13 : decode cL_commonSupport 13 = .ok (.astore 4, 2) := by decide +kernel
theorem dL_commonSupport_15 : decode cL_commonSupport 15 = .ok (.iconst 1, 1) := by decide +kernel
theorem dL_commonSupport_16 : decode cL_commonSupport 16 = .ok (.ireturn, 1) := by decide +kernel
theorem dL_commonSupport_17 : decode cL_commonSupport 17 = .ok (.iconst 0, 1) := by decide +kernel
theorem dL_commonSupport_18 : decode cL_commonSupport 18 = .ok (.ireturn, 1) := by decide +kernel
theorem dL_priceIn_0 : decode cL_priceIn 0 = .ok (.aload_n 3, 1) := by decide +kernel
theorem dL_priceIn_1 : decode cL_priceIn 1 = .ok (.iconst 0, 1) := by decide +kernel
theorem dL_priceIn_2 : decode cL_priceIn 2 = .ok (.aload_n 0, 1) := by decide +kernel
theorem dL_priceIn_3 : decode cL_priceIn 3 = .ok (.iload_n 1, 1) := by decide +kernel
theorem dL_priceIn_4 : decode cL_priceIn 4 = .ok (.iload_n 2, 1) := by decide +kernel
theorem dL_priceIn_5 : decode cL_priceIn 5 = .ok (.invokevirtual 93, 3) := by decide +kernel
theorem dL_priceIn_8 : decode cL_priceIn 8 = .ok (.i2l, 1) := by decide +kernel
theorem dL_priceIn_9 : decode cL_priceIn 9 = .ok (.lastore, 1) := by decide +kernel
theorem dL_priceIn_10 : decode cL_priceIn 10 = .ok (.goto 7, 3) := by decide +kernel
theorem dL_priceIn_13 : decode cL_priceIn 13 = .ok (.astore 4, 2) := by decide +kernel
theorem dL_priceIn_15 : decode cL_priceIn 15 = .ok (.iconst 1, 1) := by decide +kernel
theorem dL_priceIn_16 : decode cL_priceIn 16 = .ok (.ireturn, 1) := by decide +kernel
theorem dL_priceIn_17 : decode cL_priceIn 17 = .ok (.iconst 0, 1) := by decide +kernel
theorem dL_priceIn_18 : decode cL_priceIn 18 = .ok (.ireturn, 1) := by decide +kernel
theorem dL_fundedWithBudget_0 : decode cL_fundedWithBudget 0 = .ok (.aload_n 3, 1) := by decide +kernel
theorem dL_fundedWithBudget_1 : decode cL_fundedWithBudget 1 = .ok (.iconst 0, 1) := by decide +kernel
theorem dL_fundedWithBudget_2 : decode cL_fundedWithBudget 2 = .ok (.aload_n 0, 1) := by decide +kernel
theorem dL_fundedWithBudget_3 : decode cL_fundedWithBudget 3 = .ok (.iload_n 1, 1) := by decide +kernel
theorem dL_fundedWithBudget_4 : decode cL_fundedWithBudget 4 = .ok (.iload_n 2, 1) := by decide +kernel
theorem dL_fundedWithBudget_5 : decode cL_fundedWithBudget 5 = .ok (.invokevirtual 96, 3) := by decide +kernel
theorem dL_fundedWithBudget_8 : decode cL_fundedWithBudget 8 = .ok (.i2l, 1) := by decide +kernel
theorem dL_fundedWithBudget_9 : decode cL_fundedWithBudget 9 = .ok (.lastore, 1) := by decide +kernel
theorem dL_fundedWithBudget_10 : decode cL_fundedWithBudget 10 = .ok (.goto 7, 3) := by decide +kernel
theorem dL_fundedWithBudget_13 : decode cL_fundedWithBudget 13 = .ok (.astore 4, 2) := by decide +kernel
theorem dL_fundedWithBudget_15 : decode cL_fundedWithBudget 15 = .ok (.iconst 1, 1) := by decide +kernel
theorem dL_fundedWithBudget_16 : decode cL_fundedWithBudget 16 = .ok (.ireturn, 1) := by decide +kernel
theorem dL_fundedWithBudget_17 : decode cL_fundedWithBudget 17 = .ok (.iconst 0, 1) := by decide +kernel
theorem dL_fundedWithBudget_18 : decode cL_fundedWithBudget 18 = .ok (.ireturn, 1) := by decide +kernel
theorem dL_fundedWithCost_0 : decode cL_fundedWithCost 0 = .ok (.aload_n 3, 1) := by decide +kernel
theorem dL_fundedWithCost_1 : decode cL_fundedWithCost 1 = .ok (.iconst 0, 1) := by decide +kernel
theorem dL_fundedWithCost_2 : decode cL_fundedWithCost 2 = .ok (.aload_n 0, 1) := by decide +kernel
theorem dL_fundedWithCost_3 : decode cL_fundedWithCost 3 = .ok (.iload_n 1, 1) := by decide +kernel
theorem dL_fundedWithCost_4 : decode cL_fundedWithCost 4 = .ok (.iload_n 2, 1) := by decide +kernel
theorem dL_fundedWithCost_5 : decode cL_fundedWithCost 5 = .ok (.invokevirtual 99, 3) := by decide +kernel
theorem dL_fundedWithCost_8 : decode cL_fundedWithCost 8 = .ok (.i2l, 1) := by decide +kernel
theorem dL_fundedWithCost_9 : decode cL_fundedWithCost 9 = .ok (.lastore, 1) := by decide +kernel
theorem dL_fundedWithCost_10 : decode cL_fundedWithCost 10 = .ok (.goto 7, 3) := by decide +kernel
theorem dL_fundedWithCost_13 : decode cL_fundedWithCost 13 = .ok (.astore 4, 2) := by decide +kernel
theorem dL_fundedWithCost_15 : decode cL_fundedWithCost 15 = .ok (.iconst 1, 1) := by decide +kernel
theorem dL_fundedWithCost_16 : decode cL_fundedWithCost 16 = .ok (.ireturn, 1) := by decide +kernel
theorem dL_fundedWithCost_17 : decode cL_fundedWithCost 17 = .ok (.iconst 0, 1) := by decide +kernel
theorem dL_fundedWithCost_18 : decode cL_fundedWithCost 18 = .ok (.ireturn, 1) := by decide +kernel
theorem dL_fundedWithout_0 : decode cL_fundedWithout 0 = .ok (.aload_n 2, 1) := by decide +kernel
theorem dL_fundedWithout_1 : decode cL_fundedWithout 1 = .ok (.iconst 0, 1) := by decide +kernel
theorem dL_fundedWithout_2 : decode cL_fundedWithout 2 = .ok (.aload_n 0, 1) := by decide +kernel
theorem dL_fundedWithout_3 : decode cL_fundedWithout 3 = .ok (.iload_n 1, 1) := by decide +kernel
theorem dL_fundedWithout_4 : decode cL_fundedWithout 4 = .ok (.invokevirtual 102, 3) := by decide +kernel
theorem dL_fundedWithout_7 : decode cL_fundedWithout 7 = .ok (.i2l, 1) := by decide +kernel
theorem dL_fundedWithout_8 : decode cL_fundedWithout 8 = .ok (.lastore, 1) := by decide +kernel
theorem dL_fundedWithout_9 : decode cL_fundedWithout 9 = .ok (.goto 6, 3) := by decide +kernel
theorem dL_fundedWithout_12 : decode cL_fundedWithout 12 = .ok (.astore_n 3, 1) := by decide +kernel
theorem dL_fundedWithout_13 : decode cL_fundedWithout 13 = .ok (.iconst 1, 1) := by decide +kernel
theorem dL_fundedWithout_14 : decode cL_fundedWithout 14 = .ok (.ireturn, 1) := by decide +kernel
theorem dL_fundedWithout_15 : decode cL_fundedWithout 15 = .ok (.iconst 0, 1) := by decide +kernel
theorem dL_fundedWithout_16 : decode cL_fundedWithout 16 = .ok (.ireturn, 1) := by decide +kernel
theorem dL_districtWelfare_0 : decode cL_districtWelfare 0 = .ok (.aload_n 3, 1) := by decide +kernel
theorem dL_districtWelfare_1 : decode cL_districtWelfare 1 = .ok (.iconst 0, 1) := by decide +kernel
theorem dL_districtWelfare_2 : decode cL_districtWelfare 2 = .ok (.aload_n 0, 1) := by decide +kernel
theorem dL_districtWelfare_3 : decode cL_districtWelfare 3 = .ok (.iload_n 1, 1) := by decide +kernel
theorem dL_districtWelfare_4 : decode cL_districtWelfare 4 = .ok (.iload_n 2, 1) := by decide +kernel
theorem dL_districtWelfare_5 : decode cL_districtWelfare 5 = .ok (.invokevirtual 105, 3) := by decide +kernel
theorem dL_districtWelfare_8 : decode cL_districtWelfare 8 = .ok (.i2l, 1) := by decide +kernel
theorem dL_districtWelfare_9 : decode cL_districtWelfare 9 = .ok (.lastore, 1) := by decide +kernel
theorem dL_districtWelfare_10 : decode cL_districtWelfare 10 = .ok (.goto 7, 3) := by decide +kernel
theorem dL_districtWelfare_13 : decode cL_districtWelfare 13 = .ok (.astore 4, 2) := by decide +kernel
theorem dL_districtWelfare_15 : decode cL_districtWelfare 15 = .ok (.iconst 1, 1) := by decide +kernel
theorem dL_districtWelfare_16 : decode cL_districtWelfare 16 = .ok (.ireturn, 1) := by decide +kernel
theorem dL_districtWelfare_17 : decode cL_districtWelfare 17 = .ok (.iconst 0, 1) := by decide +kernel
theorem dL_districtWelfare_18 : decode cL_districtWelfare 18 = .ok (.ireturn, 1) := by decide +kernel
theorem dL_rankOf_0 : decode cL_rankOf 0 = .ok (.aload_n 3, 1) := by decide +kernel
theorem dL_rankOf_1 : decode cL_rankOf 1 = .ok (.iconst 0, 1) := by decide +kernel
theorem dL_rankOf_2 : decode cL_rankOf 2 = .ok (.aload_n 0, 1) := by decide +kernel
theorem dL_rankOf_3 : decode cL_rankOf 3 = .ok (.iload_n 1, 1) := by decide +kernel
theorem dL_rankOf_4 : decode cL_rankOf 4 = .ok (.iload_n 2, 1) := by decide +kernel
theorem dL_rankOf_5 : decode cL_rankOf 5 = .ok (.invokevirtual 108, 3) := by decide +kernel
theorem dL_rankOf_8 : decode cL_rankOf 8 = .ok (.i2l, 1) := by decide +kernel
theorem dL_rankOf_9 : decode cL_rankOf 9 = .ok (.lastore, 1) := by decide +kernel
theorem dL_rankOf_10 : decode cL_rankOf 10 = .ok (.goto 7, 3) := by decide +kernel
theorem dL_rankOf_13 : decode cL_rankOf 13 = .ok (.astore 4, 2) := by decide +kernel
theorem dL_rankOf_15 : decode cL_rankOf 15 = .ok (.iconst 1, 1) := by decide +kernel
theorem dL_rankOf_16 : decode cL_rankOf 16 = .ok (.ireturn, 1) := by decide +kernel
theorem dL_rankOf_17 : decode cL_rankOf 17 = .ok (.iconst 0, 1) := by decide +kernel
theorem dL_rankOf_18 : decode cL_rankOf 18 = .ok (.ireturn, 1) := by decide +kernel
