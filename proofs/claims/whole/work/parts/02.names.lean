def lw_okq (q : MethodName × Nat) : Prop := (q.1.cls ≠ "java/lang/invoke/MethodHandle" ∧ q.1.cls ≠ "java/lang/invoke/VarHandle") ∧ Cond.instantiable q.1.cls q.2 ∈ tables_1 ∧ Cond.privateMethod q.1 ∈ tables_1 ∧ Cond.instanceMethod q.1 ∈ tables_1
theorem lw_p0 : lw_okq (⟨"ParticipatoryBudget$Text", "wordKind", "()I"⟩, 6) := ⟨⟨by decide +kernel, by decide +kernel⟩, List.mem_of_getElem? (i := 32) (by decide +kernel), List.mem_of_getElem? (i := 413) (by decide +kernel), List.mem_of_getElem? (i := 414) (by decide +kernel)⟩
theorem lw_p1 : lw_okq (⟨"ParticipatoryBudget$Text", "isWord", "(Ljava/lang/String;)Z"⟩, 6) := ⟨⟨by decide +kernel, by decide +kernel⟩, List.mem_of_getElem? (i := 32) (by decide +kernel), List.mem_of_getElem? (i := 418) (by decide +kernel), List.mem_of_getElem? (i := 419) (by decide +kernel)⟩
theorem lw_p2 : lw_okq (⟨"ParticipatoryBudget$Reader", "setting", "(LParticipatoryBudget$Text;LParticipatoryBudget$Ballot;)I"⟩, 1) := ⟨⟨by decide +kernel, by decide +kernel⟩, List.mem_of_getElem? (i := 61) (by decide +kernel), List.mem_of_getElem? (i := 516) (by decide +kernel), List.mem_of_getElem? (i := 517) (by decide +kernel)⟩
theorem lw_p3 : lw_okq (⟨"ParticipatoryBudget", "settle", "()V"⟩, 15) := ⟨⟨by decide +kernel, by decide +kernel⟩, List.mem_of_getElem? (i := 24) (by decide +kernel), List.mem_of_getElem? (i := 531) (by decide +kernel), List.mem_of_getElem? (i := 532) (by decide +kernel)⟩
theorem lw_p4 : lw_okq (⟨"ParticipatoryBudget", "equalNow", "()LParticipatoryBudget$EqualShares;"⟩, 15) := ⟨⟨by decide +kernel, by decide +kernel⟩, List.mem_of_getElem? (i := 24) (by decide +kernel), List.mem_of_getElem? (i := 578) (by decide +kernel), List.mem_of_getElem? (i := 579) (by decide +kernel)⟩
theorem lw_p5 : lw_okq (⟨"ParticipatoryBudget$Rounds", "clear", "()V"⟩, 9) := ⟨⟨by decide +kernel, by decide +kernel⟩, List.mem_of_getElem? (i := 98) (by decide +kernel), List.mem_of_getElem? (i := 590) (by decide +kernel), List.mem_of_getElem? (i := 591) (by decide +kernel)⟩
theorem lw_p6 : lw_okq (⟨"ParticipatoryBudget$Rounds", "fillPurses", "(LParticipatoryBudget$Ballot;I)V"⟩, 9) := ⟨⟨by decide +kernel, by decide +kernel⟩, List.mem_of_getElem? (i := 98) (by decide +kernel), List.mem_of_getElem? (i := 597) (by decide +kernel), List.mem_of_getElem? (i := 598) (by decide +kernel)⟩
theorem lw_p7 : lw_okq (⟨"ParticipatoryBudget$Rounds", "choose", "(LParticipatoryBudget$Ballot;I)I"⟩, 9) := ⟨⟨by decide +kernel, by decide +kernel⟩, List.mem_of_getElem? (i := 98) (by decide +kernel), List.mem_of_getElem? (i := 610) (by decide +kernel), List.mem_of_getElem? (i := 611) (by decide +kernel)⟩
theorem lw_p8 : lw_okq (⟨"ParticipatoryBudget$Rounds", "weigh", "(LParticipatoryBudget$Ballot;I)I"⟩, 9) := ⟨⟨by decide +kernel, by decide +kernel⟩, List.mem_of_getElem? (i := 98) (by decide +kernel), List.mem_of_getElem? (i := 614) (by decide +kernel), List.mem_of_getElem? (i := 615) (by decide +kernel)⟩
theorem lw_p9 : lw_okq (⟨"ParticipatoryBudget$Rounds", "leastPrice", "(LParticipatoryBudget$Ballot;I)I"⟩, 9) := ⟨⟨by decide +kernel, by decide +kernel⟩, List.mem_of_getElem? (i := 98) (by decide +kernel), List.mem_of_getElem? (i := 622) (by decide +kernel), List.mem_of_getElem? (i := 623) (by decide +kernel)⟩
theorem lw_p10 : lw_okq (⟨"ParticipatoryBudget$Rounds", "isBetter", "(LParticipatoryBudget$Ballot;III)Z"⟩, 9) := ⟨⟨by decide +kernel, by decide +kernel⟩, List.mem_of_getElem? (i := 98) (by decide +kernel), List.mem_of_getElem? (i := 626) (by decide +kernel), List.mem_of_getElem? (i := 627) (by decide +kernel)⟩
theorem lw_p11 : lw_okq (⟨"ParticipatoryBudget$Rounds", "fund", "(LParticipatoryBudget$Ballot;II)V"⟩, 9) := ⟨⟨by decide +kernel, by decide +kernel⟩, List.mem_of_getElem? (i := 98) (by decide +kernel), List.mem_of_getElem? (i := 630) (by decide +kernel), List.mem_of_getElem? (i := 631) (by decide +kernel)⟩
theorem lw_p12 : lw_okq (⟨"ParticipatoryBudget$Rounds", "pay", "(IIII)V"⟩, 9) := ⟨⟨by decide +kernel, by decide +kernel⟩, List.mem_of_getElem? (i := 98) (by decide +kernel), List.mem_of_getElem? (i := 635) (by decide +kernel), List.mem_of_getElem? (i := 636) (by decide +kernel)⟩
theorem lw_p13 : lw_okq (⟨"ParticipatoryBudget$EqualShares", "keepTrial", "()V"⟩, 6) := ⟨⟨by decide +kernel, by decide +kernel⟩, List.mem_of_getElem? (i := 92) (by decide +kernel), List.mem_of_getElem? (i := 651) (by decide +kernel), List.mem_of_getElem? (i := 652) (by decide +kernel)⟩
theorem lw_p14 : lw_okq (⟨"ParticipatoryBudget$EqualShares", "complete", "(LParticipatoryBudget$Ballot;)V"⟩, 6) := ⟨⟨by decide +kernel, by decide +kernel⟩, List.mem_of_getElem? (i := 92) (by decide +kernel), List.mem_of_getElem? (i := 655) (by decide +kernel), List.mem_of_getElem? (i := 656) (by decide +kernel)⟩
theorem lw_p15 : lw_okq (⟨"ParticipatoryBudget$Greedy", "leftIn", "(I)I"⟩, 5) := ⟨⟨by decide +kernel, by decide +kernel⟩, List.mem_of_getElem? (i := 143) (by decide +kernel), List.mem_of_getElem? (i := 678) (by decide +kernel), List.mem_of_getElem? (i := 679) (by decide +kernel)⟩
def lw_privs_1 : List (MethodName × Nat) := [(⟨"ParticipatoryBudget$Text", "wordKind", "()I"⟩, 6), (⟨"ParticipatoryBudget$Text", "isWord", "(Ljava/lang/String;)Z"⟩, 6), (⟨"ParticipatoryBudget$Reader", "setting", "(LParticipatoryBudget$Text;LParticipatoryBudget$Ballot;)I"⟩, 1), (⟨"ParticipatoryBudget", "settle", "()V"⟩, 15), (⟨"ParticipatoryBudget", "equalNow", "()LParticipatoryBudget$EqualShares;"⟩, 15), (⟨"ParticipatoryBudget$Rounds", "clear", "()V"⟩, 9), (⟨"ParticipatoryBudget$Rounds", "fillPurses", "(LParticipatoryBudget$Ballot;I)V"⟩, 9), (⟨"ParticipatoryBudget$Rounds", "choose", "(LParticipatoryBudget$Ballot;I)I"⟩, 9), (⟨"ParticipatoryBudget$Rounds", "weigh", "(LParticipatoryBudget$Ballot;I)I"⟩, 9), (⟨"ParticipatoryBudget$Rounds", "leastPrice", "(LParticipatoryBudget$Ballot;I)I"⟩, 9), (⟨"ParticipatoryBudget$Rounds", "isBetter", "(LParticipatoryBudget$Ballot;III)Z"⟩, 9), (⟨"ParticipatoryBudget$Rounds", "fund", "(LParticipatoryBudget$Ballot;II)V"⟩, 9), (⟨"ParticipatoryBudget$Rounds", "pay", "(IIII)V"⟩, 9), (⟨"ParticipatoryBudget$EqualShares", "keepTrial", "()V"⟩, 6), (⟨"ParticipatoryBudget$EqualShares", "complete", "(LParticipatoryBudget$Ballot;)V"⟩, 6), (⟨"ParticipatoryBudget$Greedy", "leftIn", "(I)I"⟩, 5)]
theorem lw_r1 : ∀ q ∈ lw_privs_1, lw_okq q := List.forall_mem_cons.mpr ⟨lw_p0, List.forall_mem_cons.mpr ⟨lw_p1, List.forall_mem_cons.mpr ⟨lw_p2, List.forall_mem_cons.mpr ⟨lw_p3, List.forall_mem_cons.mpr ⟨lw_p4, List.forall_mem_cons.mpr ⟨lw_p5, List.forall_mem_cons.mpr ⟨lw_p6, List.forall_mem_cons.mpr ⟨lw_p7, List.forall_mem_cons.mpr ⟨lw_p8, List.forall_mem_cons.mpr ⟨lw_p9, List.forall_mem_cons.mpr ⟨lw_p10, List.forall_mem_cons.mpr ⟨lw_p11, List.forall_mem_cons.mpr ⟨lw_p12, List.forall_mem_cons.mpr ⟨lw_p13, List.forall_mem_cons.mpr ⟨lw_p14, List.forall_mem_cons.mpr ⟨lw_p15, fun _ h => absurd h List.not_mem_nil⟩⟩⟩⟩⟩⟩⟩⟩⟩⟩⟩⟩⟩⟩⟩⟩
theorem lw_p16 : lw_okq (⟨"ParticipatoryBudget$Greedy", "fund", "(III)V"⟩, 5) := ⟨⟨by decide +kernel, by decide +kernel⟩, List.mem_of_getElem? (i := 143) (by decide +kernel), List.mem_of_getElem? (i := 682) (by decide +kernel), List.mem_of_getElem? (i := 683) (by decide +kernel)⟩
theorem lw_p17 : lw_okq (⟨"ParticipatoryBudget", "chosenBy", "(I)I"⟩, 15) := ⟨⟨by decide +kernel, by decide +kernel⟩, List.mem_of_getElem? (i := 24) (by decide +kernel), List.mem_of_getElem? (i := 713) (by decide +kernel), List.mem_of_getElem? (i := 714) (by decide +kernel)⟩
theorem lw_p18 : lw_okq (⟨"ParticipatoryBudget", "greedyNow", "()LParticipatoryBudget$Greedy;"⟩, 15) := ⟨⟨by decide +kernel, by decide +kernel⟩, List.mem_of_getElem? (i := 24) (by decide +kernel), List.mem_of_getElem? (i := 717) (by decide +kernel), List.mem_of_getElem? (i := 718) (by decide +kernel)⟩
theorem lw_p19 : lw_okq (⟨"ParticipatoryBudget", "bestNow", "()I"⟩, 15) := ⟨⟨by decide +kernel, by decide +kernel⟩, List.mem_of_getElem? (i := 24) (by decide +kernel), List.mem_of_getElem? (i := 728) (by decide +kernel), List.mem_of_getElem? (i := 729) (by decide +kernel)⟩
theorem lw_p20 : lw_okq (⟨"ParticipatoryBudget", "optimumNow", "()LParticipatoryBudget$Optimum;"⟩, 15) := ⟨⟨by decide +kernel, by decide +kernel⟩, List.mem_of_getElem? (i := 24) (by decide +kernel), List.mem_of_getElem? (i := 732) (by decide +kernel), List.mem_of_getElem? (i := 733) (by decide +kernel)⟩
theorem lw_p21 : lw_okq (⟨"ParticipatoryBudget", "change", "(III)I"⟩, 15) := ⟨⟨by decide +kernel, by decide +kernel⟩, List.mem_of_getElem? (i := 24) (by decide +kernel), List.mem_of_getElem? (i := 861) (by decide +kernel), List.mem_of_getElem? (i := 862) (by decide +kernel)⟩
theorem lw_p22 : lw_okq (⟨"ParticipatoryBudget$History", "forgetOldest", "()V"⟩, 4) := ⟨⟨by decide +kernel, by decide +kernel⟩, List.mem_of_getElem? (i := 71) (by decide +kernel), List.mem_of_getElem? (i := 869) (by decide +kernel), List.mem_of_getElem? (i := 870) (by decide +kernel)⟩
theorem lw_p23 : lw_okq (⟨"java/lang/Throwable", "fillInStackTrace", "(I)Ljava/lang/Throwable;"⟩, 6) := ⟨⟨by decide +kernel, by decide +kernel⟩, List.mem_of_getElem? (i := 957) (by decide +kernel), List.mem_of_getElem? (i := 955) (by decide +kernel), List.mem_of_getElem? (i := 956) (by decide +kernel)⟩
theorem lw_p24 : lw_okq (⟨"ParticipatoryBudget", "chosenIfSpare", "()I"⟩, 15) := ⟨⟨by decide +kernel, by decide +kernel⟩, List.mem_of_getElem? (i := 24) (by decide +kernel), List.mem_of_getElem? (i := 1117) (by decide +kernel), List.mem_of_getElem? (i := 1118) (by decide +kernel)⟩
theorem lw_p25 : lw_okq (⟨"ParticipatoryBudget", "isGreedilyChosenIfSpare", "(I)Z"⟩, 15) := ⟨⟨by decide +kernel, by decide +kernel⟩, List.mem_of_getElem? (i := 24) (by decide +kernel), List.mem_of_getElem? (i := 1129) (by decide +kernel), List.mem_of_getElem? (i := 1130) (by decide +kernel)⟩
theorem lw_p26 : lw_okq (⟨"ParticipatoryBudgetModel", "append", "(I)V"⟩, 42) := ⟨⟨by decide +kernel, by decide +kernel⟩, List.mem_of_getElem? (i := 1218) (by decide +kernel), List.mem_of_getElem? (i := 1371) (by decide +kernel), List.mem_of_getElem? (i := 1372) (by decide +kernel)⟩
theorem lw_p27 : lw_okq (⟨"ParticipatoryBudgetModel", "advance", "()V"⟩, 42) := ⟨⟨by decide +kernel, by decide +kernel⟩, List.mem_of_getElem? (i := 1218) (by decide +kernel), List.mem_of_getElem? (i := 1386) (by decide +kernel), List.mem_of_getElem? (i := 1387) (by decide +kernel)⟩
theorem lw_p28 : lw_okq (⟨"ParticipatoryBudgetModel", "peek", "()I"⟩, 42) := ⟨⟨by decide +kernel, by decide +kernel⟩, List.mem_of_getElem? (i := 1218) (by decide +kernel), List.mem_of_getElem? (i := 1390) (by decide +kernel), List.mem_of_getElem? (i := 1391) (by decide +kernel)⟩
theorem lw_p29 : lw_okq (⟨"ParticipatoryBudgetModel", "parseStatement", "()V"⟩, 42) := ⟨⟨by decide +kernel, by decide +kernel⟩, List.mem_of_getElem? (i := 1218) (by decide +kernel), List.mem_of_getElem? (i := 1396) (by decide +kernel), List.mem_of_getElem? (i := 1397) (by decide +kernel)⟩
theorem lw_p30 : lw_okq (⟨"ParticipatoryBudgetModel", "isWord", "(J)Z"⟩, 42) := ⟨⟨by decide +kernel, by decide +kernel⟩, List.mem_of_getElem? (i := 1218) (by decide +kernel), List.mem_of_getElem? (i := 1401) (by decide +kernel), List.mem_of_getElem? (i := 1402) (by decide +kernel)⟩
theorem lw_p31 : lw_okq (⟨"ParticipatoryBudgetModel", "parseDistrict", "()V"⟩, 42) := ⟨⟨by decide +kernel, by decide +kernel⟩, List.mem_of_getElem? (i := 1218) (by decide +kernel), List.mem_of_getElem? (i := 1405) (by decide +kernel), List.mem_of_getElem? (i := 1406) (by decide +kernel)⟩
def lw_privs_2 : List (MethodName × Nat) := [(⟨"ParticipatoryBudget$Greedy", "fund", "(III)V"⟩, 5), (⟨"ParticipatoryBudget", "chosenBy", "(I)I"⟩, 15), (⟨"ParticipatoryBudget", "greedyNow", "()LParticipatoryBudget$Greedy;"⟩, 15), (⟨"ParticipatoryBudget", "bestNow", "()I"⟩, 15), (⟨"ParticipatoryBudget", "optimumNow", "()LParticipatoryBudget$Optimum;"⟩, 15), (⟨"ParticipatoryBudget", "change", "(III)I"⟩, 15), (⟨"ParticipatoryBudget$History", "forgetOldest", "()V"⟩, 4), (⟨"java/lang/Throwable", "fillInStackTrace", "(I)Ljava/lang/Throwable;"⟩, 6), (⟨"ParticipatoryBudget", "chosenIfSpare", "()I"⟩, 15), (⟨"ParticipatoryBudget", "isGreedilyChosenIfSpare", "(I)Z"⟩, 15), (⟨"ParticipatoryBudgetModel", "append", "(I)V"⟩, 42), (⟨"ParticipatoryBudgetModel", "advance", "()V"⟩, 42), (⟨"ParticipatoryBudgetModel", "peek", "()I"⟩, 42), (⟨"ParticipatoryBudgetModel", "parseStatement", "()V"⟩, 42), (⟨"ParticipatoryBudgetModel", "isWord", "(J)Z"⟩, 42), (⟨"ParticipatoryBudgetModel", "parseDistrict", "()V"⟩, 42)]
theorem lw_r2 : ∀ q ∈ lw_privs_2, lw_okq q := List.forall_mem_cons.mpr ⟨lw_p16, List.forall_mem_cons.mpr ⟨lw_p17, List.forall_mem_cons.mpr ⟨lw_p18, List.forall_mem_cons.mpr ⟨lw_p19, List.forall_mem_cons.mpr ⟨lw_p20, List.forall_mem_cons.mpr ⟨lw_p21, List.forall_mem_cons.mpr ⟨lw_p22, List.forall_mem_cons.mpr ⟨lw_p23, List.forall_mem_cons.mpr ⟨lw_p24, List.forall_mem_cons.mpr ⟨lw_p25, List.forall_mem_cons.mpr ⟨lw_p26, List.forall_mem_cons.mpr ⟨lw_p27, List.forall_mem_cons.mpr ⟨lw_p28, List.forall_mem_cons.mpr ⟨lw_p29, List.forall_mem_cons.mpr ⟨lw_p30, List.forall_mem_cons.mpr ⟨lw_p31, fun _ h => absurd h List.not_mem_nil⟩⟩⟩⟩⟩⟩⟩⟩⟩⟩⟩⟩⟩⟩⟩⟩
theorem lw_p32 : lw_okq (⟨"ParticipatoryBudgetModel", "check", "(ZI)V"⟩, 42) := ⟨⟨by decide +kernel, by decide +kernel⟩, List.mem_of_getElem? (i := 1218) (by decide +kernel), List.mem_of_getElem? (i := 1409) (by decide +kernel), List.mem_of_getElem? (i := 1410) (by decide +kernel)⟩
theorem lw_p33 : lw_okq (⟨"ParticipatoryBudgetModel", "advanceIfGood", "()V"⟩, 42) := ⟨⟨by decide +kernel, by decide +kernel⟩, List.mem_of_getElem? (i := 1218) (by decide +kernel), List.mem_of_getElem? (i := 1413) (by decide +kernel), List.mem_of_getElem? (i := 1414) (by decide +kernel)⟩
theorem lw_p34 : lw_okq (⟨"ParticipatoryBudgetModel", "readNewName", "()I"⟩, 42) := ⟨⟨by decide +kernel, by decide +kernel⟩, List.mem_of_getElem? (i := 1218) (by decide +kernel), List.mem_of_getElem? (i := 1417) (by decide +kernel), List.mem_of_getElem? (i := 1418) (by decide +kernel)⟩
theorem lw_p35 : lw_okq (⟨"ParticipatoryBudgetModel", "lettersHere", "()I"⟩, 42) := ⟨⟨by decide +kernel, by decide +kernel⟩, List.mem_of_getElem? (i := 1218) (by decide +kernel), List.mem_of_getElem? (i := 1421) (by decide +kernel), List.mem_of_getElem? (i := 1422) (by decide +kernel)⟩
theorem lw_p36 : lw_okq (⟨"ParticipatoryBudgetModel", "isKeyword", "()Z"⟩, 42) := ⟨⟨by decide +kernel, by decide +kernel⟩, List.mem_of_getElem? (i := 1218) (by decide +kernel), List.mem_of_getElem? (i := 1425) (by decide +kernel), List.mem_of_getElem? (i := 1426) (by decide +kernel)⟩
theorem lw_p37 : lw_okq (⟨"ParticipatoryBudgetModel", "readInteger", "(II)I"⟩, 42) := ⟨⟨by decide +kernel, by decide +kernel⟩, List.mem_of_getElem? (i := 1218) (by decide +kernel), List.mem_of_getElem? (i := 1440) (by decide +kernel), List.mem_of_getElem? (i := 1441) (by decide +kernel)⟩
theorem lw_p38 : lw_okq (⟨"ParticipatoryBudgetModel", "parseProject", "()V"⟩, 42) := ⟨⟨by decide +kernel, by decide +kernel⟩, List.mem_of_getElem? (i := 1218) (by decide +kernel), List.mem_of_getElem? (i := 1445) (by decide +kernel), List.mem_of_getElem? (i := 1446) (by decide +kernel)⟩
theorem lw_p39 : lw_okq (⟨"ParticipatoryBudgetModel", "readList", "([II)I"⟩, 42) := ⟨⟨by decide +kernel, by decide +kernel⟩, List.mem_of_getElem? (i := 1218) (by decide +kernel), List.mem_of_getElem? (i := 1449) (by decide +kernel), List.mem_of_getElem? (i := 1450) (by decide +kernel)⟩
theorem lw_p40 : lw_okq (⟨"ParticipatoryBudgetModel", "parseVoter", "()V"⟩, 42) := ⟨⟨by decide +kernel, by decide +kernel⟩, List.mem_of_getElem? (i := 1218) (by decide +kernel), List.mem_of_getElem? (i := 1456) (by decide +kernel), List.mem_of_getElem? (i := 1457) (by decide +kernel)⟩
theorem lw_p41 : lw_okq (⟨"ParticipatoryBudgetModel", "parseSetting", "()V"⟩, 42) := ⟨⟨by decide +kernel, by decide +kernel⟩, List.mem_of_getElem? (i := 1218) (by decide +kernel), List.mem_of_getElem? (i := 1460) (by decide +kernel), List.mem_of_getElem? (i := 1461) (by decide +kernel)⟩
theorem lw_p42 : lw_okq (⟨"ParticipatoryBudgetModel", "settingHere", "()I"⟩, 42) := ⟨⟨by decide +kernel, by decide +kernel⟩, List.mem_of_getElem? (i := 1218) (by decide +kernel), List.mem_of_getElem? (i := 1464) (by decide +kernel), List.mem_of_getElem? (i := 1465) (by decide +kernel)⟩
theorem lw_p43 : lw_okq (⟨"ParticipatoryBudgetModel", "isDistrict", "(I)Z"⟩, 42) := ⟨⟨by decide +kernel, by decide +kernel⟩, List.mem_of_getElem? (i := 1218) (by decide +kernel), List.mem_of_getElem? (i := 1499) (by decide +kernel), List.mem_of_getElem? (i := 1500) (by decide +kernel)⟩
theorem lw_p44 : lw_okq (⟨"ParticipatoryBudgetModel", "fails", "(Z)Z"⟩, 42) := ⟨⟨by decide +kernel, by decide +kernel⟩, List.mem_of_getElem? (i := 1218) (by decide +kernel), List.mem_of_getElem? (i := 1503) (by decide +kernel), List.mem_of_getElem? (i := 1504) (by decide +kernel)⟩
theorem lw_p45 : lw_okq (⟨"ParticipatoryBudgetModel", "isProject", "(I)Z"⟩, 42) := ⟨⟨by decide +kernel, by decide +kernel⟩, List.mem_of_getElem? (i := 1218) (by decide +kernel), List.mem_of_getElem? (i := 1511) (by decide +kernel), List.mem_of_getElem? (i := 1512) (by decide +kernel)⟩
theorem lw_p46 : lw_okq (⟨"ParticipatoryBudgetModel", "isVoter", "(I)Z"⟩, 42) := ⟨⟨by decide +kernel, by decide +kernel⟩, List.mem_of_getElem? (i := 1218) (by decide +kernel), List.mem_of_getElem? (i := 1523) (by decide +kernel), List.mem_of_getElem? (i := 1524) (by decide +kernel)⟩
theorem lw_p47 : lw_okq (⟨"ParticipatoryBudgetModel", "supports", "(II)Z"⟩, 42) := ⟨⟨by decide +kernel, by decide +kernel⟩, List.mem_of_getElem? (i := 1218) (by decide +kernel), List.mem_of_getElem? (i := 1543) (by decide +kernel), List.mem_of_getElem? (i := 1544) (by decide +kernel)⟩
def lw_privs_3 : List (MethodName × Nat) := [(⟨"ParticipatoryBudgetModel", "check", "(ZI)V"⟩, 42), (⟨"ParticipatoryBudgetModel", "advanceIfGood", "()V"⟩, 42), (⟨"ParticipatoryBudgetModel", "readNewName", "()I"⟩, 42), (⟨"ParticipatoryBudgetModel", "lettersHere", "()I"⟩, 42), (⟨"ParticipatoryBudgetModel", "isKeyword", "()Z"⟩, 42), (⟨"ParticipatoryBudgetModel", "readInteger", "(II)I"⟩, 42), (⟨"ParticipatoryBudgetModel", "parseProject", "()V"⟩, 42), (⟨"ParticipatoryBudgetModel", "readList", "([II)I"⟩, 42), (⟨"ParticipatoryBudgetModel", "parseVoter", "()V"⟩, 42), (⟨"ParticipatoryBudgetModel", "parseSetting", "()V"⟩, 42), (⟨"ParticipatoryBudgetModel", "settingHere", "()I"⟩, 42), (⟨"ParticipatoryBudgetModel", "isDistrict", "(I)Z"⟩, 42), (⟨"ParticipatoryBudgetModel", "fails", "(Z)Z"⟩, 42), (⟨"ParticipatoryBudgetModel", "isProject", "(I)Z"⟩, 42), (⟨"ParticipatoryBudgetModel", "isVoter", "(I)Z"⟩, 42), (⟨"ParticipatoryBudgetModel", "supports", "(II)Z"⟩, 42)]
theorem lw_r3 : ∀ q ∈ lw_privs_3, lw_okq q := List.forall_mem_cons.mpr ⟨lw_p32, List.forall_mem_cons.mpr ⟨lw_p33, List.forall_mem_cons.mpr ⟨lw_p34, List.forall_mem_cons.mpr ⟨lw_p35, List.forall_mem_cons.mpr ⟨lw_p36, List.forall_mem_cons.mpr ⟨lw_p37, List.forall_mem_cons.mpr ⟨lw_p38, List.forall_mem_cons.mpr ⟨lw_p39, List.forall_mem_cons.mpr ⟨lw_p40, List.forall_mem_cons.mpr ⟨lw_p41, List.forall_mem_cons.mpr ⟨lw_p42, List.forall_mem_cons.mpr ⟨lw_p43, List.forall_mem_cons.mpr ⟨lw_p44, List.forall_mem_cons.mpr ⟨lw_p45, List.forall_mem_cons.mpr ⟨lw_p46, List.forall_mem_cons.mpr ⟨lw_p47, fun _ h => absurd h List.not_mem_nil⟩⟩⟩⟩⟩⟩⟩⟩⟩⟩⟩⟩⟩⟩⟩⟩
theorem lw_p48 : lw_okq (⟨"ParticipatoryBudgetModel", "votesOf", "(I)I"⟩, 42) := ⟨⟨by decide +kernel, by decide +kernel⟩, List.mem_of_getElem? (i := 1218) (by decide +kernel), List.mem_of_getElem? (i := 1551) (by decide +kernel), List.mem_of_getElem? (i := 1552) (by decide +kernel)⟩
theorem lw_p49 : lw_okq (⟨"ParticipatoryBudgetModel", "firstHolding", "(II)I"⟩, 42) := ⟨⟨by decide +kernel, by decide +kernel⟩, List.mem_of_getElem? (i := 1218) (by decide +kernel), List.mem_of_getElem? (i := 1559) (by decide +kernel), List.mem_of_getElem? (i := 1560) (by decide +kernel)⟩
theorem lw_p50 : lw_okq (⟨"ParticipatoryBudgetModel", "fillPurses", "(I)V"⟩, 42) := ⟨⟨by decide +kernel, by decide +kernel⟩, List.mem_of_getElem? (i := 1218) (by decide +kernel), List.mem_of_getElem? (i := 1567) (by decide +kernel), List.mem_of_getElem? (i := 1568) (by decide +kernel)⟩
theorem lw_p51 : lw_okq (⟨"ParticipatoryBudgetModel", "priceNow", "(I)I"⟩, 42) := ⟨⟨by decide +kernel, by decide +kernel⟩, List.mem_of_getElem? (i := 1218) (by decide +kernel), List.mem_of_getElem? (i := 1571) (by decide +kernel), List.mem_of_getElem? (i := 1572) (by decide +kernel)⟩
theorem lw_p52 : lw_okq (⟨"ParticipatoryBudgetModel", "allMeans", "(I)I"⟩, 42) := ⟨⟨by decide +kernel, by decide +kernel⟩, List.mem_of_getElem? (i := 1218) (by decide +kernel), List.mem_of_getElem? (i := 1575) (by decide +kernel), List.mem_of_getElem? (i := 1576) (by decide +kernel)⟩
theorem lw_p53 : lw_okq (⟨"ParticipatoryBudgetModel", "meansOf", "(II)I"⟩, 42) := ⟨⟨by decide +kernel, by decide +kernel⟩, List.mem_of_getElem? (i := 1218) (by decide +kernel), List.mem_of_getElem? (i := 1579) (by decide +kernel), List.mem_of_getElem? (i := 1580) (by decide +kernel)⟩
theorem lw_p54 : lw_okq (⟨"ParticipatoryBudgetModel", "sharesAt", "(II)I"⟩, 42) := ⟨⟨by decide +kernel, by decide +kernel⟩, List.mem_of_getElem? (i := 1218) (by decide +kernel), List.mem_of_getElem? (i := 1583) (by decide +kernel), List.mem_of_getElem? (i := 1584) (by decide +kernel)⟩
theorem lw_p55 : lw_okq (⟨"ParticipatoryBudgetModel", "shareOf", "(III)I"⟩, 42) := ⟨⟨by decide +kernel, by decide +kernel⟩, List.mem_of_getElem? (i := 1218) (by decide +kernel), List.mem_of_getElem? (i := 1587) (by decide +kernel), List.mem_of_getElem? (i := 1588) (by decide +kernel)⟩
theorem lw_p56 : lw_okq (⟨"ParticipatoryBudgetModel", "runs", "(I)Z"⟩, 42) := ⟨⟨by decide +kernel, by decide +kernel⟩, List.mem_of_getElem? (i := 1218) (by decide +kernel), List.mem_of_getElem? (i := 1595) (by decide +kernel), List.mem_of_getElem? (i := 1596) (by decide +kernel)⟩
theorem lw_p57 : lw_okq (⟨"ParticipatoryBudgetModel", "equal", "()V"⟩, 42) := ⟨⟨by decide +kernel, by decide +kernel⟩, List.mem_of_getElem? (i := 1218) (by decide +kernel), List.mem_of_getElem? (i := 1599) (by decide +kernel), List.mem_of_getElem? (i := 1600) (by decide +kernel)⟩
theorem lw_p58 : lw_okq (⟨"ParticipatoryBudgetModel", "rounds", "(I)V"⟩, 42) := ⟨⟨by decide +kernel, by decide +kernel⟩, List.mem_of_getElem? (i := 1218) (by decide +kernel), List.mem_of_getElem? (i := 1603) (by decide +kernel), List.mem_of_getElem? (i := 1604) (by decide +kernel)⟩
theorem lw_p59 : lw_okq (⟨"ParticipatoryBudgetModel", "clearResult", "()V"⟩, 42) := ⟨⟨by decide +kernel, by decide +kernel⟩, List.mem_of_getElem? (i := 1218) (by decide +kernel), List.mem_of_getElem? (i := 1607) (by decide +kernel), List.mem_of_getElem? (i := 1608) (by decide +kernel)⟩
theorem lw_p60 : lw_okq (⟨"ParticipatoryBudgetModel", "comesAhead", "(IIII)Z"⟩, 42) := ⟨⟨by decide +kernel, by decide +kernel⟩, List.mem_of_getElem? (i := 1218) (by decide +kernel), List.mem_of_getElem? (i := 1611) (by decide +kernel), List.mem_of_getElem? (i := 1612) (by decide +kernel)⟩
theorem lw_p61 : lw_okq (⟨"ParticipatoryBudgetModel", "fund", "(II)V"⟩, 42) := ⟨⟨by decide +kernel, by decide +kernel⟩, List.mem_of_getElem? (i := 1218) (by decide +kernel), List.mem_of_getElem? (i := 1615) (by decide +kernel), List.mem_of_getElem? (i := 1616) (by decide +kernel)⟩
theorem lw_p62 : lw_okq (⟨"ParticipatoryBudgetModel", "note", "(I)V"⟩, 42) := ⟨⟨by decide +kernel, by decide +kernel⟩, List.mem_of_getElem? (i := 1218) (by decide +kernel), List.mem_of_getElem? (i := 1619) (by decide +kernel), List.mem_of_getElem? (i := 1620) (by decide +kernel)⟩
theorem lw_p63 : lw_okq (⟨"ParticipatoryBudgetModel", "take", "(III)V"⟩, 42) := ⟨⟨by decide +kernel, by decide +kernel⟩, List.mem_of_getElem? (i := 1218) (by decide +kernel), List.mem_of_getElem? (i := 1623) (by decide +kernel), List.mem_of_getElem? (i := 1624) (by decide +kernel)⟩
def lw_privs_4 : List (MethodName × Nat) := [(⟨"ParticipatoryBudgetModel", "votesOf", "(I)I"⟩, 42), (⟨"ParticipatoryBudgetModel", "firstHolding", "(II)I"⟩, 42), (⟨"ParticipatoryBudgetModel", "fillPurses", "(I)V"⟩, 42), (⟨"ParticipatoryBudgetModel", "priceNow", "(I)I"⟩, 42), (⟨"ParticipatoryBudgetModel", "allMeans", "(I)I"⟩, 42), (⟨"ParticipatoryBudgetModel", "meansOf", "(II)I"⟩, 42), (⟨"ParticipatoryBudgetModel", "sharesAt", "(II)I"⟩, 42), (⟨"ParticipatoryBudgetModel", "shareOf", "(III)I"⟩, 42), (⟨"ParticipatoryBudgetModel", "runs", "(I)Z"⟩, 42), (⟨"ParticipatoryBudgetModel", "equal", "()V"⟩, 42), (⟨"ParticipatoryBudgetModel", "rounds", "(I)V"⟩, 42), (⟨"ParticipatoryBudgetModel", "clearResult", "()V"⟩, 42), (⟨"ParticipatoryBudgetModel", "comesAhead", "(IIII)Z"⟩, 42), (⟨"ParticipatoryBudgetModel", "fund", "(II)V"⟩, 42), (⟨"ParticipatoryBudgetModel", "note", "(I)V"⟩, 42), (⟨"ParticipatoryBudgetModel", "take", "(III)V"⟩, 42)]
theorem lw_r4 : ∀ q ∈ lw_privs_4, lw_okq q := List.forall_mem_cons.mpr ⟨lw_p48, List.forall_mem_cons.mpr ⟨lw_p49, List.forall_mem_cons.mpr ⟨lw_p50, List.forall_mem_cons.mpr ⟨lw_p51, List.forall_mem_cons.mpr ⟨lw_p52, List.forall_mem_cons.mpr ⟨lw_p53, List.forall_mem_cons.mpr ⟨lw_p54, List.forall_mem_cons.mpr ⟨lw_p55, List.forall_mem_cons.mpr ⟨lw_p56, List.forall_mem_cons.mpr ⟨lw_p57, List.forall_mem_cons.mpr ⟨lw_p58, List.forall_mem_cons.mpr ⟨lw_p59, List.forall_mem_cons.mpr ⟨lw_p60, List.forall_mem_cons.mpr ⟨lw_p61, List.forall_mem_cons.mpr ⟨lw_p62, List.forall_mem_cons.mpr ⟨lw_p63, fun _ h => absurd h List.not_mem_nil⟩⟩⟩⟩⟩⟩⟩⟩⟩⟩⟩⟩⟩⟩⟩⟩
theorem lw_p64 : lw_okq (⟨"ParticipatoryBudgetModel", "greedily", "()V"⟩, 42) := ⟨⟨by decide +kernel, by decide +kernel⟩, List.mem_of_getElem? (i := 1218) (by decide +kernel), List.mem_of_getElem? (i := 1627) (by decide +kernel), List.mem_of_getElem? (i := 1628) (by decide +kernel)⟩
theorem lw_p65 : lw_okq (⟨"ParticipatoryBudgetModel", "isAhead", "(II)Z"⟩, 42) := ⟨⟨by decide +kernel, by decide +kernel⟩, List.mem_of_getElem? (i := 1218) (by decide +kernel), List.mem_of_getElem? (i := 1631) (by decide +kernel), List.mem_of_getElem? (i := 1632) (by decide +kernel)⟩
theorem lw_p66 : lw_okq (⟨"ParticipatoryBudgetModel", "allFunded", "()Z"⟩, 42) := ⟨⟨by decide +kernel, by decide +kernel⟩, List.mem_of_getElem? (i := 1218) (by decide +kernel), List.mem_of_getElem? (i := 1635) (by decide +kernel), List.mem_of_getElem? (i := 1636) (by decide +kernel)⟩
theorem lw_p67 : lw_okq (⟨"ParticipatoryBudgetModel", "isOverpaid", "()Z"⟩, 42) := ⟨⟨by decide +kernel, by decide +kernel⟩, List.mem_of_getElem? (i := 1218) (by decide +kernel), List.mem_of_getElem? (i := 1639) (by decide +kernel), List.mem_of_getElem? (i := 1640) (by decide +kernel)⟩
theorem lw_p68 : lw_okq (⟨"ParticipatoryBudgetModel", "best", "()V"⟩, 42) := ⟨⟨by decide +kernel, by decide +kernel⟩, List.mem_of_getElem? (i := 1218) (by decide +kernel), List.mem_of_getElem? (i := 1643) (by decide +kernel), List.mem_of_getElem? (i := 1644) (by decide +kernel)⟩
theorem lw_p69 : lw_okq (⟨"ParticipatoryBudgetModel", "layGains", "()V"⟩, 42) := ⟨⟨by decide +kernel, by decide +kernel⟩, List.mem_of_getElem? (i := 1218) (by decide +kernel), List.mem_of_getElem? (i := 1647) (by decide +kernel), List.mem_of_getElem? (i := 1648) (by decide +kernel)⟩
theorem lw_p70 : lw_okq (⟨"ParticipatoryBudgetModel", "worthOf", "(I)I"⟩, 42) := ⟨⟨by decide +kernel, by decide +kernel⟩, List.mem_of_getElem? (i := 1218) (by decide +kernel), List.mem_of_getElem? (i := 1651) (by decide +kernel), List.mem_of_getElem? (i := 1652) (by decide +kernel)⟩
theorem lw_p71 : lw_okq (⟨"ParticipatoryBudgetModel", "gainOf", "(I)J"⟩, 42) := ⟨⟨by decide +kernel, by decide +kernel⟩, List.mem_of_getElem? (i := 1218) (by decide +kernel), List.mem_of_getElem? (i := 1655) (by decide +kernel), List.mem_of_getElem? (i := 1656) (by decide +kernel)⟩
theorem lw_p72 : lw_okq (⟨"ParticipatoryBudgetModel", "costsOf", "(I)I"⟩, 42) := ⟨⟨by decide +kernel, by decide +kernel⟩, List.mem_of_getElem? (i := 1218) (by decide +kernel), List.mem_of_getElem? (i := 1659) (by decide +kernel), List.mem_of_getElem? (i := 1660) (by decide +kernel)⟩
theorem lw_p73 : lw_okq (⟨"ParticipatoryBudgetModel", "isPayable", "(I)Z"⟩, 42) := ⟨⟨by decide +kernel, by decide +kernel⟩, List.mem_of_getElem? (i := 1218) (by decide +kernel), List.mem_of_getElem? (i := 1663) (by decide +kernel), List.mem_of_getElem? (i := 1664) (by decide +kernel)⟩
theorem lw_p74 : lw_okq (⟨"ParticipatoryBudgetModel", "lays", "(I)Z"⟩, 42) := ⟨⟨by decide +kernel, by decide +kernel⟩, List.mem_of_getElem? (i := 1218) (by decide +kernel), List.mem_of_getElem? (i := 1683) (by decide +kernel), List.mem_of_getElem? (i := 1684) (by decide +kernel)⟩
theorem lw_p75 : lw_okq (⟨"ParticipatoryBudgetModel", "many", "(I)I"⟩, 42) := ⟨⟨by decide +kernel, by decide +kernel⟩, List.mem_of_getElem? (i := 1218) (by decide +kernel), List.mem_of_getElem? (i := 1707) (by decide +kernel), List.mem_of_getElem? (i := 1708) (by decide +kernel)⟩
theorem lw_p76 : lw_okq (⟨"ParticipatoryBudgetModel", "joyOf", "(I)I"⟩, 42) := ⟨⟨by decide +kernel, by decide +kernel⟩, List.mem_of_getElem? (i := 1218) (by decide +kernel), List.mem_of_getElem? (i := 1724) (by decide +kernel), List.mem_of_getElem? (i := 1725) (by decide +kernel)⟩
theorem lw_p77 : lw_okq (⟨"ParticipatoryBudgetModel", "isLeftOut", "(I)Z"⟩, 42) := ⟨⟨by decide +kernel, by decide +kernel⟩, List.mem_of_getElem? (i := 1218) (by decide +kernel), List.mem_of_getElem? (i := 1736) (by decide +kernel), List.mem_of_getElem? (i := 1737) (by decide +kernel)⟩
theorem lw_p78 : lw_okq (⟨"ParticipatoryBudgetModel", "claimNow", "(I)I"⟩, 42) := ⟨⟨by decide +kernel, by decide +kernel⟩, List.mem_of_getElem? (i := 1218) (by decide +kernel), List.mem_of_getElem? (i := 1744) (by decide +kernel), List.mem_of_getElem? (i := 1745) (by decide +kernel)⟩
theorem lw_p79 : lw_okq (⟨"ParticipatoryBudgetModel", "isFundedAt", "(II)Z"⟩, 42) := ⟨⟨by decide +kernel, by decide +kernel⟩, List.mem_of_getElem? (i := 1218) (by decide +kernel), List.mem_of_getElem? (i := 1760) (by decide +kernel), List.mem_of_getElem? (i := 1761) (by decide +kernel)⟩
def lw_privs_5 : List (MethodName × Nat) := [(⟨"ParticipatoryBudgetModel", "greedily", "()V"⟩, 42), (⟨"ParticipatoryBudgetModel", "isAhead", "(II)Z"⟩, 42), (⟨"ParticipatoryBudgetModel", "allFunded", "()Z"⟩, 42), (⟨"ParticipatoryBudgetModel", "isOverpaid", "()Z"⟩, 42), (⟨"ParticipatoryBudgetModel", "best", "()V"⟩, 42), (⟨"ParticipatoryBudgetModel", "layGains", "()V"⟩, 42), (⟨"ParticipatoryBudgetModel", "worthOf", "(I)I"⟩, 42), (⟨"ParticipatoryBudgetModel", "gainOf", "(I)J"⟩, 42), (⟨"ParticipatoryBudgetModel", "costsOf", "(I)I"⟩, 42), (⟨"ParticipatoryBudgetModel", "isPayable", "(I)Z"⟩, 42), (⟨"ParticipatoryBudgetModel", "lays", "(I)Z"⟩, 42), (⟨"ParticipatoryBudgetModel", "many", "(I)I"⟩, 42), (⟨"ParticipatoryBudgetModel", "joyOf", "(I)I"⟩, 42), (⟨"ParticipatoryBudgetModel", "isLeftOut", "(I)Z"⟩, 42), (⟨"ParticipatoryBudgetModel", "claimNow", "(I)I"⟩, 42), (⟨"ParticipatoryBudgetModel", "isFundedAt", "(II)Z"⟩, 42)]
theorem lw_r5 : ∀ q ∈ lw_privs_5, lw_okq q := List.forall_mem_cons.mpr ⟨lw_p64, List.forall_mem_cons.mpr ⟨lw_p65, List.forall_mem_cons.mpr ⟨lw_p66, List.forall_mem_cons.mpr ⟨lw_p67, List.forall_mem_cons.mpr ⟨lw_p68, List.forall_mem_cons.mpr ⟨lw_p69, List.forall_mem_cons.mpr ⟨lw_p70, List.forall_mem_cons.mpr ⟨lw_p71, List.forall_mem_cons.mpr ⟨lw_p72, List.forall_mem_cons.mpr ⟨lw_p73, List.forall_mem_cons.mpr ⟨lw_p74, List.forall_mem_cons.mpr ⟨lw_p75, List.forall_mem_cons.mpr ⟨lw_p76, List.forall_mem_cons.mpr ⟨lw_p77, List.forall_mem_cons.mpr ⟨lw_p78, List.forall_mem_cons.mpr ⟨lw_p79, fun _ h => absurd h List.not_mem_nil⟩⟩⟩⟩⟩⟩⟩⟩⟩⟩⟩⟩⟩⟩⟩⟩
theorem lw_p80 : lw_okq (⟨"ParticipatoryBudgetModel", "setOf", "(I)I"⟩, 42) := ⟨⟨by decide +kernel, by decide +kernel⟩, List.mem_of_getElem? (i := 1218) (by decide +kernel), List.mem_of_getElem? (i := 1772) (by decide +kernel), List.mem_of_getElem? (i := 1773) (by decide +kernel)⟩
theorem lw_p81 : lw_okq (⟨"ParticipatoryBudgetModel", "fundedWith", "(II)I"⟩, 42) := ⟨⟨by decide +kernel, by decide +kernel⟩, List.mem_of_getElem? (i := 1218) (by decide +kernel), List.mem_of_getElem? (i := 1816) (by decide +kernel), List.mem_of_getElem? (i := 1817) (by decide +kernel)⟩
theorem lw_p82 : lw_okq (⟨"ParticipatoryBudgetModel", "heldBy", "(I)I"⟩, 42) := ⟨⟨by decide +kernel, by decide +kernel⟩, List.mem_of_getElem? (i := 1218) (by decide +kernel), List.mem_of_getElem? (i := 1847) (by decide +kernel), List.mem_of_getElem? (i := 1848) (by decide +kernel)⟩
theorem lw_p83 : lw_okq (⟨"ParticipatoryBudgetModel", "change", "(II)I"⟩, 42) := ⟨⟨by decide +kernel, by decide +kernel⟩, List.mem_of_getElem? (i := 1218) (by decide +kernel), List.mem_of_getElem? (i := 1855) (by decide +kernel), List.mem_of_getElem? (i := 1856) (by decide +kernel)⟩
theorem lw_p84 : lw_okq (⟨"ParticipatoryBudgetModel", "remember", "()V"⟩, 42) := ⟨⟨by decide +kernel, by decide +kernel⟩, List.mem_of_getElem? (i := 1218) (by decide +kernel), List.mem_of_getElem? (i := 1859) (by decide +kernel), List.mem_of_getElem? (i := 1860) (by decide +kernel)⟩
def lw_privs_6 : List (MethodName × Nat) := [(⟨"ParticipatoryBudgetModel", "setOf", "(I)I"⟩, 42), (⟨"ParticipatoryBudgetModel", "fundedWith", "(II)I"⟩, 42), (⟨"ParticipatoryBudgetModel", "heldBy", "(I)I"⟩, 42), (⟨"ParticipatoryBudgetModel", "change", "(II)I"⟩, 42), (⟨"ParticipatoryBudgetModel", "remember", "()V"⟩, 42)]
theorem lw_r6 : ∀ q ∈ lw_privs_6, lw_okq q := List.forall_mem_cons.mpr ⟨lw_p80, List.forall_mem_cons.mpr ⟨lw_p81, List.forall_mem_cons.mpr ⟨lw_p82, List.forall_mem_cons.mpr ⟨lw_p83, List.forall_mem_cons.mpr ⟨lw_p84, fun _ h => absurd h List.not_mem_nil⟩⟩⟩⟩⟩
def lw_privs : List (MethodName × Nat) := lw_privs_1 ++ (lw_privs_2 ++ (lw_privs_3 ++ (lw_privs_4 ++ (lw_privs_5 ++ (lw_privs_6)))))
def lw_tbl : List Cond := k2_sels lw_privs ++ tables_1
theorem lw_privs_ok : ∀ q ∈ lw_privs, lw_okq q := by
  show ∀ q ∈ lw_privs_1 ++ (lw_privs_2 ++ (lw_privs_3 ++ (lw_privs_4 ++ (lw_privs_5 ++ (lw_privs_6))))), lw_okq q
  exact List.forall_mem_append.mpr ⟨lw_r1, List.forall_mem_append.mpr ⟨lw_r2, List.forall_mem_append.mpr ⟨lw_r3, List.forall_mem_append.mpr ⟨lw_r4, List.forall_mem_append.mpr ⟨lw_r5, lw_r6⟩⟩⟩⟩⟩
def RX0 : String := "ParticipatoryBudget$Ballot"
def TX0 : u_T := fun k => match k with
  | 0 => ("ParticipatoryBudget$Ballot", "districts", "I", false)
  | 1 => ("ParticipatoryBudget$Ballot", "projects", "I", false)
  | 2 => ("ParticipatoryBudget$Ballot", "voters", "I", false)
  | 3 => ("ParticipatoryBudget$Ballot", "districtNames", "[I", true)
  | 4 => ("ParticipatoryBudget$Ballot", "budgets", "[I", true)
  | 5 => ("ParticipatoryBudget$Ballot", "projectNames", "[I", true)
  | 6 => ("ParticipatoryBudget$Ballot", "costs", "[I", true)
  | 7 => ("ParticipatoryBudget$Ballot", "areas", "[I", true)
  | 8 => ("ParticipatoryBudget$Ballot", "weights", "[I", true)
  | 9 => ("ParticipatoryBudget$Ballot", "members", "[I", true)
  | 10 => ("ParticipatoryBudget$Ballot", "approved", "[I", true)
  | 11 => ("ParticipatoryBudget$Ballot", "settings", "[I", true)
  | 12 => ("ParticipatoryBudget$Ballot", "backers", "[I", true)
  | _ => ("ParticipatoryBudget$Ballot", "votes", "[I", true)
def tyX0 : Nat → FieldType := fun k => match k with
  | 0 => .int
  | 1 => .int
  | 2 => .int
  | 3 => .array .int
  | 4 => .array .int
  | 5 => .array .int
  | 6 => .array .int
  | 7 => .array .int
  | 8 => .array .int
  | 9 => .array .int
  | 10 => .array .int
  | 11 => .array .int
  | 12 => .array .int
  | _ => .array .int
theorem nmX0 : ∀ a, a < 14 → ∀ b, b < 14 → a ≠ b → (TX0 a).2.1 ≠ (TX0 b).2.1 := by decide +kernel
theorem tyX0_ok : ∀ k, k < 14 → parseFieldDescriptor (TX0 k).2.2.1 = some (tyX0 k) := by decide +kernel
abbrev cX0_init : ByteArray := prog_2_method_1_code
def yX0_init : MethodName := ⟨RX0, "<init>", "()V"⟩
abbrev cX0_clear : ByteArray := prog_2_method_2_code
def yX0_clear : MethodName := ⟨RX0, "clear", "()V"⟩
abbrev cX0_copy : ByteArray := prog_2_method_3_code
def yX0_copy : MethodName := ⟨RX0, "copy", "(LParticipatoryBudget$Ballot;)V"⟩
abbrev cX0_tally : ByteArray := prog_2_method_4_code
def yX0_tally : MethodName := ⟨RX0, "tally", "()V"⟩
abbrev cX0_voted : ByteArray := prog_2_method_5_code
def yX0_voted : MethodName := ⟨RX0, "voted", "()I"⟩
abbrev cX0_worth : ByteArray := prog_2_method_6_code
def yX0_worth : MethodName := ⟨RX0, "worth", "(I)I"⟩
abbrev cX0_memberWeight : ByteArray := prog_2_method_7_code
def yX0_memberWeight : MethodName := ⟨RX0, "memberWeight", "(I)I"⟩
abbrev cX0_firstPurse : ByteArray := prog_2_method_8_code
def yX0_firstPurse : MethodName := ⟨RX0, "firstPurse", "(II)I"⟩
abbrev cX0_share : ByteArray := prog_2_method_9_code
def yX0_share : MethodName := ⟨RX0, "share", "(III)I"⟩
abbrev cX0_firstMeans : ByteArray := prog_2_method_10_code
def yX0_firstMeans : MethodName := ⟨RX0, "firstMeans", "(II)I"⟩
abbrev cX0_goesBefore : ByteArray := prog_2_method_11_code
def yX0_goesBefore : MethodName := ⟨RX0, "goesBefore", "(II)Z"⟩
abbrev cX0_costTogether : ByteArray := prog_2_method_12_code
def yX0_costTogether : MethodName := ⟨RX0, "costTogether", "(I)I"⟩
abbrev cX0_valueTogether : ByteArray := prog_2_method_13_code
def yX0_valueTogether : MethodName := ⟨RX0, "valueTogether", "(I)I"⟩
abbrev cX0_joy : ByteArray := prog_2_method_14_code
def yX0_joy : MethodName := ⟨RX0, "joy", "(II)I"⟩
abbrev cX0_unserved : ByteArray := prog_2_method_15_code
def yX0_unserved : MethodName := ⟨RX0, "unserved", "(I)I"⟩
abbrev cX0_claim : ByteArray := prog_2_method_16_code
def yX0_claim : MethodName := ⟨RX0, "claim", "(II)I"⟩
def RX1 : String := "ParticipatoryBudget$EqualShares"
def TX1 : u_T := fun k => match k with
  | 0 => ("ParticipatoryBudget$EqualShares", "rounds", "LParticipatoryBudget$Rounds;", false)
  | 1 => ("ParticipatoryBudget$EqualShares", "trial", "LParticipatoryBudget$Rounds;", false)
  | 2 => ("ParticipatoryBudget$EqualShares", "completion", "LParticipatoryBudget$Greedy;", true)
  | 3 => ("ParticipatoryBudget$EqualShares", "firstPrices", "[I", true)
  | 4 => ("ParticipatoryBudget$EqualShares", "raised", "I", false)
  | _ => ("ParticipatoryBudget$EqualShares", "unraised", "I", false)
def tyX1 : Nat → FieldType := fun k => match k with
  | 0 => .object "ParticipatoryBudget$Rounds"
  | 1 => .object "ParticipatoryBudget$Rounds"
  | 2 => .object "ParticipatoryBudget$Greedy"
  | 3 => .array .int
  | 4 => .int
  | _ => .int
theorem nmX1 : ∀ a, a < 6 → ∀ b, b < 6 → a ≠ b → (TX1 a).2.1 ≠ (TX1 b).2.1 := by decide +kernel
theorem tyX1_ok : ∀ k, k < 6 → parseFieldDescriptor (TX1 k).2.2.1 = some (tyX1 k) := by decide +kernel
abbrev cX1_init : ByteArray := prog_3_method_1_code
def yX1_init : MethodName := ⟨RX1, "<init>", "()V"⟩
abbrev cX1_decide : ByteArray := prog_3_method_2_code
def yX1_decide : MethodName := ⟨RX1, "decide", "(LParticipatoryBudget$Ballot;)V"⟩
abbrev cX1_keepTrial : ByteArray := prog_3_method_3_code
def yX1_keepTrial : MethodName := ⟨RX1, "keepTrial", "()V"⟩
abbrev cX1_complete : ByteArray := prog_3_method_4_code
def yX1_complete : MethodName := ⟨RX1, "complete", "(LParticipatoryBudget$Ballot;)V"⟩
abbrev cX1_chosen : ByteArray := prog_3_method_5_code
def yX1_chosen : MethodName := ⟨RX1, "chosen", "()I"⟩
abbrev cX1_chosenAt : ByteArray := prog_3_method_6_code
def yX1_chosenAt : MethodName := ⟨RX1, "chosenAt", "(I)I"⟩
def RX2 : String := "ParticipatoryBudget$Greedy"
def TX2 : u_T := fun k => match k with
  | 0 => ("ParticipatoryBudget$Greedy", "left", "[I", true)
  | 1 => ("ParticipatoryBudget$Greedy", "taken", "[[I", true)
  | 2 => ("ParticipatoryBudget$Greedy", "sequence", "[I", true)
  | 3 => ("ParticipatoryBudget$Greedy", "count", "I", false)
  | _ => ("ParticipatoryBudget$Greedy", "chosen", "I", false)
def tyX2 : Nat → FieldType := fun k => match k with
  | 0 => .array .int
  | 1 => .array (.array .int)
  | 2 => .array .int
  | 3 => .int
  | _ => .int
theorem nmX2 : ∀ a, a < 5 → ∀ b, b < 5 → a ≠ b → (TX2 a).2.1 ≠ (TX2 b).2.1 := by decide +kernel
theorem tyX2_ok : ∀ k, k < 5 → parseFieldDescriptor (TX2 k).2.2.1 = some (tyX2 k) := by decide +kernel
abbrev cX2_init : ByteArray := prog_4_method_1_code
def yX2_init : MethodName := ⟨RX2, "<init>", "()V"⟩
abbrev cX2_decide : ByteArray := prog_4_method_2_code
def yX2_decide : MethodName := ⟨RX2, "decide", "(LParticipatoryBudget$Ballot;)V"⟩
abbrev cX2_begin : ByteArray := prog_4_method_3_code
def yX2_begin : MethodName := ⟨RX2, "begin", "(LParticipatoryBudget$Ballot;)V"⟩
abbrev cX2_take : ByteArray := prog_4_method_4_code
def yX2_take : MethodName := ⟨RX2, "take", "(LParticipatoryBudget$Ballot;I)V"⟩
abbrev cX2_first : ByteArray := prog_4_method_5_code
def yX2_first : MethodName := ⟨RX2, "first", "(LParticipatoryBudget$Ballot;I)I"⟩
abbrev cX2_leftIn : ByteArray := prog_4_method_6_code
def yX2_leftIn : MethodName := ⟨RX2, "leftIn", "(I)I"⟩
abbrev cX2_fund : ByteArray := prog_4_method_7_code
def yX2_fund : MethodName := ⟨RX2, "fund", "(III)V"⟩
abbrev cX2_chosenAt : ByteArray := prog_4_method_8_code
def yX2_chosenAt : MethodName := ⟨RX2, "chosenAt", "(I)I"⟩
def RX3 : String := "ParticipatoryBudget$History"
def TX3 : u_T := fun k => match k with
  | 0 => ("ParticipatoryBudget$History", "kinds", "[I", true)
  | 1 => ("ParticipatoryBudget$History", "indices", "[I", true)
  | 2 => ("ParticipatoryBudget$History", "previous", "[I", true)
  | _ => ("ParticipatoryBudget$History", "count", "I", false)
def tyX3 : Nat → FieldType := fun k => match k with
  | 0 => .array .int
  | 1 => .array .int
  | 2 => .array .int
  | _ => .int
theorem nmX3 : ∀ a, a < 4 → ∀ b, b < 4 → a ≠ b → (TX3 a).2.1 ≠ (TX3 b).2.1 := by decide +kernel
theorem tyX3_ok : ∀ k, k < 4 → parseFieldDescriptor (TX3 k).2.2.1 = some (tyX3 k) := by decide +kernel
abbrev cX3_init : ByteArray := prog_5_method_1_code
def yX3_init : MethodName := ⟨RX3, "<init>", "()V"⟩
abbrev cX3_change : ByteArray := prog_5_method_2_code
def yX3_change : MethodName := ⟨RX3, "change", "(LParticipatoryBudget$Ballot;III)I"⟩
abbrev cX3_undoLatest : ByteArray := prog_5_method_3_code
def yX3_undoLatest : MethodName := ⟨RX3, "undoLatest", "(LParticipatoryBudget$Ballot;)V"⟩
abbrev cX3_forgetOldest : ByteArray := prog_5_method_4_code
def yX3_forgetOldest : MethodName := ⟨RX3, "forgetOldest", "()V"⟩
abbrev cX3_row : ByteArray := prog_5_method_5_code
def yX3_row : MethodName := ⟨RX3, "row", "(LParticipatoryBudget$Ballot;I)[I"⟩
def RX4 : String := "ParticipatoryBudget$Optimum"
def TX4 : u_T := fun k => match k with
  | 0 => ("ParticipatoryBudget$Optimum", "values", "[I", true)
  | 1 => ("ParticipatoryBudget$Optimum", "costs", "[I", true)
  | 2 => ("ParticipatoryBudget$Optimum", "bound", "[I", true)
  | 3 => ("ParticipatoryBudget$Optimum", "budgets", "[I", true)
  | 4 => ("ParticipatoryBudget$Optimum", "setCount", "I", false)
  | _ => ("ParticipatoryBudget$Optimum", "areaCount", "I", false)
def tyX4 : Nat → FieldType := fun k => match k with
  | 0 => .array .int
  | 1 => .array .int
  | 2 => .array .int
  | 3 => .array .int
  | 4 => .int
  | _ => .int
theorem nmX4 : ∀ a, a < 6 → ∀ b, b < 6 → a ≠ b → (TX4 a).2.1 ≠ (TX4 b).2.1 := by decide +kernel
theorem tyX4_ok : ∀ k, k < 6 → parseFieldDescriptor (TX4 k).2.2.1 = some (tyX4 k) := by decide +kernel
abbrev cX4_init : ByteArray := prog_6_method_1_code
def yX4_init : MethodName := ⟨RX4, "<init>", "()V"⟩
abbrev cX4_prepare : ByteArray := prog_6_method_2_code
def yX4_prepare : MethodName := ⟨RX4, "prepare", "(LParticipatoryBudget$Ballot;)V"⟩
abbrev cX4_projectsWithin : ByteArray := prog_6_method_3_code
def yX4_projectsWithin : MethodName := ⟨RX4, "projectsWithin", "(LParticipatoryBudget$Ballot;I)I"⟩
abbrev cX4_canPay : ByteArray := prog_6_method_4_code
def yX4_canPay : MethodName := ⟨RX4, "canPay", "(I)Z"⟩
abbrev cX4_best : ByteArray := prog_6_method_5_code
def yX4_best : MethodName := ⟨RX4, "best", "(I)I"⟩
abbrev cX4_cheapest : ByteArray := prog_6_method_6_code
def yX4_cheapest : MethodName := ⟨RX4, "cheapest", "(I)I"⟩
def RX5 : String := "ParticipatoryBudget$Reader"
def TX5 : u_T := fun k => match k with
  | _ => ("ParticipatoryBudget$Reader", "settingsGiven", "I", false)
def tyX5 : Nat → FieldType := fun k => match k with
  | _ => .int
theorem nmX5 : ∀ a, a < 1 → ∀ b, b < 1 → a ≠ b → (TX5 a).2.1 ≠ (TX5 b).2.1 := by decide +kernel
theorem tyX5_ok : ∀ k, k < 1 → parseFieldDescriptor (TX5 k).2.2.1 = some (tyX5 k) := by decide +kernel
abbrev cX5_init : ByteArray := prog_7_method_1_code
def yX5_init : MethodName := ⟨RX5, "<init>", "()V"⟩
abbrev cX5_read : ByteArray := prog_7_method_2_code
def yX5_read : MethodName := ⟨RX5, "read", "(LParticipatoryBudget$Text;LParticipatoryBudget$Ballot;)I"⟩
abbrev cX5_district : ByteArray := prog_7_method_3_code
def yX5_district : MethodName := ⟨RX5, "district", "(LParticipatoryBudget$Text;LParticipatoryBudget$Ballot;)I"⟩
abbrev cX5_project : ByteArray := prog_7_method_4_code
def yX5_project : MethodName := ⟨RX5, "project", "(LParticipatoryBudget$Text;LParticipatoryBudget$Ballot;)I"⟩
abbrev cX5_voter : ByteArray := prog_7_method_5_code
def yX5_voter : MethodName := ⟨RX5, "voter", "(LParticipatoryBudget$Text;LParticipatoryBudget$Ballot;)I"⟩
abbrev cX5_setting : ByteArray := prog_7_method_6_code
def yX5_setting : MethodName := ⟨RX5, "setting", "(LParticipatoryBudget$Text;LParticipatoryBudget$Ballot;)I"⟩
abbrev cX5_newName : ByteArray := prog_7_method_7_code
def yX5_newName : MethodName := ⟨RX5, "newName", "(LParticipatoryBudget$Text;LParticipatoryBudget$Ballot;)I"⟩
abbrev cX5_integer : ByteArray := prog_7_method_8_code
def yX5_integer : MethodName := ⟨RX5, "integer", "(LParticipatoryBudget$Text;II)I"⟩
abbrev cX5_list : ByteArray := prog_7_method_9_code
def yX5_list : MethodName := ⟨RX5, "list", "(LParticipatoryBudget$Text;[II)I"⟩
def RX6 : String := "ParticipatoryBudget$Rounds"
def TX6 : u_T := fun k => match k with
  | 0 => ("ParticipatoryBudget$Rounds", "purses", "[[I", true)
  | 1 => ("ParticipatoryBudget$Rounds", "paid", "[[I", true)
  | 2 => ("ParticipatoryBudget$Rounds", "taken", "[[I", true)
  | 3 => ("ParticipatoryBudget$Rounds", "prices", "[[I", true)
  | 4 => ("ParticipatoryBudget$Rounds", "sequence", "[I", true)
  | 5 => ("ParticipatoryBudget$Rounds", "stakes", "[I", true)
  | 6 => ("ParticipatoryBudget$Rounds", "stakeMeans", "[I", true)
  | 7 => ("ParticipatoryBudget$Rounds", "count", "I", false)
  | _ => ("ParticipatoryBudget$Rounds", "chosen", "I", false)
def tyX6 : Nat → FieldType := fun k => match k with
  | 0 => .array (.array .int)
  | 1 => .array (.array .int)
  | 2 => .array (.array .int)
  | 3 => .array (.array .int)
  | 4 => .array .int
  | 5 => .array .int
  | 6 => .array .int
  | 7 => .int
  | _ => .int
theorem nmX6 : ∀ a, a < 9 → ∀ b, b < 9 → a ≠ b → (TX6 a).2.1 ≠ (TX6 b).2.1 := by decide +kernel
theorem tyX6_ok : ∀ k, k < 9 → parseFieldDescriptor (TX6 k).2.2.1 = some (tyX6 k) := by decide +kernel
abbrev cX6_init : ByteArray := prog_8_method_1_code
def yX6_init : MethodName := ⟨RX6, "<init>", "()V"⟩
abbrev cX6_run : ByteArray := prog_8_method_2_code
def yX6_run : MethodName := ⟨RX6, "run", "(LParticipatoryBudget$Ballot;I)V"⟩
abbrev cX6_clear : ByteArray := prog_8_method_3_code
def yX6_clear : MethodName := ⟨RX6, "clear", "()V"⟩
abbrev cX6_fillPurses : ByteArray := prog_8_method_4_code
def yX6_fillPurses : MethodName := ⟨RX6, "fillPurses", "(LParticipatoryBudget$Ballot;I)V"⟩
abbrev cX6_choose : ByteArray := prog_8_method_5_code
def yX6_choose : MethodName := ⟨RX6, "choose", "(LParticipatoryBudget$Ballot;I)I"⟩
abbrev cX6_isBetter : ByteArray := prog_8_method_6_code
def yX6_isBetter : MethodName := ⟨RX6, "isBetter", "(LParticipatoryBudget$Ballot;III)Z"⟩
abbrev cX6_weigh : ByteArray := prog_8_method_7_code
def yX6_weigh : MethodName := ⟨RX6, "weigh", "(LParticipatoryBudget$Ballot;I)I"⟩
abbrev cX6_leastPrice : ByteArray := prog_8_method_8_code
def yX6_leastPrice : MethodName := ⟨RX6, "leastPrice", "(LParticipatoryBudget$Ballot;I)I"⟩
abbrev cX6_fund : ByteArray := prog_8_method_9_code
def yX6_fund : MethodName := ⟨RX6, "fund", "(LParticipatoryBudget$Ballot;II)V"⟩
abbrev cX6_pay : ByteArray := prog_8_method_10_code
def yX6_pay : MethodName := ⟨RX6, "pay", "(IIII)V"⟩
abbrev cX6_means : ByteArray := prog_8_method_11_code
def yX6_means : MethodName := ⟨RX6, "means", "(II)I"⟩
abbrev cX6_takenFrom : ByteArray := prog_8_method_12_code
def yX6_takenFrom : MethodName := ⟨RX6, "takenFrom", "(I)I"⟩
abbrev cX6_overspends : ByteArray := prog_8_method_13_code
def yX6_overspends : MethodName := ⟨RX6, "overspends", "(LParticipatoryBudget$Ballot;)Z"⟩
abbrev cX6_whenFunded : ByteArray := prog_8_method_14_code
def yX6_whenFunded : MethodName := ⟨RX6, "whenFunded", "(I)I"⟩
def RX7 : String := "ParticipatoryBudget$Text"
def TX7 : u_T := fun k => match k with
  | 0 => ("ParticipatoryBudget$Text", "bytes", "[B", true)
  | 1 => ("ParticipatoryBudget$Text", "size", "I", false)
  | 2 => ("ParticipatoryBudget$Text", "kind", "I", false)
  | 3 => ("ParticipatoryBudget$Text", "start", "I", false)
  | 4 => ("ParticipatoryBudget$Text", "length", "I", false)
  | _ => ("ParticipatoryBudget$Text", "stop", "I", false)
def tyX7 : Nat → FieldType := fun k => match k with
  | 0 => .array .byte
  | 1 => .int
  | 2 => .int
  | 3 => .int
  | 4 => .int
  | _ => .int
theorem nmX7 : ∀ a, a < 6 → ∀ b, b < 6 → a ≠ b → (TX7 a).2.1 ≠ (TX7 b).2.1 := by decide +kernel
theorem tyX7_ok : ∀ k, k < 6 → parseFieldDescriptor (TX7 k).2.2.1 = some (tyX7 k) := by decide +kernel
abbrev cX7_init : ByteArray := prog_9_method_1_code
def yX7_init : MethodName := ⟨RX7, "<init>", "()V"⟩
abbrev cX7_append : ByteArray := prog_9_method_2_code
def yX7_append : MethodName := ⟨RX7, "append", "(I)V"⟩
abbrev cX7_open : ByteArray := prog_9_method_3_code
def yX7_open : MethodName := ⟨RX7, "open", "(I)V"⟩
abbrev cX7_next : ByteArray := prog_9_method_4_code
def yX7_next : MethodName := ⟨RX7, "next", "()V"⟩
abbrev cX7_isLetter : ByteArray := prog_9_method_5_code
def yX7_isLetter : MethodName := ⟨RX7, "isLetter", "(I)Z"⟩
abbrev cX7_isDigit : ByteArray := prog_9_method_6_code
def yX7_isDigit : MethodName := ⟨RX7, "isDigit", "(I)Z"⟩
abbrev cX7_wordKind : ByteArray := prog_9_method_7_code
def yX7_wordKind : MethodName := ⟨RX7, "wordKind", "()I"⟩
abbrev cX7_isWord : ByteArray := prog_9_method_8_code
def yX7_isWord : MethodName := ⟨RX7, "isWord", "(Ljava/lang/String;)Z"⟩
abbrev cX7_setting : ByteArray := prog_9_method_9_code
def yX7_setting : MethodName := ⟨RX7, "setting", "()I"⟩
abbrev cX7_number : ByteArray := prog_9_method_10_code
def yX7_number : MethodName := ⟨RX7, "number", "()I"⟩
abbrev cX7_letters : ByteArray := prog_9_method_11_code
def yX7_letters : MethodName := ⟨RX7, "letters", "()I"⟩
def RX8 : String := "ParticipatoryBudget"
def TX8 : u_T := fun k => match k with
  | 0 => ("ParticipatoryBudget", "text", "LParticipatoryBudget$Text;", true)
  | 1 => ("ParticipatoryBudget", "reader", "LParticipatoryBudget$Reader;", true)
  | 2 => ("ParticipatoryBudget", "history", "LParticipatoryBudget$History;", true)
  | 3 => ("ParticipatoryBudget", "equal", "LParticipatoryBudget$EqualShares;", true)
  | 4 => ("ParticipatoryBudget", "equalIf", "LParticipatoryBudget$EqualShares;", true)
  | 5 => ("ParticipatoryBudget", "greedy", "LParticipatoryBudget$Greedy;", true)
  | 6 => ("ParticipatoryBudget", "greedyIf", "LParticipatoryBudget$Greedy;", true)
  | 7 => ("ParticipatoryBudget", "optimum", "LParticipatoryBudget$Optimum;", true)
  | 8 => ("ParticipatoryBudget", "ballot", "LParticipatoryBudget$Ballot;", false)
  | 9 => ("ParticipatoryBudget", "spare", "LParticipatoryBudget$Ballot;", false)
  | 10 => ("ParticipatoryBudget", "errorAt", "I", false)
  | 11 => ("ParticipatoryBudget", "bestSet", "I", false)
  | 12 => ("ParticipatoryBudget", "equalKnown", "Z", false)
  | 13 => ("ParticipatoryBudget", "greedyKnown", "Z", false)
  | _ => ("ParticipatoryBudget", "bestKnown", "Z", false)
def tyX8 : Nat → FieldType := fun k => match k with
  | 0 => .object "ParticipatoryBudget$Text"
  | 1 => .object "ParticipatoryBudget$Reader"
  | 2 => .object "ParticipatoryBudget$History"
  | 3 => .object "ParticipatoryBudget$EqualShares"
  | 4 => .object "ParticipatoryBudget$EqualShares"
  | 5 => .object "ParticipatoryBudget$Greedy"
  | 6 => .object "ParticipatoryBudget$Greedy"
  | 7 => .object "ParticipatoryBudget$Optimum"
  | 8 => .object "ParticipatoryBudget$Ballot"
  | 9 => .object "ParticipatoryBudget$Ballot"
  | 10 => .int
  | 11 => .int
  | 12 => .boolean
  | 13 => .boolean
  | _ => .boolean
theorem nmX8 : ∀ a, a < 15 → ∀ b, b < 15 → a ≠ b → (TX8 a).2.1 ≠ (TX8 b).2.1 := by decide +kernel
theorem tyX8_ok : ∀ k, k < 15 → parseFieldDescriptor (TX8 k).2.2.1 = some (tyX8 k) := by decide +kernel
abbrev cX8_init : ByteArray := prog_1_method_1_code
def yX8_init : MethodName := ⟨RX8, "<init>", "()V"⟩
abbrev cX8_feed : ByteArray := prog_1_method_2_code
def yX8_feed : MethodName := ⟨RX8, "feed", "(IIIII)I"⟩
abbrev cX8_load : ByteArray := prog_1_method_3_code
def yX8_load : MethodName := ⟨RX8, "load", "(I)I"⟩
abbrev cX8_errorPosition : ByteArray := prog_1_method_4_code
def yX8_errorPosition : MethodName := ⟨RX8, "errorPosition", "()I"⟩
abbrev cX8_districtCount : ByteArray := prog_1_method_5_code
def yX8_districtCount : MethodName := ⟨RX8, "districtCount", "()I"⟩
abbrev cX8_projectCount : ByteArray := prog_1_method_6_code
def yX8_projectCount : MethodName := ⟨RX8, "projectCount", "()I"⟩
abbrev cX8_voterCount : ByteArray := prog_1_method_7_code
def yX8_voterCount : MethodName := ⟨RX8, "voterCount", "()I"⟩
abbrev cX8_undoCount : ByteArray := prog_1_method_8_code
def yX8_undoCount : MethodName := ⟨RX8, "undoCount", "()I"⟩
abbrev cX8_districtNamed : ByteArray := prog_1_method_9_code
def yX8_districtNamed : MethodName := ⟨RX8, "districtNamed", "(I)I"⟩
abbrev cX8_projectNamed : ByteArray := prog_1_method_10_code
def yX8_projectNamed : MethodName := ⟨RX8, "projectNamed", "(I)I"⟩
abbrev cX8_budgetOf : ByteArray := prog_1_method_11_code
def yX8_budgetOf : MethodName := ⟨RX8, "budgetOf", "(I)I"⟩
abbrev cX8_costOf : ByteArray := prog_1_method_12_code
def yX8_costOf : MethodName := ⟨RX8, "costOf", "(I)I"⟩
abbrev cX8_districtsOf : ByteArray := prog_1_method_13_code
def yX8_districtsOf : MethodName := ⟨RX8, "districtsOf", "(I)I"⟩
abbrev cX8_memberships : ByteArray := prog_1_method_14_code
def yX8_memberships : MethodName := ⟨RX8, "memberships", "(I)I"⟩
abbrev cX8_approvals : ByteArray := prog_1_method_15_code
def yX8_approvals : MethodName := ⟨RX8, "approvals", "(I)I"⟩
abbrev cX8_weightOf : ByteArray := prog_1_method_16_code
def yX8_weightOf : MethodName := ⟨RX8, "weightOf", "(I)I"⟩
abbrev cX8_getSetting : ByteArray := prog_1_method_17_code
def yX8_getSetting : MethodName := ⟨RX8, "getSetting", "(I)I"⟩
abbrev cX8_supporters : ByteArray := prog_1_method_18_code
def yX8_supporters : MethodName := ⟨RX8, "supporters", "(I)I"⟩
abbrev cX8_votesFor : ByteArray := prog_1_method_19_code
def yX8_votesFor : MethodName := ⟨RX8, "votesFor", "(I)I"⟩
abbrev cX8_commonSupport : ByteArray := prog_1_method_20_code
def yX8_commonSupport : MethodName := ⟨RX8, "commonSupport", "(II)I"⟩
abbrev cX8_purse : ByteArray := prog_1_method_21_code
def yX8_purse : MethodName := ⟨RX8, "purse", "(II)I"⟩
abbrev cX8_endowment : ByteArray := prog_1_method_22_code
def yX8_endowment : MethodName := ⟨RX8, "endowment", "(I)I"⟩
abbrev cX8_firstPrice : ByteArray := prog_1_method_23_code
def yX8_firstPrice : MethodName := ⟨RX8, "firstPrice", "(I)I"⟩
abbrev cX8_priceOf : ByteArray := prog_1_method_24_code
def yX8_priceOf : MethodName := ⟨RX8, "priceOf", "(I)I"⟩
abbrev cX8_priceIn : ByteArray := prog_1_method_25_code
def yX8_priceIn : MethodName := ⟨RX8, "priceIn", "(II)I"⟩
abbrev cX8_roundOf : ByteArray := prog_1_method_26_code
def yX8_roundOf : MethodName := ⟨RX8, "roundOf", "(I)I"⟩
abbrev cX8_paidBy : ByteArray := prog_1_method_27_code
def yX8_paidBy : MethodName := ⟨RX8, "paidBy", "(II)I"⟩
abbrev cX8_spentBy : ByteArray := prog_1_method_28_code
def yX8_spentBy : MethodName := ⟨RX8, "spentBy", "(I)I"⟩
abbrev cX8_payers : ByteArray := prog_1_method_29_code
def yX8_payers : MethodName := ⟨RX8, "payers", "(I)I"⟩
abbrev cX8_purseLeft : ByteArray := prog_1_method_30_code
def yX8_purseLeft : MethodName := ⟨RX8, "purseLeft", "(II)I"⟩
abbrev cX8_meansLeft : ByteArray := prog_1_method_31_code
def yX8_meansLeft : MethodName := ⟨RX8, "meansLeft", "(I)I"⟩
abbrev cX8_richest : ByteArray := prog_1_method_32_code
def yX8_richest : MethodName := ⟨RX8, "richest", "()I"⟩
abbrev cX8_raises : ByteArray := prog_1_method_33_code
def yX8_raises : MethodName := ⟨RX8, "raises", "()I"⟩
abbrev cX8_completed : ByteArray := prog_1_method_34_code
def yX8_completed : MethodName := ⟨RX8, "completed", "()I"⟩
abbrev cX8_funded : ByteArray := prog_1_method_35_code
def yX8_funded : MethodName := ⟨RX8, "funded", "(I)I"⟩
abbrev cX8_fundedAt : ByteArray := prog_1_method_36_code
def yX8_fundedAt : MethodName := ⟨RX8, "fundedAt", "(II)I"⟩
abbrev cX8_paidFrom : ByteArray := prog_1_method_37_code
def yX8_paidFrom : MethodName := ⟨RX8, "paidFrom", "(III)I"⟩
abbrev cX8_leftOf : ByteArray := prog_1_method_38_code
def yX8_leftOf : MethodName := ⟨RX8, "leftOf", "(II)I"⟩
abbrev cX8_totalCost : ByteArray := prog_1_method_39_code
def yX8_totalCost : MethodName := ⟨RX8, "totalCost", "(I)I"⟩
abbrev cX8_welfare : ByteArray := prog_1_method_40_code
def yX8_welfare : MethodName := ⟨RX8, "welfare", "(I)J"⟩
abbrev cX8_common : ByteArray := prog_1_method_41_code
def yX8_common : MethodName := ⟨RX8, "common", "(II)I"⟩
abbrev cX8_loss : ByteArray := prog_1_method_42_code
def yX8_loss : MethodName := ⟨RX8, "loss", "(I)J"⟩
abbrev cX8_satisfaction : ByteArray := prog_1_method_43_code
def yX8_satisfaction : MethodName := ⟨RX8, "satisfaction", "(II)I"⟩
abbrev cX8_worstOff : ByteArray := prog_1_method_44_code
def yX8_worstOff : MethodName := ⟨RX8, "worstOff", "(I)I"⟩
abbrev cX8_spread : ByteArray := prog_1_method_45_code
def yX8_spread : MethodName := ⟨RX8, "spread", "(I)I"⟩
abbrev cX8_rankOf : ByteArray := prog_1_method_46_code
def yX8_rankOf : MethodName := ⟨RX8, "rankOf", "(II)I"⟩
abbrev cX8_districtWelfare : ByteArray := prog_1_method_47_code
def yX8_districtWelfare : MethodName := ⟨RX8, "districtWelfare", "(II)I"⟩
abbrev cX8_leftOut : ByteArray := prog_1_method_48_code
def yX8_leftOut : MethodName := ⟨RX8, "leftOut", "(I)I"⟩
abbrev cX8_claimOf : ByteArray := prog_1_method_49_code
def yX8_claimOf : MethodName := ⟨RX8, "claimOf", "(II)I"⟩
abbrev cX8_unjust : ByteArray := prog_1_method_50_code
def yX8_unjust : MethodName := ⟨RX8, "unjust", "(I)I"⟩
abbrev cX8_canBePaid : ByteArray := prog_1_method_51_code
def yX8_canBePaid : MethodName := ⟨RX8, "canBePaid", "(I)Z"⟩
abbrev cX8_bestWithout : ByteArray := prog_1_method_52_code
def yX8_bestWithout : MethodName := ⟨RX8, "bestWithout", "(I)J"⟩
abbrev cX8_cheapestSet : ByteArray := prog_1_method_53_code
def yX8_cheapestSet : MethodName := ⟨RX8, "cheapestSet", "(I)I"⟩
abbrev cX8_changedWithout : ByteArray := prog_1_method_54_code
def yX8_changedWithout : MethodName := ⟨RX8, "changedWithout", "(I)I"⟩
abbrev cX8_fundedWithBudget : ByteArray := prog_1_method_55_code
def yX8_fundedWithBudget : MethodName := ⟨RX8, "fundedWithBudget", "(II)I"⟩
abbrev cX8_fundedWithCost : ByteArray := prog_1_method_56_code
def yX8_fundedWithCost : MethodName := ⟨RX8, "fundedWithCost", "(II)I"⟩
abbrev cX8_fundedWithout : ByteArray := prog_1_method_57_code
def yX8_fundedWithout : MethodName := ⟨RX8, "fundedWithout", "(I)I"⟩
abbrev cX8_greedyLimit : ByteArray := prog_1_method_58_code
def yX8_greedyLimit : MethodName := ⟨RX8, "greedyLimit", "(I)I"⟩
abbrev cX8_setBudget : ByteArray := prog_1_method_59_code
def yX8_setBudget : MethodName := ⟨RX8, "setBudget", "(II)I"⟩
abbrev cX8_setCost : ByteArray := prog_1_method_60_code
def yX8_setCost : MethodName := ⟨RX8, "setCost", "(II)I"⟩
abbrev cX8_setWeight : ByteArray := prog_1_method_61_code
def yX8_setWeight : MethodName := ⟨RX8, "setWeight", "(II)I"⟩
abbrev cX8_setMember : ByteArray := prog_1_method_62_code
def yX8_setMember : MethodName := ⟨RX8, "setMember", "(IIZ)I"⟩
abbrev cX8_setApproval : ByteArray := prog_1_method_63_code
def yX8_setApproval : MethodName := ⟨RX8, "setApproval", "(IIZ)I"⟩
abbrev cX8_setSetting : ByteArray := prog_1_method_64_code
def yX8_setSetting : MethodName := ⟨RX8, "setSetting", "(II)I"⟩
abbrev cX8_undo : ByteArray := prog_1_method_65_code
def yX8_undo : MethodName := ⟨RX8, "undo", "()I"⟩
abbrev cX8_change : ByteArray := prog_1_method_66_code
def yX8_change : MethodName := ⟨RX8, "change", "(III)I"⟩
abbrev cX8_settle : ByteArray := prog_1_method_67_code
def yX8_settle : MethodName := ⟨RX8, "settle", "()V"⟩
abbrev cX8_equalNow : ByteArray := prog_1_method_68_code
def yX8_equalNow : MethodName := ⟨RX8, "equalNow", "()LParticipatoryBudget$EqualShares;"⟩
abbrev cX8_greedyNow : ByteArray := prog_1_method_69_code
def yX8_greedyNow : MethodName := ⟨RX8, "greedyNow", "()LParticipatoryBudget$Greedy;"⟩
abbrev cX8_optimumNow : ByteArray := prog_1_method_70_code
def yX8_optimumNow : MethodName := ⟨RX8, "optimumNow", "()LParticipatoryBudget$Optimum;"⟩
abbrev cX8_bestNow : ByteArray := prog_1_method_71_code
def yX8_bestNow : MethodName := ⟨RX8, "bestNow", "()I"⟩
abbrev cX8_chosenBy : ByteArray := prog_1_method_72_code
def yX8_chosenBy : MethodName := ⟨RX8, "chosenBy", "(I)I"⟩
abbrev cX8_chosenIfSpare : ByteArray := prog_1_method_73_code
def yX8_chosenIfSpare : MethodName := ⟨RX8, "chosenIfSpare", "()I"⟩
abbrev cX8_isGreedilyChosenIfSpare : ByteArray := prog_1_method_74_code
def yX8_isGreedilyChosenIfSpare : MethodName := ⟨RX8, "isGreedilyChosenIfSpare", "(I)Z"⟩
abbrev cX8_isRule : ByteArray := prog_1_method_75_code
def yX8_isRule : MethodName := ⟨RX8, "isRule", "(I)Z"⟩
abbrev cX8_isIndex : ByteArray := prog_1_method_76_code
def yX8_isIndex : MethodName := ⟨RX8, "isIndex", "(II)Z"⟩
abbrev cX8_checkIndex : ByteArray := prog_1_method_77_code
def yX8_checkIndex : MethodName := ⟨RX8, "checkIndex", "(II)V"⟩
abbrev cX8_has : ByteArray := prog_1_method_78_code
def yX8_has : MethodName := ⟨RX8, "has", "(II)Z"⟩
abbrev cX8_with : ByteArray := prog_1_method_79_code
def yX8_with : MethodName := ⟨RX8, "with", "(IIZ)I"⟩
abbrev cX8_elementAt : ByteArray := prog_1_method_80_code
def yX8_elementAt : MethodName := ⟨RX8, "elementAt", "(II)I"⟩
abbrev cX8_place : ByteArray := prog_1_method_81_code
def yX8_place : MethodName := ⟨RX8, "place", "([III)I"⟩
def RX9 : String := "ParticipatoryBudgetModel"
def TX9 : u_T := fun k => match k with
  | 0 => ("ParticipatoryBudgetModel", "data", "[I", true)
  | 1 => ("ParticipatoryBudgetModel", "loaded", "[I", true)
  | 2 => ("ParticipatoryBudgetModel", "history", "[I", true)
  | 3 => ("ParticipatoryBudgetModel", "historySize", "I", false)
  | 4 => ("ParticipatoryBudgetModel", "thrown", "I", false)
  | 5 => ("ParticipatoryBudgetModel", "districts", "I", false)
  | 6 => ("ParticipatoryBudgetModel", "projects", "I", false)
  | 7 => ("ParticipatoryBudgetModel", "voters", "I", false)
  | 8 => ("ParticipatoryBudgetModel", "districtName", "[I", true)
  | 9 => ("ParticipatoryBudgetModel", "projectName", "[I", true)
  | 10 => ("ParticipatoryBudgetModel", "where", "[I", true)
  | 11 => ("ParticipatoryBudgetModel", "newDistricts", "I", false)
  | 12 => ("ParticipatoryBudgetModel", "newProjects", "I", false)
  | 13 => ("ParticipatoryBudgetModel", "newVoters", "I", false)
  | 14 => ("ParticipatoryBudgetModel", "newDistrictName", "[I", true)
  | 15 => ("ParticipatoryBudgetModel", "newProjectName", "[I", true)
  | 16 => ("ParticipatoryBudgetModel", "newWhere", "[I", true)
  | 17 => ("ParticipatoryBudgetModel", "buffer", "[B", true)
  | 18 => ("ParticipatoryBudgetModel", "bufferSize", "I", false)
  | 19 => ("ParticipatoryBudgetModel", "end", "I", false)
  | 20 => ("ParticipatoryBudgetModel", "next", "I", false)
  | 21 => ("ParticipatoryBudgetModel", "tokenStart", "I", false)
  | 22 => ("ParticipatoryBudgetModel", "token", "I", false)
  | 23 => ("ParticipatoryBudgetModel", "word", "J", false)
  | 24 => ("ParticipatoryBudgetModel", "integer", "I", false)
  | 25 => ("ParticipatoryBudgetModel", "error", "I", false)
  | 26 => ("ParticipatoryBudgetModel", "errorAt", "I", false)
  | 27 => ("ParticipatoryBudgetModel", "givenSettings", "I", false)
  | 28 => ("ParticipatoryBudgetModel", "statements", "I", false)
  | 29 => ("ParticipatoryBudgetModel", "holding", "[I", true)
  | 30 => ("ParticipatoryBudgetModel", "fundedSet", "I", false)
  | 31 => ("ParticipatoryBudgetModel", "fundedMany", "I", false)
  | 32 => ("ParticipatoryBudgetModel", "row", "[I", true)
  | 33 => ("ParticipatoryBudgetModel", "price", "[I", true)
  | 34 => ("ParticipatoryBudgetModel", "paid", "[I", true)
  | 35 => ("ParticipatoryBudgetModel", "from", "[I", true)
  | 36 => ("ParticipatoryBudgetModel", "spent", "[I", true)
  | 37 => ("ParticipatoryBudgetModel", "limit", "I", false)
  | 38 => ("ParticipatoryBudgetModel", "firstSet", "I", false)
  | 39 => ("ParticipatoryBudgetModel", "raised", "I", false)
  | 40 => ("ParticipatoryBudgetModel", "gain", "[J", true)
  | _ => ("ParticipatoryBudgetModel", "approved", "[I", true)
def tyX9 : Nat → FieldType := fun k => match k with
  | 0 => .array .int
  | 1 => .array .int
  | 2 => .array .int
  | 3 => .int
  | 4 => .int
  | 5 => .int
  | 6 => .int
  | 7 => .int
  | 8 => .array .int
  | 9 => .array .int
  | 10 => .array .int
  | 11 => .int
  | 12 => .int
  | 13 => .int
  | 14 => .array .int
  | 15 => .array .int
  | 16 => .array .int
  | 17 => .array .byte
  | 18 => .int
  | 19 => .int
  | 20 => .int
  | 21 => .int
  | 22 => .int
  | 23 => .long
  | 24 => .int
  | 25 => .int
  | 26 => .int
  | 27 => .int
  | 28 => .int
  | 29 => .array .int
  | 30 => .int
  | 31 => .int
  | 32 => .array .int
  | 33 => .array .int
  | 34 => .array .int
  | 35 => .array .int
  | 36 => .array .int
  | 37 => .int
  | 38 => .int
  | 39 => .int
  | 40 => .array .long
  | _ => .array .int
theorem nmX9 : ∀ a, a < 42 → ∀ b, b < 42 → a ≠ b → (TX9 a).2.1 ≠ (TX9 b).2.1 := by decide +kernel
theorem tyX9_ok : ∀ k, k < 42 → parseFieldDescriptor (TX9 k).2.2.1 = some (tyX9 k) := by decide +kernel
abbrev cX9_init : ByteArray := prog_11_method_1_code
def yX9_init : MethodName := ⟨RX9, "<init>", "()V"⟩
abbrev cX9_thrown : ByteArray := prog_11_method_2_code
def yX9_thrown : MethodName := ⟨RX9, "thrown", "()I"⟩
abbrev cX9_inRange : ByteArray := prog_11_method_3_code
def yX9_inRange : MethodName := ⟨RX9, "inRange", "(III)Z"⟩
abbrev cX9_has : ByteArray := prog_11_method_4_code
def yX9_has : MethodName := ⟨RX9, "has", "(II)Z"⟩
abbrev cX9_fails : ByteArray := prog_11_method_5_code
def yX9_fails : MethodName := ⟨RX9, "fails", "(Z)Z"⟩
abbrev cX9_reset : ByteArray := prog_11_method_6_code
def yX9_reset : MethodName := ⟨RX9, "reset", "([I)V"⟩
abbrev cX9_leastOf : ByteArray := prog_11_method_7_code
def yX9_leastOf : MethodName := ⟨RX9, "leastOf", "(I)I"⟩
abbrev cX9_mostOf : ByteArray := prog_11_method_8_code
def yX9_mostOf : MethodName := ⟨RX9, "mostOf", "(I)I"⟩
abbrev cX9_remember : ByteArray := prog_11_method_9_code
def yX9_remember : MethodName := ⟨RX9, "remember", "()V"⟩
abbrev cX9_undo : ByteArray := prog_11_method_10_code
def yX9_undo : MethodName := ⟨RX9, "undo", "()I"⟩
abbrev cX9_undoCount : ByteArray := prog_11_method_11_code
def yX9_undoCount : MethodName := ⟨RX9, "undoCount", "()I"⟩
abbrev cX9_append : ByteArray := prog_11_method_12_code
def yX9_append : MethodName := ⟨RX9, "append", "(I)V"⟩
abbrev cX9_feed : ByteArray := prog_11_method_13_code
def yX9_feed : MethodName := ⟨RX9, "feed", "(IIIII)I"⟩
abbrev cX9_errorPosition : ByteArray := prog_11_method_14_code
def yX9_errorPosition : MethodName := ⟨RX9, "errorPosition", "()I"⟩
abbrev cX9_peek : ByteArray := prog_11_method_15_code
def yX9_peek : MethodName := ⟨RX9, "peek", "()I"⟩
abbrev cX9_advance : ByteArray := prog_11_method_16_code
def yX9_advance : MethodName := ⟨RX9, "advance", "()V"⟩
abbrev cX9_check : ByteArray := prog_11_method_17_code
def yX9_check : MethodName := ⟨RX9, "check", "(ZI)V"⟩
abbrev cX9_advanceIfGood : ByteArray := prog_11_method_18_code
def yX9_advanceIfGood : MethodName := ⟨RX9, "advanceIfGood", "()V"⟩
abbrev cX9_isWord : ByteArray := prog_11_method_19_code
def yX9_isWord : MethodName := ⟨RX9, "isWord", "(J)Z"⟩
abbrev cX9_readInteger : ByteArray := prog_11_method_20_code
def yX9_readInteger : MethodName := ⟨RX9, "readInteger", "(II)I"⟩
abbrev cX9_isKeyword : ByteArray := prog_11_method_21_code
def yX9_isKeyword : MethodName := ⟨RX9, "isKeyword", "()Z"⟩
abbrev cX9_lettersHere : ByteArray := prog_11_method_22_code
def yX9_lettersHere : MethodName := ⟨RX9, "lettersHere", "()I"⟩
abbrev cX9_indexOf : ByteArray := prog_11_method_23_code
def yX9_indexOf : MethodName := ⟨RX9, "indexOf", "([III)I"⟩
abbrev cX9_readNewName : ByteArray := prog_11_method_24_code
def yX9_readNewName : MethodName := ⟨RX9, "readNewName", "()I"⟩
abbrev cX9_readList : ByteArray := prog_11_method_25_code
def yX9_readList : MethodName := ⟨RX9, "readList", "([II)I"⟩
abbrev cX9_parseDistrict : ByteArray := prog_11_method_26_code
def yX9_parseDistrict : MethodName := ⟨RX9, "parseDistrict", "()V"⟩
abbrev cX9_parseProject : ByteArray := prog_11_method_27_code
def yX9_parseProject : MethodName := ⟨RX9, "parseProject", "()V"⟩
abbrev cX9_parseVoter : ByteArray := prog_11_method_28_code
def yX9_parseVoter : MethodName := ⟨RX9, "parseVoter", "()V"⟩
abbrev cX9_settingHere : ByteArray := prog_11_method_29_code
def yX9_settingHere : MethodName := ⟨RX9, "settingHere", "()I"⟩
abbrev cX9_parseSetting : ByteArray := prog_11_method_30_code
def yX9_parseSetting : MethodName := ⟨RX9, "parseSetting", "()V"⟩
abbrev cX9_parseStatement : ByteArray := prog_11_method_31_code
def yX9_parseStatement : MethodName := ⟨RX9, "parseStatement", "()V"⟩
abbrev cX9_load : ByteArray := prog_11_method_32_code
def yX9_load : MethodName := ⟨RX9, "load", "(I)I"⟩
abbrev cX9_isDistrict : ByteArray := prog_11_method_33_code
def yX9_isDistrict : MethodName := ⟨RX9, "isDistrict", "(I)Z"⟩
abbrev cX9_isProject : ByteArray := prog_11_method_34_code
def yX9_isProject : MethodName := ⟨RX9, "isProject", "(I)Z"⟩
abbrev cX9_isVoter : ByteArray := prog_11_method_35_code
def yX9_isVoter : MethodName := ⟨RX9, "isVoter", "(I)Z"⟩
abbrev cX9_districtCount : ByteArray := prog_11_method_36_code
def yX9_districtCount : MethodName := ⟨RX9, "districtCount", "()I"⟩
abbrev cX9_projectCount : ByteArray := prog_11_method_37_code
def yX9_projectCount : MethodName := ⟨RX9, "projectCount", "()I"⟩
abbrev cX9_voterCount : ByteArray := prog_11_method_38_code
def yX9_voterCount : MethodName := ⟨RX9, "voterCount", "()I"⟩
abbrev cX9_districtNamed : ByteArray := prog_11_method_39_code
def yX9_districtNamed : MethodName := ⟨RX9, "districtNamed", "(I)I"⟩
abbrev cX9_projectNamed : ByteArray := prog_11_method_40_code
def yX9_projectNamed : MethodName := ⟨RX9, "projectNamed", "(I)I"⟩
abbrev cX9_budgetOf : ByteArray := prog_11_method_41_code
def yX9_budgetOf : MethodName := ⟨RX9, "budgetOf", "(I)I"⟩
abbrev cX9_costOf : ByteArray := prog_11_method_42_code
def yX9_costOf : MethodName := ⟨RX9, "costOf", "(I)I"⟩
abbrev cX9_districtsOf : ByteArray := prog_11_method_43_code
def yX9_districtsOf : MethodName := ⟨RX9, "districtsOf", "(I)I"⟩
abbrev cX9_memberships : ByteArray := prog_11_method_44_code
def yX9_memberships : MethodName := ⟨RX9, "memberships", "(I)I"⟩
abbrev cX9_approvals : ByteArray := prog_11_method_45_code
def yX9_approvals : MethodName := ⟨RX9, "approvals", "(I)I"⟩
abbrev cX9_weightOf : ByteArray := prog_11_method_46_code
def yX9_weightOf : MethodName := ⟨RX9, "weightOf", "(I)I"⟩
abbrev cX9_getSetting : ByteArray := prog_11_method_47_code
def yX9_getSetting : MethodName := ⟨RX9, "getSetting", "(I)I"⟩
abbrev cX9_supports : ByteArray := prog_11_method_48_code
def yX9_supports : MethodName := ⟨RX9, "supports", "(II)Z"⟩
abbrev cX9_supporters : ByteArray := prog_11_method_49_code
def yX9_supporters : MethodName := ⟨RX9, "supporters", "(I)I"⟩
abbrev cX9_votesOf : ByteArray := prog_11_method_50_code
def yX9_votesOf : MethodName := ⟨RX9, "votesOf", "(I)I"⟩
abbrev cX9_votesFor : ByteArray := prog_11_method_51_code
def yX9_votesFor : MethodName := ⟨RX9, "votesFor", "(I)I"⟩
abbrev cX9_worthOf : ByteArray := prog_11_method_52_code
def yX9_worthOf : MethodName := ⟨RX9, "worthOf", "(I)I"⟩
abbrev cX9_firstHolding : ByteArray := prog_11_method_53_code
def yX9_firstHolding : MethodName := ⟨RX9, "firstHolding", "(II)I"⟩
abbrev cX9_purse : ByteArray := prog_11_method_54_code
def yX9_purse : MethodName := ⟨RX9, "purse", "(II)I"⟩
abbrev cX9_fillPurses : ByteArray := prog_11_method_55_code
def yX9_fillPurses : MethodName := ⟨RX9, "fillPurses", "(I)V"⟩
abbrev cX9_meansOf : ByteArray := prog_11_method_56_code
def yX9_meansOf : MethodName := ⟨RX9, "meansOf", "(II)I"⟩
abbrev cX9_allMeans : ByteArray := prog_11_method_57_code
def yX9_allMeans : MethodName := ⟨RX9, "allMeans", "(I)I"⟩
abbrev cX9_shareOf : ByteArray := prog_11_method_58_code
def yX9_shareOf : MethodName := ⟨RX9, "shareOf", "(III)I"⟩
abbrev cX9_sharesAt : ByteArray := prog_11_method_59_code
def yX9_sharesAt : MethodName := ⟨RX9, "sharesAt", "(II)I"⟩
abbrev cX9_priceNow : ByteArray := prog_11_method_60_code
def yX9_priceNow : MethodName := ⟨RX9, "priceNow", "(I)I"⟩
abbrev cX9_firstPrice : ByteArray := prog_11_method_61_code
def yX9_firstPrice : MethodName := ⟨RX9, "firstPrice", "(I)I"⟩
abbrev cX9_comesAhead : ByteArray := prog_11_method_62_code
def yX9_comesAhead : MethodName := ⟨RX9, "comesAhead", "(IIII)Z"⟩
abbrev cX9_take : ByteArray := prog_11_method_63_code
def yX9_take : MethodName := ⟨RX9, "take", "(III)V"⟩
abbrev cX9_note : ByteArray := prog_11_method_64_code
def yX9_note : MethodName := ⟨RX9, "note", "(I)V"⟩
abbrev cX9_fund : ByteArray := prog_11_method_65_code
def yX9_fund : MethodName := ⟨RX9, "fund", "(II)V"⟩
abbrev cX9_clearResult : ByteArray := prog_11_method_66_code
def yX9_clearResult : MethodName := ⟨RX9, "clearResult", "()V"⟩
abbrev cX9_rounds : ByteArray := prog_11_method_67_code
def yX9_rounds : MethodName := ⟨RX9, "rounds", "(I)V"⟩
abbrev cX9_isAhead : ByteArray := prog_11_method_68_code
def yX9_isAhead : MethodName := ⟨RX9, "isAhead", "(II)Z"⟩
abbrev cX9_greedily : ByteArray := prog_11_method_69_code
def yX9_greedily : MethodName := ⟨RX9, "greedily", "()V"⟩
abbrev cX9_allFunded : ByteArray := prog_11_method_70_code
def yX9_allFunded : MethodName := ⟨RX9, "allFunded", "()Z"⟩
abbrev cX9_isOverpaid : ByteArray := prog_11_method_71_code
def yX9_isOverpaid : MethodName := ⟨RX9, "isOverpaid", "()Z"⟩
abbrev cX9_equal : ByteArray := prog_11_method_72_code
def yX9_equal : MethodName := ⟨RX9, "equal", "()V"⟩
abbrev cX9_isPayable : ByteArray := prog_11_method_73_code
def yX9_isPayable : MethodName := ⟨RX9, "isPayable", "(I)Z"⟩
abbrev cX9_gainOf : ByteArray := prog_11_method_74_code
def yX9_gainOf : MethodName := ⟨RX9, "gainOf", "(I)J"⟩
abbrev cX9_costsOf : ByteArray := prog_11_method_75_code
def yX9_costsOf : MethodName := ⟨RX9, "costsOf", "(I)I"⟩
abbrev cX9_layGains : ByteArray := prog_11_method_76_code
def yX9_layGains : MethodName := ⟨RX9, "layGains", "()V"⟩
abbrev cX9_best : ByteArray := prog_11_method_77_code
def yX9_best : MethodName := ⟨RX9, "best", "()V"⟩
abbrev cX9_runs : ByteArray := prog_11_method_78_code
def yX9_runs : MethodName := ⟨RX9, "runs", "(I)Z"⟩
abbrev cX9_funded : ByteArray := prog_11_method_79_code
def yX9_funded : MethodName := ⟨RX9, "funded", "(I)I"⟩
abbrev cX9_fundedAt : ByteArray := prog_11_method_80_code
def yX9_fundedAt : MethodName := ⟨RX9, "fundedAt", "(II)I"⟩
abbrev cX9_priceOf : ByteArray := prog_11_method_81_code
def yX9_priceOf : MethodName := ⟨RX9, "priceOf", "(I)I"⟩
abbrev cX9_paidBy : ByteArray := prog_11_method_82_code
def yX9_paidBy : MethodName := ⟨RX9, "paidBy", "(II)I"⟩
abbrev cX9_lays : ByteArray := prog_11_method_83_code
def yX9_lays : MethodName := ⟨RX9, "lays", "(I)Z"⟩
abbrev cX9_paidFrom : ByteArray := prog_11_method_84_code
def yX9_paidFrom : MethodName := ⟨RX9, "paidFrom", "(III)I"⟩
abbrev cX9_leftOf : ByteArray := prog_11_method_85_code
def yX9_leftOf : MethodName := ⟨RX9, "leftOf", "(II)I"⟩
abbrev cX9_purseLeft : ByteArray := prog_11_method_86_code
def yX9_purseLeft : MethodName := ⟨RX9, "purseLeft", "(II)I"⟩
abbrev cX9_meansLeft : ByteArray := prog_11_method_87_code
def yX9_meansLeft : MethodName := ⟨RX9, "meansLeft", "(I)I"⟩
abbrev cX9_raises : ByteArray := prog_11_method_88_code
def yX9_raises : MethodName := ⟨RX9, "raises", "()I"⟩
abbrev cX9_many : ByteArray := prog_11_method_89_code
def yX9_many : MethodName := ⟨RX9, "many", "(I)I"⟩
abbrev cX9_completed : ByteArray := prog_11_method_90_code
def yX9_completed : MethodName := ⟨RX9, "completed", "()I"⟩
abbrev cX9_totalCost : ByteArray := prog_11_method_91_code
def yX9_totalCost : MethodName := ⟨RX9, "totalCost", "(I)I"⟩
abbrev cX9_welfare : ByteArray := prog_11_method_92_code
def yX9_welfare : MethodName := ⟨RX9, "welfare", "(I)J"⟩
abbrev cX9_joyOf : ByteArray := prog_11_method_93_code
def yX9_joyOf : MethodName := ⟨RX9, "joyOf", "(I)I"⟩
abbrev cX9_satisfaction : ByteArray := prog_11_method_94_code
def yX9_satisfaction : MethodName := ⟨RX9, "satisfaction", "(II)I"⟩
abbrev cX9_worstOff : ByteArray := prog_11_method_95_code
def yX9_worstOff : MethodName := ⟨RX9, "worstOff", "(I)I"⟩
abbrev cX9_isLeftOut : ByteArray := prog_11_method_96_code
def yX9_isLeftOut : MethodName := ⟨RX9, "isLeftOut", "(I)Z"⟩
abbrev cX9_leftOut : ByteArray := prog_11_method_97_code
def yX9_leftOut : MethodName := ⟨RX9, "leftOut", "(I)I"⟩
abbrev cX9_claimNow : ByteArray := prog_11_method_98_code
def yX9_claimNow : MethodName := ⟨RX9, "claimNow", "(I)I"⟩
abbrev cX9_claimOf : ByteArray := prog_11_method_99_code
def yX9_claimOf : MethodName := ⟨RX9, "claimOf", "(II)I"⟩
abbrev cX9_unjust : ByteArray := prog_11_method_100_code
def yX9_unjust : MethodName := ⟨RX9, "unjust", "(I)I"⟩
abbrev cX9_changedWithout : ByteArray := prog_11_method_101_code
def yX9_changedWithout : MethodName := ⟨RX9, "changedWithout", "(I)I"⟩
abbrev cX9_isFundedAt : ByteArray := prog_11_method_102_code
def yX9_isFundedAt : MethodName := ⟨RX9, "isFundedAt", "(II)Z"⟩
abbrev cX9_greedyLimit : ByteArray := prog_11_method_103_code
def yX9_greedyLimit : MethodName := ⟨RX9, "greedyLimit", "(I)I"⟩
abbrev cX9_canBePaid : ByteArray := prog_11_method_104_code
def yX9_canBePaid : MethodName := ⟨RX9, "canBePaid", "(I)Z"⟩
abbrev cX9_setOf : ByteArray := prog_11_method_105_code
def yX9_setOf : MethodName := ⟨RX9, "setOf", "(I)I"⟩
abbrev cX9_common : ByteArray := prog_11_method_106_code
def yX9_common : MethodName := ⟨RX9, "common", "(II)I"⟩
abbrev cX9_spread : ByteArray := prog_11_method_107_code
def yX9_spread : MethodName := ⟨RX9, "spread", "(I)I"⟩
abbrev cX9_loss : ByteArray := prog_11_method_108_code
def yX9_loss : MethodName := ⟨RX9, "loss", "(I)J"⟩
abbrev cX9_bestWithout : ByteArray := prog_11_method_109_code
def yX9_bestWithout : MethodName := ⟨RX9, "bestWithout", "(I)J"⟩
abbrev cX9_endowment : ByteArray := prog_11_method_110_code
def yX9_endowment : MethodName := ⟨RX9, "endowment", "(I)I"⟩
abbrev cX9_spentBy : ByteArray := prog_11_method_111_code
def yX9_spentBy : MethodName := ⟨RX9, "spentBy", "(I)I"⟩
abbrev cX9_payers : ByteArray := prog_11_method_112_code
def yX9_payers : MethodName := ⟨RX9, "payers", "(I)I"⟩
abbrev cX9_roundOf : ByteArray := prog_11_method_113_code
def yX9_roundOf : MethodName := ⟨RX9, "roundOf", "(I)I"⟩
abbrev cX9_commonSupport : ByteArray := prog_11_method_114_code
def yX9_commonSupport : MethodName := ⟨RX9, "commonSupport", "(II)I"⟩
abbrev cX9_priceIn : ByteArray := prog_11_method_115_code
def yX9_priceIn : MethodName := ⟨RX9, "priceIn", "(II)I"⟩
abbrev cX9_fundedWith : ByteArray := prog_11_method_116_code
def yX9_fundedWith : MethodName := ⟨RX9, "fundedWith", "(II)I"⟩
abbrev cX9_fundedWithBudget : ByteArray := prog_11_method_117_code
def yX9_fundedWithBudget : MethodName := ⟨RX9, "fundedWithBudget", "(II)I"⟩
abbrev cX9_fundedWithCost : ByteArray := prog_11_method_118_code
def yX9_fundedWithCost : MethodName := ⟨RX9, "fundedWithCost", "(II)I"⟩
abbrev cX9_fundedWithout : ByteArray := prog_11_method_119_code
def yX9_fundedWithout : MethodName := ⟨RX9, "fundedWithout", "(I)I"⟩
abbrev cX9_cheapestSet : ByteArray := prog_11_method_120_code
def yX9_cheapestSet : MethodName := ⟨RX9, "cheapestSet", "(I)I"⟩
abbrev cX9_districtWelfare : ByteArray := prog_11_method_121_code
def yX9_districtWelfare : MethodName := ⟨RX9, "districtWelfare", "(II)I"⟩
abbrev cX9_rankOf : ByteArray := prog_11_method_122_code
def yX9_rankOf : MethodName := ⟨RX9, "rankOf", "(II)I"⟩
abbrev cX9_heldBy : ByteArray := prog_11_method_123_code
def yX9_heldBy : MethodName := ⟨RX9, "heldBy", "(I)I"⟩
abbrev cX9_richest : ByteArray := prog_11_method_124_code
def yX9_richest : MethodName := ⟨RX9, "richest", "()I"⟩
abbrev cX9_change : ByteArray := prog_11_method_125_code
def yX9_change : MethodName := ⟨RX9, "change", "(II)I"⟩
abbrev cX9_with : ByteArray := prog_11_method_126_code
def yX9_with : MethodName := ⟨RX9, "with", "(IIZ)I"⟩
abbrev cX9_setBudget : ByteArray := prog_11_method_127_code
def yX9_setBudget : MethodName := ⟨RX9, "setBudget", "(II)I"⟩
abbrev cX9_setCost : ByteArray := prog_11_method_128_code
def yX9_setCost : MethodName := ⟨RX9, "setCost", "(II)I"⟩
abbrev cX9_setWeight : ByteArray := prog_11_method_129_code
def yX9_setWeight : MethodName := ⟨RX9, "setWeight", "(II)I"⟩
abbrev cX9_setMember : ByteArray := prog_11_method_130_code
def yX9_setMember : MethodName := ⟨RX9, "setMember", "(IIZ)I"⟩
abbrev cX9_setApproval : ByteArray := prog_11_method_131_code
def yX9_setApproval : MethodName := ⟨RX9, "setApproval", "(IIZ)I"⟩
abbrev cX9_setSetting : ByteArray := prog_11_method_132_code
def yX9_setSetting : MethodName := ⟨RX9, "setSetting", "(II)I"⟩
def RJx145de : String := "java/io/Serializable"
def TJx145de : u_T := fun k => match k with
  | _ => ("", "", "", false)
def tyJx145de : Nat → FieldType := fun k => match k with
  | _ => .int
theorem nmJx145de : ∀ a, a < 0 → ∀ b, b < 0 → a ≠ b → (TJx145de a).2.1 ≠ (TJx145de b).2.1 := by decide +kernel
theorem tyJx145de_ok : ∀ k, k < 0 → parseFieldDescriptor (TJx145de k).2.2.1 = some (tyJx145de k) := by decide +kernel
def RJx9f9b0 : String := "java/lang/CharSequence"
def TJx9f9b0 : u_T := fun k => match k with
  | _ => ("", "", "", false)
def tyJx9f9b0 : Nat → FieldType := fun k => match k with
  | _ => .int
theorem nmJx9f9b0 : ∀ a, a < 0 → ∀ b, b < 0 → a ≠ b → (TJx9f9b0 a).2.1 ≠ (TJx9f9b0 b).2.1 := by decide +kernel
theorem tyJx9f9b0_ok : ∀ k, k < 0 → parseFieldDescriptor (TJx9f9b0 k).2.2.1 = some (tyJx9f9b0 k) := by decide +kernel
def RJxb160c : String := "java/lang/Comparable"
def TJxb160c : u_T := fun k => match k with
  | _ => ("", "", "", false)
def tyJxb160c : Nat → FieldType := fun k => match k with
  | _ => .int
theorem nmJxb160c : ∀ a, a < 0 → ∀ b, b < 0 → a ≠ b → (TJxb160c a).2.1 ≠ (TJxb160c b).2.1 := by decide +kernel
theorem tyJxb160c_ok : ∀ k, k < 0 → parseFieldDescriptor (TJxb160c k).2.2.1 = some (tyJxb160c k) := by decide +kernel
def RJ6 : String := "java/lang/Integer"
def TJ6 : u_T := fun k => match k with
  | _ => ("", "", "", false)
def tyJ6 : Nat → FieldType := fun k => match k with
  | _ => .int
theorem nmJ6 : ∀ a, a < 0 → ∀ b, b < 0 → a ≠ b → (TJ6 a).2.1 ≠ (TJ6 b).2.1 := by decide +kernel
theorem tyJ6_ok : ∀ k, k < 0 → parseFieldDescriptor (TJ6 k).2.2.1 = some (tyJ6 k) := by decide +kernel
abbrev cJ6_bitCount_0f7a4 : ByteArray := prog_14_method_49_code
def yJ6_bitCount_0f7a4 : MethodName := ⟨RJ6, "bitCount", "(I)I"⟩
def RJ9 : String := "java/lang/Math"
def TJ9 : u_T := fun k => match k with
  | _ => ("", "", "", false)
def tyJ9 : Nat → FieldType := fun k => match k with
  | _ => .int
theorem nmJ9 : ∀ a, a < 0 → ∀ b, b < 0 → a ≠ b → (TJ9 a).2.1 ≠ (TJ9 b).2.1 := by decide +kernel
theorem tyJ9_ok : ∀ k, k < 0 → parseFieldDescriptor (TJ9 k).2.2.1 = some (tyJ9 k) := by decide +kernel
abbrev cJ9_max_7cf53 : ByteArray := prog_15_method_65_code
def yJ9_max_7cf53 : MethodName := ⟨RJ9, "max", "(II)I"⟩
abbrev cJ9_min_7cf53 : ByteArray := prog_15_method_69_code
def yJ9_min_7cf53 : MethodName := ⟨RJ9, "min", "(II)I"⟩
def RJ0 : String := "java/lang/String"
def TJ0 : u_T := fun k => match k with
  | _ => ("", "", "", false)
def tyJ0 : Nat → FieldType := fun k => match k with
  | _ => .int
theorem nmJ0 : ∀ a, a < 0 → ∀ b, b < 0 → a ≠ b → (TJ0 a).2.1 ≠ (TJ0 b).2.1 := by decide +kernel
theorem tyJ0_ok : ∀ k, k < 0 → parseFieldDescriptor (TJ0 k).2.2.1 = some (tyJ0 k) := by decide +kernel
abbrev cJ0_length_8abf5 : ByteArray := prog_17_method_54_code
def yJ0_length_8abf5 : MethodName := ⟨RJ0, "length", "()I"⟩
abbrev cJ0_charAt_5068e : ByteArray := prog_17_method_56_code
def yJ0_charAt_5068e : MethodName := ⟨RJ0, "charAt", "(I)C"⟩
abbrev cJ0_coder_7d493 : ByteArray := prog_17_method_152_code
def yJ0_coder_7d493 : MethodName := ⟨RJ0, "coder", "()B"⟩
abbrev cJ0_isLatin1_aae02 : ByteArray := prog_17_method_154_code
def yJ0_isLatin1_aae02 : MethodName := ⟨RJ0, "isLatin1", "()Z"⟩
abbrev cJ0_checkIndex_df160 : ByteArray := prog_17_method_155_code
def yJ0_checkIndex_df160 : MethodName := ⟨RJ0, "checkIndex", "(II)V"⟩
def RJ1 : String := "java/lang/StringLatin1"
def TJ1 : u_T := fun k => match k with
  | _ => ("", "", "", false)
def tyJ1 : Nat → FieldType := fun k => match k with
  | _ => .int
theorem nmJ1 : ∀ a, a < 0 → ∀ b, b < 0 → a ≠ b → (TJ1 a).2.1 ≠ (TJ1 b).2.1 := by decide +kernel
theorem tyJ1_ok : ∀ k, k < 0 → parseFieldDescriptor (TJ1 k).2.2.1 = some (tyJ1 k) := by decide +kernel
abbrev cJ1_charAt_3b067 : ByteArray := prog_18_method_2_code
def yJ1_charAt_3b067 : MethodName := ⟨RJ1, "charAt", "([BI)C"⟩
def RJ2 : String := "java/lang/StringUTF16"
def TJ2 : u_T := fun k => match k with
  | _ => ("", "", "", false)
def tyJ2 : Nat → FieldType := fun k => match k with
  | _ => .int
theorem nmJ2 : ∀ a, a < 0 → ∀ b, b < 0 → a ≠ b → (TJ2 a).2.1 ≠ (TJ2 b).2.1 := by decide +kernel
theorem tyJ2_ok : ∀ k, k < 0 → parseFieldDescriptor (TJ2 k).2.2.1 = some (tyJ2 k) := by decide +kernel
abbrev cJ2_getChar_3b067 : ByteArray := prog_19_method_5_code
def yJ2_getChar_3b067 : MethodName := ⟨RJ2, "getChar", "([BI)C"⟩
abbrev cJ2_length_9d52b : ByteArray := prog_19_method_6_code
def yJ2_length_9d52b : MethodName := ⟨RJ2, "length", "([B)I"⟩
abbrev cJ2_charAt_3b067 : ByteArray := prog_19_method_83_code
def yJ2_charAt_3b067 : MethodName := ⟨RJ2, "charAt", "([BI)C"⟩
abbrev cJ2_checkIndex_2214a : ByteArray := prog_19_method_91_code
def yJ2_checkIndex_2214a : MethodName := ⟨RJ2, "checkIndex", "(I[B)V"⟩
def RJ10 : String := "java/lang/System"
def TJ10 : u_T := fun k => match k with
  | _ => ("", "", "", false)
def tyJ10 : Nat → FieldType := fun k => match k with
  | _ => .int
theorem nmJ10 : ∀ a, a < 0 → ∀ b, b < 0 → a ≠ b → (TJ10 a).2.1 ≠ (TJ10 b).2.1 := by decide +kernel
theorem tyJ10_ok : ∀ k, k < 0 → parseFieldDescriptor (TJ10 k).2.2.1 = some (tyJ10 k) := by decide +kernel
def RJxfd54e : String := "java/lang/constant/Constable"
def TJxfd54e : u_T := fun k => match k with
  | _ => ("", "", "", false)
def tyJxfd54e : Nat → FieldType := fun k => match k with
  | _ => .int
theorem nmJxfd54e : ∀ a, a < 0 → ∀ b, b < 0 → a ≠ b → (TJxfd54e a).2.1 ≠ (TJxfd54e b).2.1 := by decide +kernel
theorem tyJxfd54e_ok : ∀ k, k < 0 → parseFieldDescriptor (TJxfd54e k).2.2.1 = some (tyJxfd54e k) := by decide +kernel
def RJx3cf43 : String := "java/lang/constant/ConstantDesc"
def TJx3cf43 : u_T := fun k => match k with
  | _ => ("", "", "", false)
def tyJx3cf43 : Nat → FieldType := fun k => match k with
  | _ => .int
theorem nmJx3cf43 : ∀ a, a < 0 → ∀ b, b < 0 → a ≠ b → (TJx3cf43 a).2.1 ≠ (TJx3cf43 b).2.1 := by decide +kernel
theorem tyJx3cf43_ok : ∀ k, k < 0 → parseFieldDescriptor (TJx3cf43 k).2.2.1 = some (tyJx3cf43 k) := by decide +kernel
def RJ7 : String := "java/util/Arrays"
def TJ7 : u_T := fun k => match k with
  | _ => ("", "", "", false)
def tyJ7 : Nat → FieldType := fun k => match k with
  | _ => .int
theorem nmJ7 : ∀ a, a < 0 → ∀ b, b < 0 → a ≠ b → (TJ7 a).2.1 ≠ (TJ7 b).2.1 := by decide +kernel
theorem tyJ7_ok : ∀ k, k < 0 → parseFieldDescriptor (TJ7 k).2.2.1 = some (tyJ7 k) := by decide +kernel
abbrev cJ7_fill_53178 : ByteArray := prog_22_method_103_code
def yJ7_fill_53178 : MethodName := ⟨RJ7, "fill", "([II)V"⟩
def RJ3 : String := "jdk/internal/util/Preconditions"
def TJ3 : u_T := fun k => match k with
  | _ => ("", "", "", false)
def tyJ3 : Nat → FieldType := fun k => match k with
  | _ => .int
theorem nmJ3 : ∀ a, a < 0 → ∀ b, b < 0 → a ≠ b → (TJ3 a).2.1 ≠ (TJ3 b).2.1 := by decide +kernel
theorem tyJ3_ok : ∀ k, k < 0 → parseFieldDescriptor (TJ3 k).2.2.1 = some (tyJ3 k) := by decide +kernel
abbrev cJ3_checkIndex_8e157 : ByteArray := prog_23_method_11_code
def yJ3_checkIndex_8e157 : MethodName := ⟨RJ3, "checkIndex", "(IILjava/util/function/BiFunction;)I"⟩
def RL : String := "ParticipatoryBudgetLaw"
abbrev cL_budgetOf : ByteArray := method_3_code
def yL_budgetOf : MethodName := ⟨RL, "budgetOf", "(LParticipatoryBudget;I[J)I"⟩
abbrev cL_costOf : ByteArray := method_4_code
def yL_costOf : MethodName := ⟨RL, "costOf", "(LParticipatoryBudget;I[J)I"⟩
abbrev cL_districtsOf : ByteArray := method_5_code
def yL_districtsOf : MethodName := ⟨RL, "districtsOf", "(LParticipatoryBudget;I[J)I"⟩
abbrev cL_memberships : ByteArray := method_6_code
def yL_memberships : MethodName := ⟨RL, "memberships", "(LParticipatoryBudget;I[J)I"⟩
abbrev cL_approvals : ByteArray := method_7_code
def yL_approvals : MethodName := ⟨RL, "approvals", "(LParticipatoryBudget;I[J)I"⟩
abbrev cL_weightOf : ByteArray := method_8_code
def yL_weightOf : MethodName := ⟨RL, "weightOf", "(LParticipatoryBudget;I[J)I"⟩
abbrev cL_supporters : ByteArray := method_9_code
def yL_supporters : MethodName := ⟨RL, "supporters", "(LParticipatoryBudget;I[J)I"⟩
abbrev cL_votesFor : ByteArray := method_10_code
def yL_votesFor : MethodName := ⟨RL, "votesFor", "(LParticipatoryBudget;I[J)I"⟩
abbrev cL_purse : ByteArray := method_11_code
def yL_purse : MethodName := ⟨RL, "purse", "(LParticipatoryBudget;II[J)I"⟩
abbrev cL_firstPrice : ByteArray := method_12_code
def yL_firstPrice : MethodName := ⟨RL, "firstPrice", "(LParticipatoryBudget;I[J)I"⟩
abbrev cL_priceOf : ByteArray := method_13_code
def yL_priceOf : MethodName := ⟨RL, "priceOf", "(LParticipatoryBudget;I[J)I"⟩
abbrev cL_paidBy : ByteArray := method_14_code
def yL_paidBy : MethodName := ⟨RL, "paidBy", "(LParticipatoryBudget;II[J)I"⟩
abbrev cL_paidFrom : ByteArray := method_15_code
def yL_paidFrom : MethodName := ⟨RL, "paidFrom", "(LParticipatoryBudget;III[J)I"⟩
abbrev cL_leftOf : ByteArray := method_16_code
def yL_leftOf : MethodName := ⟨RL, "leftOf", "(LParticipatoryBudget;II[J)I"⟩
abbrev cL_purseLeft : ByteArray := method_17_code
def yL_purseLeft : MethodName := ⟨RL, "purseLeft", "(LParticipatoryBudget;II[J)I"⟩
abbrev cL_meansLeft : ByteArray := method_18_code
def yL_meansLeft : MethodName := ⟨RL, "meansLeft", "(LParticipatoryBudget;I[J)I"⟩
abbrev cL_satisfaction : ByteArray := method_19_code
def yL_satisfaction : MethodName := ⟨RL, "satisfaction", "(LParticipatoryBudget;II[J)I"⟩
abbrev cL_claimOf : ByteArray := method_20_code
def yL_claimOf : MethodName := ⟨RL, "claimOf", "(LParticipatoryBudget;II[J)I"⟩
abbrev cL_changedWithout : ByteArray := method_21_code
def yL_changedWithout : MethodName := ⟨RL, "changedWithout", "(LParticipatoryBudget;I[J)I"⟩
abbrev cL_greedyLimit : ByteArray := method_22_code
def yL_greedyLimit : MethodName := ⟨RL, "greedyLimit", "(LParticipatoryBudget;I[J)I"⟩
abbrev cL_bestWithout : ByteArray := method_23_code
def yL_bestWithout : MethodName := ⟨RL, "bestWithout", "(LParticipatoryBudget;I[J)I"⟩
abbrev cL_endowment : ByteArray := method_24_code
def yL_endowment : MethodName := ⟨RL, "endowment", "(LParticipatoryBudget;I[J)I"⟩
abbrev cL_spentBy : ByteArray := method_25_code
def yL_spentBy : MethodName := ⟨RL, "spentBy", "(LParticipatoryBudget;I[J)I"⟩
abbrev cL_payers : ByteArray := method_26_code
def yL_payers : MethodName := ⟨RL, "payers", "(LParticipatoryBudget;I[J)I"⟩
abbrev cL_roundOf : ByteArray := method_27_code
def yL_roundOf : MethodName := ⟨RL, "roundOf", "(LParticipatoryBudget;I[J)I"⟩
abbrev cL_commonSupport : ByteArray := method_28_code
def yL_commonSupport : MethodName := ⟨RL, "commonSupport", "(LParticipatoryBudget;II[J)I"⟩
abbrev cL_priceIn : ByteArray := method_29_code
def yL_priceIn : MethodName := ⟨RL, "priceIn", "(LParticipatoryBudget;II[J)I"⟩
abbrev cL_fundedWithBudget : ByteArray := method_30_code
def yL_fundedWithBudget : MethodName := ⟨RL, "fundedWithBudget", "(LParticipatoryBudget;II[J)I"⟩
abbrev cL_fundedWithCost : ByteArray := method_31_code
def yL_fundedWithCost : MethodName := ⟨RL, "fundedWithCost", "(LParticipatoryBudget;II[J)I"⟩
abbrev cL_fundedWithout : ByteArray := method_32_code
def yL_fundedWithout : MethodName := ⟨RL, "fundedWithout", "(LParticipatoryBudget;I[J)I"⟩
abbrev cL_districtWelfare : ByteArray := method_33_code
def yL_districtWelfare : MethodName := ⟨RL, "districtWelfare", "(LParticipatoryBudget;II[J)I"⟩
abbrev cL_rankOf : ByteArray := method_34_code
def yL_rankOf : MethodName := ⟨RL, "rankOf", "(LParticipatoryBudget;II[J)I"⟩
abbrev cL_law : ByteArray := code
def yL_law : MethodName := ⟨RL, "law", "([I)Z"⟩
abbrev vwCl : List vw_C := [(RX0, TX0, 14), (RX1, TX1, 6), (RX2, TX2, 5), (RX3, TX3, 4), (RX4, TX4, 6), (RX5, TX5, 1), (RX6, TX6, 9), (RX7, TX7, 6), (RX8, TX8, 15), (RX9, TX9, 42)]
