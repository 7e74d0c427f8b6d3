theorem dL_law_1456 : decode cL_law 1456 = .ok (.aload_n 1, 1) := by decide +kernel
theorem dL_law_1457 : decode cL_law 1457 = .ok (.aload_n 0, 1) := by decide +kernel
theorem dL_law_1458 : decode cL_law 1458 = .ok (.iload 4, 2) := by decide +kernel
theorem dL_law_1460 : decode cL_law 1460 = .ok (.iconst 1, 1) := by decide +kernel
theorem dL_law_1461 : decode cL_law 1461 = .ok (.iadd, 1) := by decide +kernel
theorem dL_law_1462 : decode cL_law 1462 = .ok (.iaload, 1) := by decide +kernel
theorem dL_law_1463 : decode cL_law 1463 = .ok (.aload_n 0, 1) := by decide +kernel
theorem dL_law_1464 : decode cL_law 1464 = .ok (.iload 4, 2) := by decide +kernel
theorem dL_law_1466 : decode cL_law 1466 = .ok (.iconst 2, 1) := by decide +kernel
theorem dL_law_1467 : decode cL_law 1467 = .ok (.iadd, 1) := by decide +kernel
theorem dL_law_1468 : decode cL_law 1468 = .ok (.iaload, 1) := by decide +kernel
theorem dL_law_1469 : decode cL_law 1469 = .ok (.aload_n 3, 1) := by decide +kernel
theorem dL_law_1470 : decode cL_law 1470 = .ok (.invokestatic 215, 3) := by decide +kernel
theorem dL_law_1473 : decode cL_law 1473 = .ok (.istore 5, 2) := by decide +kernel
theorem dL_law_1475 : decode cL_law 1475 = .ok (.aload_n 2, 1) := by decide +kernel
theorem dL_law_1476 : decode cL_law 1476 = .ok (.aload_n 0, 1) := by decide +kernel
theorem dL_law_1477 : decode cL_law 1477 = .ok (.iload 4, 2) := by decide +kernel
theorem dL_law_1479 : decode cL_law 1479 = .ok (.iconst 1, 1) := by decide +kernel
theorem dL_law_1480 : decode cL_law 1480 = .ok (.iadd, 1) := by decide +kernel
theorem dL_law_1481 : decode cL_law 1481 = .ok (.iaload, 1) := by decide +kernel
theorem dL_law_1482 : decode cL_law 1482 = .ok (.aload_n 0, 1) := by decide +kernel
theorem dL_law_1483 : decode cL_law 1483 = .ok (.iload 4, 2) := by decide +kernel
theorem dL_law_1485 : decode cL_law 1485 = .ok (.iconst 2, 1) := by decide +kernel
theorem dL_law_1486 : decode cL_law 1486 = .ok (.iadd, 1) := by decide +kernel
theorem dL_law_1487 : decode cL_law 1487 = .ok (.iaload, 1) := by decide +kernel
theorem dL_law_1488 : decode cL_law 1488 = .ok (.invokevirtual 217, 3) := by decide +kernel
theorem dL_law_1491 : decode cL_law 1491 = .ok (.istore 6, 2) := by decide +kernel
theorem dL_law_1493 : decode cL_law 1493 = .ok (.aload_n 2, 1) := by decide +kernel
theorem dL_law_1494 : decode cL_law 1494 = .ok (.invokevirtual 159, 3) := by decide +kernel
theorem dL_law_1497 : decode cL_law 1497 = .ok (.iload 5, 2) := by decide +kernel
theorem dL_law_1499 : decode cL_law 1499 = .ok (.if_icmp .eq 5, 3) := by decide +kernel
theorem dL_law_1504 : decode cL_law 1504 = .ok (.iload 5, 2) := by decide +kernel
theorem dL_law_1506 : decode cL_law 1506 = .ok (.ifCond .ne 15, 3) := by decide +kernel
theorem dL_law_1509 : decode cL_law 1509 = .ok (.aload_n 3, 1) := by decide +kernel
theorem dL_law_1510 : decode cL_law 1510 = .ok (.iconst 0, 1) := by decide +kernel
theorem dL_law_1511 : decode cL_law 1511 = .ok (.laload, 1) := by decide +kernel
theorem dL_law_1512 : decode cL_law 1512 = .ok (.iload 6, 2) := by decide +kernel
theorem dL_law_1514 : decode cL_law 1514 = .ok (.i2l, 1) := by decide +kernel
theorem dL_law_1515 : decode cL_law 1515 = .ok (.lcmp, 1) := by decide +kernel
theorem dL_law_1516 : decode cL_law 1516 = .ok (.ifCond .eq 5, 3) := by decide +kernel
theorem dL_law_1521 : decode cL_law 1521 = .ok (.goto 1644, 3) := by decide +kernel
theorem dL_law_1524 : decode cL_law 1524 = .ok (.aload_n 1, 1) := by decide +kernel
theorem dL_law_1525 : decode cL_law 1525 = .ok (.aload_n 0, 1) := by decide +kernel
theorem dL_law_1526 : decode cL_law 1526 = .ok (.iload 4, 2) := by decide +kernel
theorem dL_law_1528 : decode cL_law 1528 = .ok (.iconst 1, 1) := by decide +kernel
theorem dL_law_1529 : decode cL_law 1529 = .ok (.iadd, 1) := by decide +kernel
theorem dL_law_1530 : decode cL_law 1530 = .ok (.iaload, 1) := by decide +kernel
theorem dL_law_1531 : decode cL_law 1531 = .ok (.aload_n 3, 1) := by decide +kernel
theorem dL_law_1532 : decode cL_law 1532 = .ok (.invokestatic 218, 3) := by decide +kernel
theorem dL_law_1535 : decode cL_law 1535 = .ok (.istore 5, 2) := by decide +kernel
theorem dL_law_1537 : decode cL_law 1537 = .ok (.aload_n 2, 1) := by decide +kernel
theorem dL_law_1538 : decode cL_law 1538 = .ok (.aload_n 0, 1) := by decide +kernel
theorem dL_law_1539 : decode cL_law 1539 = .ok (.iload 4, 2) := by decide +kernel
theorem dL_law_1541 : decode cL_law 1541 = .ok (.iconst 1, 1) := by decide +kernel
theorem dL_law_1542 : decode cL_law 1542 = .ok (.iadd, 1) := by decide +kernel
theorem dL_law_1543 : decode cL_law 1543 = .ok (.iaload, 1) := by decide +kernel
theorem dL_law_1544 : decode cL_law 1544 = .ok (.invokevirtual 220, 3) := by decide +kernel
theorem dL_law_1547 : decode cL_law 1547 = .ok (.istore 6, 2) := by decide +kernel
theorem dL_law_1549 : decode cL_law 1549 = .ok (.aload_n 2, 1) := by decide +kernel
theorem dL_law_1550 : decode cL_law 1550 = .ok (.invokevirtual 159, 3) := by decide +kernel
theorem dL_law_1553 : decode cL_law 1553 = .ok (.iload 5, 2) := by decide +kernel
theorem dL_law_1555 : decode cL_law 1555 = .ok (.if_icmp .eq 5, 3) := by decide +kernel
theorem dL_law_1560 : decode cL_law 1560 = .ok (.iload 5, 2) := by decide +kernel
theorem dL_law_1562 : decode cL_law 1562 = .ok (.ifCond .ne 15, 3) := by decide +kernel
theorem dL_law_1565 : decode cL_law 1565 = .ok (.aload_n 3, 1) := by decide +kernel
theorem dL_law_1566 : decode cL_law 1566 = .ok (.iconst 0, 1) := by decide +kernel
theorem dL_law_1567 : decode cL_law 1567 = .ok (.laload, 1) := by decide +kernel
theorem dL_law_1568 : decode cL_law 1568 = .ok (.iload 6, 2) := by decide +kernel
theorem dL_law_1570 : decode cL_law 1570 = .ok (.i2l, 1) := by decide +kernel
theorem dL_law_1571 : decode cL_law 1571 = .ok (.lcmp, 1) := by decide +kernel
theorem dL_law_1572 : decode cL_law 1572 = .ok (.ifCond .eq 5, 3) := by decide +kernel
theorem dL_law_1577 : decode cL_law 1577 = .ok (.goto 1588, 3) := by decide +kernel
set_option maxRecDepth 20000 in
set_option maxHeartbeats 4000000 in
theorem zl_26 {X : Cxt} (hX : okX X cL_law RL room_1 (some .boolean) 8) {Qo : Int32 → State → Prop} (hq0 : ∀ st, Qo 0 st) {C S : Nat} (h1 : C + 3 ≤ room_1.cells) (h2 : S + 18 ≤ room_1.slots) (b x m ou : Nat) (i : Int32) (kj : Mem → Option Int32) (hk : ∀ M, Zj X Qo (C + 3) (S + 18) 3165 [(0, .ref b), (1, .ref x), (2, .ref m), (3, .ref ou), (4, .int i)] [] M (kj M)) (M : Mem) : Zj X Qo C S 1456 [(0, .ref b), (1, .ref x), (2, .ref m), (3, .ref ou), (4, .int i)] [] M (cs_26 b x m ou i kj M) := by
  have hc0 : C + 0 ≤ room_1.cells := Nat.le_trans (by omega) h1
  have hs0 : S + 0 ≤ room_1.slots := Nat.le_trans (by omega) h2
  have hc1 : C + 1 ≤ room_1.cells := Nat.le_trans (by omega) h1
  have hs1 : S + 6 ≤ room_1.slots := Nat.le_trans (by omega) h2
  have hc2 : C + 2 ≤ room_1.cells := Nat.le_trans (by omega) h1
  have hs2 : S + 12 ≤ room_1.slots := Nat.le_trans (by omega) h2
  have hc3 : C + 3 ≤ room_1.cells := Nat.le_trans (by omega) h1
  have hs3 : S + 18 ≤ room_1.slots := Nat.le_trans (by omega) h2
  unfold cs_26
  refine z_aload_n hX 1 rfl rfl dL_law_1456 ?_
  refine z_aload_n hX 0 rfl rfl dL_law_1457 ?_
  refine z_iload hX 4 rfl dL_law_1458 ?_
  refine z_iconst (v := 1) hX (by decide) dL_law_1460 ?_
  refine z_iadd hX dL_law_1461 ?_
  refine z_aI hX dL_law_1462 (fun x1 => ?_)
  refine z_aload_n hX 0 rfl rfl dL_law_1463 ?_
  refine z_iload hX 4 rfl dL_law_1464 ?_
  refine z_iconst (v := 2) hX (by decide) dL_law_1466 ?_
  refine z_iadd hX dL_law_1467 ?_
  refine z_aI hX dL_law_1468 (fun x2 => ?_)
  refine z_aload_n hX 3 rfl rfl dL_law_1469 ?_
  refine z_cSw (C' := C + 2) (S' := S + 12) [.ref x, .int x1, .int x2, .ref ou] hX (fun l hl o ho => cw_L_purseLeft l hl M x x1 x2 ou o ho) dL_law_1470 q_1162 okW_L_purseLeft rfl ⟨(Nat.le_of_ble_eq_true rfl), (Nat.le_of_ble_eq_true rfl)⟩ rfl (Nat.le_of_ble_eq_true rfl) rfl rfl ⟨hc2, hs2⟩ (fun o3 => ?_)
  refine z_istore hX [(5, .int o3.1), (0, .ref b), (1, .ref x), (2, .ref m), (3, .ref ou), (4, .int i)] (by decide) rfl dL_law_1473 ?_
  refine z_aload_n hX 3 rfl rfl dL_law_1475 ?_
  refine z_aload_n hX 1 rfl rfl dL_law_1476 ?_
  refine z_iload hX 5 rfl dL_law_1477 ?_
  refine z_iconst (v := 1) hX (by decide) dL_law_1479 ?_
  refine z_iadd hX dL_law_1480 ?_
  refine z_aI hX dL_law_1481 (fun x4 => ?_)
  refine z_aload_n hX 1 rfl rfl dL_law_1482 ?_
  refine z_iload hX 5 rfl dL_law_1483 ?_
  refine z_iconst (v := 2) hX (by decide) dL_law_1485 ?_
  refine z_iadd hX dL_law_1486 ?_
  refine z_aI hX dL_law_1487 (fun x5 => ?_)
  refine z_cVIm (C' := (C + 2)) (S' := (S + 12)) 9 [.int x4, .int x5] hX (fun l hl o ho => c_X9_purseLeft l hl o3.2 m x4 x5 o ho) dL_law_1488 (by decide) rfl rfl q_1775 okV_X9_purseLeft rfl ⟨(Nat.le_of_ble_eq_true rfl), (Nat.le_of_ble_eq_true rfl)⟩ rfl (Nat.le_of_ble_eq_true rfl) (Nat.add_zero _) (Nat.add_zero _) ⟨hc2, hs2⟩ (fun o6 => ?_)
  refine z_istore hX [(6, .int o6.1), (5, .int o3.1), (0, .ref b), (1, .ref x), (2, .ref m), (3, .ref ou), (4, .int i)] (by decide) rfl dL_law_1491 ?_
  refine z_aload_n hX 4 rfl rfl dL_law_1493 ?_
  refine z_cVIp (C' := (C + 2)) (S' := (S + 12)) 9 [] hX (fun l hl o ho => c_X9_thrown l hl o6.2 m o ho) dL_law_1494 (by decide) rfl rfl q_1439 okV_X9_thrown rfl ⟨(Nat.le_of_ble_eq_true rfl), (Nat.le_of_ble_eq_true rfl)⟩ rfl (Nat.le_of_ble_eq_true rfl) (Nat.add_zero _) (Nat.add_zero _) ⟨hc2, hs2⟩ (fun o7 => ?_)
  refine z_iload hX 1 rfl dL_law_1497 ?_
  refine z_icmp_eq hX 1504 (by decide) dL_law_1499 (fun _ => ?_) (fun _ => ?_)
  · refine z_iload hX 1 rfl dL_law_1504 ?_
    refine z_if_ne hX 1521 (by decide) dL_law_1506 (fun _ => ?_) (fun _ => ?_)
    · refine z_goto hX 3165 (by decide) dL_law_1521 ?_
      refine z_sub [2, 3, 4, 5, 6] rfl ?_
      exact z_widen (by omega) (by omega) (hk o6.2)
    · refine z_aload_n hX 5 rfl rfl dL_law_1509 ?_
      refine z_iconst (v := 0) hX (by decide) dL_law_1510 ?_
      refine z_aL hX dL_law_1511 (fun x8 => ?_)
      refine z_iload hX 0 rfl dL_law_1512 ?_
      refine z_i2l hX rfl dL_law_1514 ?_
      refine z_lcmp hX dL_law_1515 ?_
      refine z_if_eq hX 1521 (by decide) dL_law_1516 (fun _ => ?_) (fun _ => ?_)
      · refine z_goto hX 3165 (by decide) dL_law_1521 ?_
        refine z_sub [2, 3, 4, 5, 6] rfl ?_
        exact z_widen (by omega) (by omega) (hk o6.2)
      · exact z_any hq0
  · exact z_any hq0
set_option maxRecDepth 20000 in
set_option maxHeartbeats 4000000 in
theorem zl_27 {X : Cxt} (hX : okX X cL_law RL room_1 (some .boolean) 8) {Qo : Int32 → State → Prop} (hq0 : ∀ st, Qo 0 st) {C S : Nat} (h1 : C + 3 ≤ room_1.cells) (h2 : S + 18 ≤ room_1.slots) (b x m ou : Nat) (i : Int32) (kj : Mem → Option Int32) (hk : ∀ M, Zj X Qo (C + 3) (S + 18) 3165 [(0, .ref b), (1, .ref x), (2, .ref m), (3, .ref ou), (4, .int i)] [] M (kj M)) (M : Mem) : Zj X Qo C S 1524 [(0, .ref b), (1, .ref x), (2, .ref m), (3, .ref ou), (4, .int i)] [] M (cs_27 b x m ou i kj M) := by
  have hc0 : C + 0 ≤ room_1.cells := Nat.le_trans (by omega) h1
  have hs0 : S + 0 ≤ room_1.slots := Nat.le_trans (by omega) h2
  have hc1 : C + 1 ≤ room_1.cells := Nat.le_trans (by omega) h1
  have hs1 : S + 6 ≤ room_1.slots := Nat.le_trans (by omega) h2
  have hc2 : C + 2 ≤ room_1.cells := Nat.le_trans (by omega) h1
  have hs2 : S + 12 ≤ room_1.slots := Nat.le_trans (by omega) h2
  have hc3 : C + 3 ≤ room_1.cells := Nat.le_trans (by omega) h1
  have hs3 : S + 18 ≤ room_1.slots := Nat.le_trans (by omega) h2
  unfold cs_27
  refine z_aload_n hX 1 rfl rfl dL_law_1524 ?_
  refine z_aload_n hX 0 rfl rfl dL_law_1525 ?_
  refine z_iload hX 4 rfl dL_law_1526 ?_
  refine z_iconst (v := 1) hX (by decide) dL_law_1528 ?_
  refine z_iadd hX dL_law_1529 ?_
  refine z_aI hX dL_law_1530 (fun x1 => ?_)
  refine z_aload_n hX 3 rfl rfl dL_law_1531 ?_
  refine z_cSw (C' := C + 1) (S' := S + 6) [.ref x, .int x1, .ref ou] hX (fun l hl o ho => cw_L_meansLeft l hl M x x1 ou o ho) dL_law_1532 q_1169 okW_L_meansLeft rfl ⟨(Nat.le_of_ble_eq_true rfl), (Nat.le_of_ble_eq_true rfl)⟩ rfl (Nat.le_of_ble_eq_true rfl) rfl rfl ⟨hc1, hs1⟩ (fun o2 => ?_)
  refine z_istore hX [(5, .int o2.1), (0, .ref b), (1, .ref x), (2, .ref m), (3, .ref ou), (4, .int i)] (by decide) rfl dL_law_1535 ?_
  refine z_aload_n hX 3 rfl rfl dL_law_1537 ?_
  refine z_aload_n hX 1 rfl rfl dL_law_1538 ?_
  refine z_iload hX 5 rfl dL_law_1539 ?_
  refine z_iconst (v := 1) hX (by decide) dL_law_1541 ?_
  refine z_iadd hX dL_law_1542 ?_
  refine z_aI hX dL_law_1543 (fun x3 => ?_)
  refine z_cVIm (C' := (C + 1)) (S' := (S + 6)) 9 [.int x3] hX (fun l hl o ho => c_X9_meansLeft l hl o2.2 m x3 o ho) dL_law_1544 (by decide) rfl rfl q_1779 okV_X9_meansLeft rfl ⟨(Nat.le_of_ble_eq_true rfl), (Nat.le_of_ble_eq_true rfl)⟩ rfl (Nat.le_of_ble_eq_true rfl) (Nat.add_zero _) (Nat.add_zero _) ⟨hc1, hs1⟩ (fun o4 => ?_)
  refine z_istore hX [(6, .int o4.1), (5, .int o2.1), (0, .ref b), (1, .ref x), (2, .ref m), (3, .ref ou), (4, .int i)] (by decide) rfl dL_law_1547 ?_
  refine z_aload_n hX 4 rfl rfl dL_law_1549 ?_
  refine z_cVIp (C' := (C + 1)) (S' := (S + 6)) 9 [] hX (fun l hl o ho => c_X9_thrown l hl o4.2 m o ho) dL_law_1550 (by decide) rfl rfl q_1439 okV_X9_thrown rfl ⟨(Nat.le_of_ble_eq_true rfl), (Nat.le_of_ble_eq_true rfl)⟩ rfl (Nat.le_of_ble_eq_true rfl) (Nat.add_zero _) (Nat.add_zero _) ⟨hc1, hs1⟩ (fun o5 => ?_)
  refine z_iload hX 1 rfl dL_law_1553 ?_
  refine z_icmp_eq hX 1560 (by decide) dL_law_1555 (fun _ => ?_) (fun _ => ?_)
  · refine z_iload hX 1 rfl dL_law_1560 ?_
    refine z_if_ne hX 1577 (by decide) dL_law_1562 (fun _ => ?_) (fun _ => ?_)
    · refine z_goto hX 3165 (by decide) dL_law_1577 ?_
      refine z_sub [2, 3, 4, 5, 6] rfl ?_
      exact z_widen (by omega) (by omega) (hk o4.2)
    · refine z_aload_n hX 5 rfl rfl dL_law_1565 ?_
      refine z_iconst (v := 0) hX (by decide) dL_law_1566 ?_
      refine z_aL hX dL_law_1567 (fun x6 => ?_)
      refine z_iload hX 0 rfl dL_law_1568 ?_
      refine z_i2l hX rfl dL_law_1570 ?_
      refine z_lcmp hX dL_law_1571 ?_
      refine z_if_eq hX 1577 (by decide) dL_law_1572 (fun _ => ?_) (fun _ => ?_)
      · refine z_goto hX 3165 (by decide) dL_law_1577 ?_
        refine z_sub [2, 3, 4, 5, 6] rfl ?_
        exact z_widen (by omega) (by omega) (hk o4.2)
      · exact z_any hq0
  · exact z_any hq0
