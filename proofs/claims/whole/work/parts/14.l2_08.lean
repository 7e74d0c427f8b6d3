theorem dL_law_1308 : decode cL_law 1308 = .ok (.aload_n 1, 1) := by decide +kernel
theorem dL_law_1309 : decode cL_law 1309 = .ok (.aload_n 0, 1) := by decide +kernel
theorem dL_law_1310 : decode cL_law 1310 = .ok (.iload 4, 2) := by decide +kernel
theorem dL_law_1312 : decode cL_law 1312 = .ok (.iconst 1, 1) := by decide +kernel
theorem dL_law_1313 : decode cL_law 1313 = .ok (.iadd, 1) := by decide +kernel
theorem dL_law_1314 : decode cL_law 1314 = .ok (.iaload, 1) := by decide +kernel
theorem dL_law_1315 : decode cL_law 1315 = .ok (.aload_n 0, 1) := by decide +kernel
theorem dL_law_1316 : decode cL_law 1316 = .ok (.iload 4, 2) := by decide +kernel
theorem dL_law_1318 : decode cL_law 1318 = .ok (.iconst 2, 1) := by decide +kernel
theorem dL_law_1319 : decode cL_law 1319 = .ok (.iadd, 1) := by decide +kernel
theorem dL_law_1320 : decode cL_law 1320 = .ok (.iaload, 1) := by decide +kernel
theorem dL_law_1321 : decode cL_law 1321 = .ok (.aload_n 0, 1) := by decide +kernel
theorem dL_law_1322 : decode cL_law 1322 = .ok (.iload 4, 2) := by decide +kernel
theorem dL_law_1324 : decode cL_law 1324 = .ok (.iconst 3, 1) := by decide +kernel
theorem dL_law_1325 : decode cL_law 1325 = .ok (.iadd, 1) := by decide +kernel
theorem dL_law_1326 : decode cL_law 1326 = .ok (.iaload, 1) := by decide +kernel
theorem dL_law_1327 : decode cL_law 1327 = .ok (.aload_n 3, 1) := by decide +kernel
theorem dL_law_1328 : decode cL_law 1328 = .ok (.invokestatic 208, 3) := by decide +kernel
theorem dL_law_1331 : decode cL_law 1331 = .ok (.istore 5, 2) := by decide +kernel
theorem dL_law_1333 : decode cL_law 1333 = .ok (.aload_n 2, 1) := by decide +kernel
theorem dL_law_1334 : decode cL_law 1334 = .ok (.aload_n 0, 1) := by decide +kernel
theorem dL_law_1335 : decode cL_law 1335 = .ok (.iload 4, 2) := by decide +kernel
theorem dL_law_1337 : decode cL_law 1337 = .ok (.iconst 1, 1) := by decide +kernel
theorem dL_law_1338 : decode cL_law 1338 = .ok (.iadd, 1) := by decide +kernel
theorem dL_law_1339 : decode cL_law 1339 = .ok (.iaload, 1) := by decide +kernel
theorem dL_law_1340 : decode cL_law 1340 = .ok (.aload_n 0, 1) := by decide +kernel
theorem dL_law_1341 : decode cL_law 1341 = .ok (.iload 4, 2) := by decide +kernel
theorem dL_law_1343 : decode cL_law 1343 = .ok (.iconst 2, 1) := by decide +kernel
theorem dL_law_1344 : decode cL_law 1344 = .ok (.iadd, 1) := by decide +kernel
theorem dL_law_1345 : decode cL_law 1345 = .ok (.iaload, 1) := by decide +kernel
theorem dL_law_1346 : decode cL_law 1346 = .ok (.aload_n 0, 1) := by decide +kernel
theorem dL_law_1347 : decode cL_law 1347 = .ok (.iload 4, 2) := by decide +kernel
theorem dL_law_1349 : decode cL_law 1349 = .ok (.iconst 3, 1) := by decide +kernel
theorem dL_law_1350 : decode cL_law 1350 = .ok (.iadd, 1) := by decide +kernel
theorem dL_law_1351 : decode cL_law 1351 = .ok (.iaload, 1) := by decide +kernel
theorem dL_law_1352 : decode cL_law 1352 = .ok (.invokevirtual 211, 3) := by decide +kernel
theorem dL_law_1355 : decode cL_law 1355 = .ok (.istore 6, 2) := by decide +kernel
theorem dL_law_1357 : decode cL_law 1357 = .ok (.aload_n 2, 1) := by decide +kernel
theorem dL_law_1358 : decode cL_law 1358 = .ok (.invokevirtual 159, 3) := by decide +kernel
theorem dL_law_1361 : decode cL_law 1361 = .ok (.iload 5, 2) := by decide +kernel
theorem dL_law_1363 : decode cL_law 1363 = .ok (.if_icmp .eq 5, 3) := by decide +kernel
theorem dL_law_1368 : decode cL_law 1368 = .ok (.iload 5, 2) := by decide +kernel
theorem dL_law_1370 : decode cL_law 1370 = .ok (.ifCond .ne 15, 3) := by decide +kernel
theorem dL_law_1373 : decode cL_law 1373 = .ok (.aload_n 3, 1) := by decide +kernel
theorem dL_law_1374 : decode cL_law 1374 = .ok (.iconst 0, 1) := by decide +kernel
theorem dL_law_1375 : decode cL_law 1375 = .ok (.laload, 1) := by decide +kernel
theorem dL_law_1376 : decode cL_law 1376 = .ok (.iload 6, 2) := by decide +kernel
theorem dL_law_1378 : decode cL_law 1378 = .ok (.i2l, 1) := by decide +kernel
theorem dL_law_1379 : decode cL_law 1379 = .ok (.lcmp, 1) := by decide +kernel
theorem dL_law_1380 : decode cL_law 1380 = .ok (.ifCond .eq 5, 3) := by decide +kernel
theorem dL_law_1385 : decode cL_law 1385 = .ok (.goto 1780, 3) := by decide +kernel
theorem dL_law_1388 : decode cL_law 1388 = .ok (.aload_n 1, 1) := by decide +kernel
theorem dL_law_1389 : decode cL_law 1389 = .ok (.aload_n 0, 1) := by decide +kernel
theorem dL_law_1390 : decode cL_law 1390 = .ok (.iload 4, 2) := by decide +kernel
theorem dL_law_1392 : decode cL_law 1392 = .ok (.iconst 1, 1) := by decide +kernel
theorem dL_law_1393 : decode cL_law 1393 = .ok (.iadd, 1) := by decide +kernel
theorem dL_law_1394 : decode cL_law 1394 = .ok (.iaload, 1) := by decide +kernel
theorem dL_law_1395 : decode cL_law 1395 = .ok (.aload_n 0, 1) := by decide +kernel
theorem dL_law_1396 : decode cL_law 1396 = .ok (.iload 4, 2) := by decide +kernel
theorem dL_law_1398 : decode cL_law 1398 = .ok (.iconst 2, 1) := by decide +kernel
theorem dL_law_1399 : decode cL_law 1399 = .ok (.iadd, 1) := by decide +kernel
theorem dL_law_1400 : decode cL_law 1400 = .ok (.iaload, 1) := by decide +kernel
theorem dL_law_1401 : decode cL_law 1401 = .ok (.aload_n 3, 1) := by decide +kernel
theorem dL_law_1402 : decode cL_law 1402 = .ok (.invokestatic 212, 3) := by decide +kernel
theorem dL_law_1405 : decode cL_law 1405 = .ok (.istore 5, 2) := by decide +kernel
theorem dL_law_1407 : decode cL_law 1407 = .ok (.aload_n 2, 1) := by decide +kernel
theorem dL_law_1408 : decode cL_law 1408 = .ok (.aload_n 0, 1) := by decide +kernel
theorem dL_law_1409 : decode cL_law 1409 = .ok (.iload 4, 2) := by decide +kernel
theorem dL_law_1411 : decode cL_law 1411 = .ok (.iconst 1, 1) := by decide +kernel
theorem dL_law_1412 : decode cL_law 1412 = .ok (.iadd, 1) := by decide +kernel
theorem dL_law_1413 : decode cL_law 1413 = .ok (.iaload, 1) := by decide +kernel
theorem dL_law_1414 : decode cL_law 1414 = .ok (.aload_n 0, 1) := by decide +kernel
theorem dL_law_1415 : decode cL_law 1415 = .ok (.iload 4, 2) := by decide +kernel
theorem dL_law_1417 : decode cL_law 1417 = .ok (.iconst 2, 1) := by decide +kernel
theorem dL_law_1418 : decode cL_law 1418 = .ok (.iadd, 1) := by decide +kernel
theorem dL_law_1419 : decode cL_law 1419 = .ok (.iaload, 1) := by decide +kernel
theorem dL_law_1420 : decode cL_law 1420 = .ok (.invokevirtual 214, 3) := by decide +kernel
theorem dL_law_1423 : decode cL_law 1423 = .ok (.istore 6, 2) := by decide +kernel
theorem dL_law_1425 : decode cL_law 1425 = .ok (.aload_n 2, 1) := by decide +kernel
theorem dL_law_1426 : decode cL_law 1426 = .ok (.invokevirtual 159, 3) := by decide +kernel
theorem dL_law_1429 : decode cL_law 1429 = .ok (.iload 5, 2) := by decide +kernel
theorem dL_law_1431 : decode cL_law 1431 = .ok (.if_icmp .eq 5, 3) := by decide +kernel
theorem dL_law_1436 : decode cL_law 1436 = .ok (.iload 5, 2) := by decide +kernel
theorem dL_law_1438 : decode cL_law 1438 = .ok (.ifCond .ne 15, 3) := by decide +kernel
theorem dL_law_1441 : decode cL_law 1441 = .ok (.aload_n 3, 1) := by decide +kernel
theorem dL_law_1442 : decode cL_law 1442 = .ok (.iconst 0, 1) := by decide +kernel
theorem dL_law_1443 : decode cL_law 1443 = .ok (.laload, 1) := by decide +kernel
theorem dL_law_1444 : decode cL_law 1444 = .ok (.iload 6, 2) := by decide +kernel
theorem dL_law_1446 : decode cL_law 1446 = .ok (.i2l, 1) := by decide +kernel
theorem dL_law_1447 : decode cL_law 1447 = .ok (.lcmp, 1) := by decide +kernel
theorem dL_law_1448 : decode cL_law 1448 = .ok (.ifCond .eq 5, 3) := by decide +kernel
theorem dL_law_1453 : decode cL_law 1453 = .ok (.goto 1712, 3) := by decide +kernel
set_option maxRecDepth 20000 in
set_option maxHeartbeats 4000000 in
theorem zl_24 {X : Cxt} (hX : okX X cL_law RL room_1 (some .boolean) 8) {Qo : Int32 → State → Prop} (hq0 : ∀ st, Qo 0 st) {C S : Nat} (h1 : C + 3 ≤ room_1.cells) (h2 : S + 18 ≤ room_1.slots) (b x m ou : Nat) (i : Int32) (kj : Mem → Option Int32) (hk : ∀ M, Zj X Qo (C + 3) (S + 18) 3165 [(0, .ref b), (1, .ref x), (2, .ref m), (3, .ref ou), (4, .int i)] [] M (kj M)) (M : Mem) : Zj X Qo C S 1308 [(0, .ref b), (1, .ref x), (2, .ref m), (3, .ref ou), (4, .int i)] [] M (cs_24 b x m ou i kj M) := by
  have hc0 : C + 0 ≤ room_1.cells := Nat.le_trans (by omega) h1
  have hs0 : S + 0 ≤ room_1.slots := Nat.le_trans (by omega) h2
  have hc1 : C + 1 ≤ room_1.cells := Nat.le_trans (by omega) h1
  have hs1 : S + 6 ≤ room_1.slots := Nat.le_trans (by omega) h2
  have hc2 : C + 2 ≤ room_1.cells := Nat.le_trans (by omega) h1
  have hs2 : S + 12 ≤ room_1.slots := Nat.le_trans (by omega) h2
  have hc3 : C + 3 ≤ room_1.cells := Nat.le_trans (by omega) h1
  have hs3 : S + 18 ≤ room_1.slots := Nat.le_trans (by omega) h2
  unfold cs_24
  refine z_aload_n hX 1 rfl rfl dL_law_1308 ?_
  refine z_aload_n hX 0 rfl rfl dL_law_1309 ?_
  refine z_iload hX 4 rfl dL_law_1310 ?_
  refine z_iconst (v := 1) hX (by decide) dL_law_1312 ?_
  refine z_iadd hX dL_law_1313 ?_
  refine z_aI hX dL_law_1314 (fun x1 => ?_)
  refine z_aload_n hX 0 rfl rfl dL_law_1315 ?_
  refine z_iload hX 4 rfl dL_law_1316 ?_
  refine z_iconst (v := 2) hX (by decide) dL_law_1318 ?_
  refine z_iadd hX dL_law_1319 ?_
  refine z_aI hX dL_law_1320 (fun x2 => ?_)
  refine z_aload_n hX 0 rfl rfl dL_law_1321 ?_
  refine z_iload hX 4 rfl dL_law_1322 ?_
  refine z_iconst (v := 3) hX (by decide) dL_law_1324 ?_
  refine z_iadd hX dL_law_1325 ?_
  refine z_aI hX dL_law_1326 (fun x3 => ?_)
  refine z_aload_n hX 3 rfl rfl dL_law_1327 ?_
  refine z_cSw (C' := C + 2) (S' := S + 12) [.ref x, .int x1, .int x2, .int x3, .ref ou] hX (fun l hl o ho => cw_L_paidFrom l hl M x x1 x2 x3 ou o ho) dL_law_1328 q_1148 okW_L_paidFrom rfl ⟨(Nat.le_of_ble_eq_true rfl), (Nat.le_of_ble_eq_true rfl)⟩ rfl (Nat.le_of_ble_eq_true rfl) rfl rfl ⟨hc2, hs2⟩ (fun o4 => ?_)
  refine z_istore hX [(5, .int o4.1), (0, .ref b), (1, .ref x), (2, .ref m), (3, .ref ou), (4, .int i)] (by decide) rfl dL_law_1331 ?_
  refine z_aload_n hX 3 rfl rfl dL_law_1333 ?_
  refine z_aload_n hX 1 rfl rfl dL_law_1334 ?_
  refine z_iload hX 5 rfl dL_law_1335 ?_
  refine z_iconst (v := 1) hX (by decide) dL_law_1337 ?_
  refine z_iadd hX dL_law_1338 ?_
  refine z_aI hX dL_law_1339 (fun x5 => ?_)
  refine z_aload_n hX 1 rfl rfl dL_law_1340 ?_
  refine z_iload hX 5 rfl dL_law_1341 ?_
  refine z_iconst (v := 2) hX (by decide) dL_law_1343 ?_
  refine z_iadd hX dL_law_1344 ?_
  refine z_aI hX dL_law_1345 (fun x6 => ?_)
  refine z_aload_n hX 1 rfl rfl dL_law_1346 ?_
  refine z_iload hX 5 rfl dL_law_1347 ?_
  refine z_iconst (v := 3) hX (by decide) dL_law_1349 ?_
  refine z_iadd hX dL_law_1350 ?_
  refine z_aI hX dL_law_1351 (fun x7 => ?_)
  refine z_cVIm (C' := (C + 2)) (S' := (S + 12)) 9 [.int x5, .int x6, .int x7] hX (fun l hl o ho => c_X9_paidFrom l hl o4.2 m x5 x6 x7 o ho) dL_law_1352 (by decide) rfl rfl q_1763 okV_X9_paidFrom rfl ⟨(Nat.le_of_ble_eq_true rfl), (Nat.le_of_ble_eq_true rfl)⟩ rfl (Nat.le_of_ble_eq_true rfl) (Nat.add_zero _) (Nat.add_zero _) ⟨hc2, hs2⟩ (fun o8 => ?_)
  refine z_istore hX [(6, .int o8.1), (5, .int o4.1), (0, .ref b), (1, .ref x), (2, .ref m), (3, .ref ou), (4, .int i)] (by decide) rfl dL_law_1355 ?_
  refine z_aload_n hX 4 rfl rfl dL_law_1357 ?_
  refine z_cVIp (C' := (C + 2)) (S' := (S + 12)) 9 [] hX (fun l hl o ho => c_X9_thrown l hl o8.2 m o ho) dL_law_1358 (by decide) rfl rfl q_1439 okV_X9_thrown rfl ⟨(Nat.le_of_ble_eq_true rfl), (Nat.le_of_ble_eq_true rfl)⟩ rfl (Nat.le_of_ble_eq_true rfl) (Nat.add_zero _) (Nat.add_zero _) ⟨hc2, hs2⟩ (fun o9 => ?_)
  refine z_iload hX 1 rfl dL_law_1361 ?_
  refine z_icmp_eq hX 1368 (by decide) dL_law_1363 (fun _ => ?_) (fun _ => ?_)
  · refine z_iload hX 1 rfl dL_law_1368 ?_
    refine z_if_ne hX 1385 (by decide) dL_law_1370 (fun _ => ?_) (fun _ => ?_)
    · refine z_goto hX 3165 (by decide) dL_law_1385 ?_
      refine z_sub [2, 3, 4, 5, 6] rfl ?_
      exact z_widen (by omega) (by omega) (hk o8.2)
    · refine z_aload_n hX 5 rfl rfl dL_law_1373 ?_
      refine z_iconst (v := 0) hX (by decide) dL_law_1374 ?_
      refine z_aL hX dL_law_1375 (fun x10 => ?_)
      refine z_iload hX 0 rfl dL_law_1376 ?_
      refine z_i2l hX rfl dL_law_1378 ?_
      refine z_lcmp hX dL_law_1379 ?_
      refine z_if_eq hX 1385 (by decide) dL_law_1380 (fun _ => ?_) (fun _ => ?_)
      · refine z_goto hX 3165 (by decide) dL_law_1385 ?_
        refine z_sub [2, 3, 4, 5, 6] rfl ?_
        exact z_widen (by omega) (by omega) (hk o8.2)
      · exact z_any hq0
  · exact z_any hq0
set_option maxRecDepth 20000 in
set_option maxHeartbeats 4000000 in
theorem zl_25 {X : Cxt} (hX : okX X cL_law RL room_1 (some .boolean) 8) {Qo : Int32 → State → Prop} (hq0 : ∀ st, Qo 0 st) {C S : Nat} (h1 : C + 3 ≤ room_1.cells) (h2 : S + 18 ≤ room_1.slots) (b x m ou : Nat) (i : Int32) (kj : Mem → Option Int32) (hk : ∀ M, Zj X Qo (C + 3) (S + 18) 3165 [(0, .ref b), (1, .ref x), (2, .ref m), (3, .ref ou), (4, .int i)] [] M (kj M)) (M : Mem) : Zj X Qo C S 1388 [(0, .ref b), (1, .ref x), (2, .ref m), (3, .ref ou), (4, .int i)] [] M (cs_25 b x m ou i kj M) := by
  have hc0 : C + 0 ≤ room_1.cells := Nat.le_trans (by omega) h1
  have hs0 : S + 0 ≤ room_1.slots := Nat.le_trans (by omega) h2
  have hc1 : C + 1 ≤ room_1.cells := Nat.le_trans (by omega) h1
  have hs1 : S + 6 ≤ room_1.slots := Nat.le_trans (by omega) h2
  have hc2 : C + 2 ≤ room_1.cells := Nat.le_trans (by omega) h1
  have hs2 : S + 12 ≤ room_1.slots := Nat.le_trans (by omega) h2
  have hc3 : C + 3 ≤ room_1.cells := Nat.le_trans (by omega) h1
  have hs3 : S + 18 ≤ room_1.slots := Nat.le_trans (by omega) h2
  unfold cs_25
  refine z_aload_n hX 1 rfl rfl dL_law_1388 ?_
  refine z_aload_n hX 0 rfl rfl dL_law_1389 ?_
  refine z_iload hX 4 rfl dL_law_1390 ?_
  refine z_iconst (v := 1) hX (by decide) dL_law_1392 ?_
  refine z_iadd hX dL_law_1393 ?_
  refine z_aI hX dL_law_1394 (fun x1 => ?_)
  refine z_aload_n hX 0 rfl rfl dL_law_1395 ?_
  refine z_iload hX 4 rfl dL_law_1396 ?_
  refine z_iconst (v := 2) hX (by decide) dL_law_1398 ?_
  refine z_iadd hX dL_law_1399 ?_
  refine z_aI hX dL_law_1400 (fun x2 => ?_)
  refine z_aload_n hX 3 rfl rfl dL_law_1401 ?_
  refine z_cSw (C' := C + 1) (S' := S + 6) [.ref x, .int x1, .int x2, .ref ou] hX (fun l hl o ho => cw_L_leftOf l hl M x x1 x2 ou o ho) dL_law_1402 q_1155 okW_L_leftOf rfl ⟨(Nat.le_of_ble_eq_true rfl), (Nat.le_of_ble_eq_true rfl)⟩ rfl (Nat.le_of_ble_eq_true rfl) rfl rfl ⟨hc1, hs1⟩ (fun o3 => ?_)
  refine z_istore hX [(5, .int o3.1), (0, .ref b), (1, .ref x), (2, .ref m), (3, .ref ou), (4, .int i)] (by decide) rfl dL_law_1405 ?_
  refine z_aload_n hX 3 rfl rfl dL_law_1407 ?_
  refine z_aload_n hX 1 rfl rfl dL_law_1408 ?_
  refine z_iload hX 5 rfl dL_law_1409 ?_
  refine z_iconst (v := 1) hX (by decide) dL_law_1411 ?_
  refine z_iadd hX dL_law_1412 ?_
  refine z_aI hX dL_law_1413 (fun x4 => ?_)
  refine z_aload_n hX 1 rfl rfl dL_law_1414 ?_
  refine z_iload hX 5 rfl dL_law_1415 ?_
  refine z_iconst (v := 2) hX (by decide) dL_law_1417 ?_
  refine z_iadd hX dL_law_1418 ?_
  refine z_aI hX dL_law_1419 (fun x5 => ?_)
  refine z_cVIm (C' := (C + 1)) (S' := (S + 6)) 9 [.int x4, .int x5] hX (fun l hl o ho => c_X9_leftOf l hl o3.2 m x4 x5 o ho) dL_law_1420 (by decide) rfl rfl q_1771 okV_X9_leftOf rfl ⟨(Nat.le_of_ble_eq_true rfl), (Nat.le_of_ble_eq_true rfl)⟩ rfl (Nat.le_of_ble_eq_true rfl) (Nat.add_zero _) (Nat.add_zero _) ⟨hc1, hs1⟩ (fun o6 => ?_)
  refine z_istore hX [(6, .int o6.1), (5, .int o3.1), (0, .ref b), (1, .ref x), (2, .ref m), (3, .ref ou), (4, .int i)] (by decide) rfl dL_law_1423 ?_
  refine z_aload_n hX 4 rfl rfl dL_law_1425 ?_
  refine z_cVIp (C' := (C + 1)) (S' := (S + 6)) 9 [] hX (fun l hl o ho => c_X9_thrown l hl o6.2 m o ho) dL_law_1426 (by decide) rfl rfl q_1439 okV_X9_thrown rfl ⟨(Nat.le_of_ble_eq_true rfl), (Nat.le_of_ble_eq_true rfl)⟩ rfl (Nat.le_of_ble_eq_true rfl) (Nat.add_zero _) (Nat.add_zero _) ⟨hc1, hs1⟩ (fun o7 => ?_)
  refine z_iload hX 1 rfl dL_law_1429 ?_
  refine z_icmp_eq hX 1436 (by decide) dL_law_1431 (fun _ => ?_) (fun _ => ?_)
  · refine z_iload hX 1 rfl dL_law_1436 ?_
    refine z_if_ne hX 1453 (by decide) dL_law_1438 (fun _ => ?_) (fun _ => ?_)
    · refine z_goto hX 3165 (by decide) dL_law_1453 ?_
      refine z_sub [2, 3, 4, 5, 6] rfl ?_
      exact z_widen (by omega) (by omega) (hk o6.2)
    · refine z_aload_n hX 5 rfl rfl dL_law_1441 ?_
      refine z_iconst (v := 0) hX (by decide) dL_law_1442 ?_
      refine z_aL hX dL_law_1443 (fun x8 => ?_)
      refine z_iload hX 0 rfl dL_law_1444 ?_
      refine z_i2l hX rfl dL_law_1446 ?_
      refine z_lcmp hX dL_law_1447 ?_
      refine z_if_eq hX 1453 (by decide) dL_law_1448 (fun _ => ?_) (fun _ => ?_)
      · refine z_goto hX 3165 (by decide) dL_law_1453 ?_
        refine z_sub [2, 3, 4, 5, 6] rfl ?_
        exact z_widen (by omega) (by omega) (hk o6.2)
      · exact z_any hq0
  · exact z_any hq0
