theorem dL_law_410 : decode cL_law 410 = .ok (.aload_n 1, 1) := by decide +kernel
theorem dL_law_411 : decode cL_law 411 = .ok (.invokevirtual 124, 3) := by decide +kernel
theorem dL_law_414 : decode cL_law 414 = .ok (.aload_n 2, 1) := by decide +kernel
theorem dL_law_415 : decode cL_law 415 = .ok (.invokevirtual 128, 3) := by decide +kernel
theorem dL_law_418 : decode cL_law 418 = .ok (.if_icmp .eq 2747, 3) := by decide +kernel
theorem dL_law_423 : decode cL_law 423 = .ok (.aload_n 1, 1) := by decide +kernel
theorem dL_law_424 : decode cL_law 424 = .ok (.invokevirtual 129, 3) := by decide +kernel
theorem dL_law_427 : decode cL_law 427 = .ok (.aload_n 2, 1) := by decide +kernel
theorem dL_law_428 : decode cL_law 428 = .ok (.invokevirtual 132, 3) := by decide +kernel
theorem dL_law_431 : decode cL_law 431 = .ok (.if_icmp .eq 2734, 3) := by decide +kernel
theorem dL_law_436 : decode cL_law 436 = .ok (.aload_n 1, 1) := by decide +kernel
theorem dL_law_437 : decode cL_law 437 = .ok (.invokevirtual 133, 3) := by decide +kernel
theorem dL_law_440 : decode cL_law 440 = .ok (.aload_n 2, 1) := by decide +kernel
theorem dL_law_441 : decode cL_law 441 = .ok (.invokevirtual 136, 3) := by decide +kernel
theorem dL_law_444 : decode cL_law 444 = .ok (.if_icmp .eq 2721, 3) := by decide +kernel
theorem dL_law_449 : decode cL_law 449 = .ok (.aload_n 1, 1) := by decide +kernel
theorem dL_law_450 : decode cL_law 450 = .ok (.invokevirtual 137, 3) := by decide +kernel
theorem dL_law_453 : decode cL_law 453 = .ok (.aload_n 2, 1) := by decide +kernel
theorem dL_law_454 : decode cL_law 454 = .ok (.invokevirtual 140, 3) := by decide +kernel
theorem dL_law_457 : decode cL_law 457 = .ok (.if_icmp .eq 2708, 3) := by decide +kernel
theorem dL_law_462 : decode cL_law 462 = .ok (.aload_n 1, 1) := by decide +kernel
theorem dL_law_463 : decode cL_law 463 = .ok (.invokevirtual 141, 3) := by decide +kernel
theorem dL_law_466 : decode cL_law 466 = .ok (.aload_n 2, 1) := by decide +kernel
theorem dL_law_467 : decode cL_law 467 = .ok (.invokevirtual 144, 3) := by decide +kernel
theorem dL_law_470 : decode cL_law 470 = .ok (.if_icmp .eq 2695, 3) := by decide +kernel
theorem dL_law_475 : decode cL_law 475 = .ok (.aload_n 1, 1) := by decide +kernel
theorem dL_law_476 : decode cL_law 476 = .ok (.aload_n 0, 1) := by decide +kernel
theorem dL_law_477 : decode cL_law 477 = .ok (.iload 4, 2) := by decide +kernel
theorem dL_law_479 : decode cL_law 479 = .ok (.iconst 1, 1) := by decide +kernel
theorem dL_law_480 : decode cL_law 480 = .ok (.iadd, 1) := by decide +kernel
theorem dL_law_481 : decode cL_law 481 = .ok (.iaload, 1) := by decide +kernel
theorem dL_law_482 : decode cL_law 482 = .ok (.invokevirtual 145, 3) := by decide +kernel
theorem dL_law_485 : decode cL_law 485 = .ok (.aload_n 2, 1) := by decide +kernel
theorem dL_law_486 : decode cL_law 486 = .ok (.aload_n 0, 1) := by decide +kernel
theorem dL_law_487 : decode cL_law 487 = .ok (.iload 4, 2) := by decide +kernel
theorem dL_law_489 : decode cL_law 489 = .ok (.iconst 1, 1) := by decide +kernel
theorem dL_law_490 : decode cL_law 490 = .ok (.iadd, 1) := by decide +kernel
theorem dL_law_491 : decode cL_law 491 = .ok (.iaload, 1) := by decide +kernel
theorem dL_law_492 : decode cL_law 492 = .ok (.invokevirtual 148, 3) := by decide +kernel
theorem dL_law_495 : decode cL_law 495 = .ok (.if_icmp .eq 2670, 3) := by decide +kernel
theorem dL_law_500 : decode cL_law 500 = .ok (.aload_n 1, 1) := by decide +kernel
theorem dL_law_501 : decode cL_law 501 = .ok (.aload_n 0, 1) := by decide +kernel
theorem dL_law_502 : decode cL_law 502 = .ok (.iload 4, 2) := by decide +kernel
theorem dL_law_504 : decode cL_law 504 = .ok (.iconst 1, 1) := by decide +kernel
theorem dL_law_505 : decode cL_law 505 = .ok (.iadd, 1) := by decide +kernel
theorem dL_law_506 : decode cL_law 506 = .ok (.iaload, 1) := by decide +kernel
theorem dL_law_507 : decode cL_law 507 = .ok (.invokevirtual 149, 3) := by decide +kernel
theorem dL_law_510 : decode cL_law 510 = .ok (.aload_n 2, 1) := by decide +kernel
theorem dL_law_511 : decode cL_law 511 = .ok (.aload_n 0, 1) := by decide +kernel
theorem dL_law_512 : decode cL_law 512 = .ok (.iload 4, 2) := by decide +kernel
theorem dL_law_514 : decode cL_law 514 = .ok (.iconst 1, 1) := by decide +kernel
theorem dL_law_515 : decode cL_law 515 = .ok (.iadd, 1) := by decide +kernel
theorem dL_law_516 : decode cL_law 516 = .ok (.iaload, 1) := by decide +kernel
theorem dL_law_517 : decode cL_law 517 = .ok (.invokevirtual 152, 3) := by decide +kernel
theorem dL_law_520 : decode cL_law 520 = .ok (.if_icmp .eq 2645, 3) := by decide +kernel
theorem dL_law_525 : decode cL_law 525 = .ok (.aload_n 1, 1) := by decide +kernel
theorem dL_law_526 : decode cL_law 526 = .ok (.aload_n 0, 1) := by decide +kernel
theorem dL_law_527 : decode cL_law 527 = .ok (.iload 4, 2) := by decide +kernel
theorem dL_law_529 : decode cL_law 529 = .ok (.iconst 1, 1) := by decide +kernel
theorem dL_law_530 : decode cL_law 530 = .ok (.iadd, 1) := by decide +kernel
theorem dL_law_531 : decode cL_law 531 = .ok (.iaload, 1) := by decide +kernel
theorem dL_law_532 : decode cL_law 532 = .ok (.aload_n 3, 1) := by decide +kernel
theorem dL_law_533 : decode cL_law 533 = .ok (.invokestatic 153, 3) := by decide +kernel
theorem dL_law_536 : decode cL_law 536 = .ok (.istore 5, 2) := by decide +kernel
theorem dL_law_538 : decode cL_law 538 = .ok (.aload_n 2, 1) := by decide +kernel
theorem dL_law_539 : decode cL_law 539 = .ok (.aload_n 0, 1) := by decide +kernel
theorem dL_law_540 : decode cL_law 540 = .ok (.iload 4, 2) := by decide +kernel
theorem dL_law_542 : decode cL_law 542 = .ok (.iconst 1, 1) := by decide +kernel
theorem dL_law_543 : decode cL_law 543 = .ok (.iadd, 1) := by decide +kernel
theorem dL_law_544 : decode cL_law 544 = .ok (.iaload, 1) := by decide +kernel
theorem dL_law_545 : decode cL_law 545 = .ok (.invokevirtual 158, 3) := by decide +kernel
theorem dL_law_548 : decode cL_law 548 = .ok (.istore 6, 2) := by decide +kernel
theorem dL_law_550 : decode cL_law 550 = .ok (.aload_n 2, 1) := by decide +kernel
theorem dL_law_551 : decode cL_law 551 = .ok (.invokevirtual 159, 3) := by decide +kernel
theorem dL_law_554 : decode cL_law 554 = .ok (.iload 5, 2) := by decide +kernel
theorem dL_law_556 : decode cL_law 556 = .ok (.if_icmp .eq 5, 3) := by decide +kernel
theorem dL_law_561 : decode cL_law 561 = .ok (.iload 5, 2) := by decide +kernel
theorem dL_law_563 : decode cL_law 563 = .ok (.ifCond .ne 15, 3) := by decide +kernel
theorem dL_law_566 : decode cL_law 566 = .ok (.aload_n 3, 1) := by decide +kernel
theorem dL_law_567 : decode cL_law 567 = .ok (.iconst 0, 1) := by decide +kernel
theorem dL_law_568 : decode cL_law 568 = .ok (.laload, 1) := by decide +kernel
theorem dL_law_569 : decode cL_law 569 = .ok (.iload 6, 2) := by decide +kernel
theorem dL_law_571 : decode cL_law 571 = .ok (.i2l, 1) := by decide +kernel
theorem dL_law_572 : decode cL_law 572 = .ok (.lcmp, 1) := by decide +kernel
theorem dL_law_573 : decode cL_law 573 = .ok (.ifCond .eq 5, 3) := by decide +kernel
theorem dL_law_578 : decode cL_law 578 = .ok (.goto 2587, 3) := by decide +kernel
set_option maxRecDepth 20000 in
set_option maxHeartbeats 4000000 in
theorem zl_2 {X : Cxt} (hX : okX X cL_law RL room_1 (some .boolean) 8) {Qo : Int32 → State → Prop} (hq0 : ∀ st, Qo 0 st) {C S : Nat} (h1 : C + 3 ≤ room_1.cells) (h2 : S + 18 ≤ room_1.slots) (b x m ou : Nat) (i : Int32) (kj : Mem → Option Int32) (hk : ∀ M, Zj X Qo (C + 3) (S + 18) 3165 [(0, .ref b), (1, .ref x), (2, .ref m), (3, .ref ou), (4, .int i)] [] M (kj M)) (M : Mem) : Zj X Qo C S 410 [(0, .ref b), (1, .ref x), (2, .ref m), (3, .ref ou), (4, .int i)] [] M (cs_2 b x m ou i kj M) := by
  have hc0 : C + 0 ≤ room_1.cells := Nat.le_trans (by omega) h1
  have hs0 : S + 0 ≤ room_1.slots := Nat.le_trans (by omega) h2
  have hc1 : C + 1 ≤ room_1.cells := Nat.le_trans (by omega) h1
  have hs1 : S + 6 ≤ room_1.slots := Nat.le_trans (by omega) h2
  have hc2 : C + 2 ≤ room_1.cells := Nat.le_trans (by omega) h1
  have hs2 : S + 12 ≤ room_1.slots := Nat.le_trans (by omega) h2
  have hc3 : C + 3 ≤ room_1.cells := Nat.le_trans (by omega) h1
  have hs3 : S + 18 ≤ room_1.slots := Nat.le_trans (by omega) h2
  unfold cs_2
  refine z_aload_n hX 1 rfl rfl dL_law_410 ?_
  refine z_cVIp (C' := C) (S' := S) 8 [] hX (fun l hl o ho => c_X8_errorPosition l hl M x o ho) dL_law_411 (by decide) rfl rfl q_624 okV_X8_errorPosition rfl ⟨(Nat.le_of_ble_eq_true rfl), (Nat.le_of_ble_eq_true rfl)⟩ rfl (Nat.le_of_ble_eq_true rfl) (Nat.add_zero _) (Nat.add_zero _) ⟨hc0, hs0⟩ (fun o1 => ?_)
  refine z_aload_n hX 2 rfl rfl dL_law_414 ?_
  refine z_cVIm (C' := C) (S' := S) 9 [] hX (fun l hl o ho => c_X9_errorPosition l hl M m o ho) dL_law_415 (by decide) rfl rfl q_1459 okV_X9_errorPosition rfl ⟨(Nat.le_of_ble_eq_true rfl), (Nat.le_of_ble_eq_true rfl)⟩ rfl (Nat.le_of_ble_eq_true rfl) (Nat.add_zero _) (Nat.add_zero _) ⟨hc0, hs0⟩ (fun o2 => ?_)
  refine z_icmp_eq hX 3165 (by decide) dL_law_418 (fun _ => ?_) (fun _ => ?_)
  · refine z_sub [0, 1, 2, 3, 4] rfl ?_
    exact z_widen (by omega) (by omega) (hk o2.2)
  · exact z_any hq0
set_option maxRecDepth 20000 in
set_option maxHeartbeats 4000000 in
theorem zl_3 {X : Cxt} (hX : okX X cL_law RL room_1 (some .boolean) 8) {Qo : Int32 → State → Prop} (hq0 : ∀ st, Qo 0 st) {C S : Nat} (h1 : C + 3 ≤ room_1.cells) (h2 : S + 18 ≤ room_1.slots) (b x m ou : Nat) (i : Int32) (kj : Mem → Option Int32) (hk : ∀ M, Zj X Qo (C + 3) (S + 18) 3165 [(0, .ref b), (1, .ref x), (2, .ref m), (3, .ref ou), (4, .int i)] [] M (kj M)) (M : Mem) : Zj X Qo C S 423 [(0, .ref b), (1, .ref x), (2, .ref m), (3, .ref ou), (4, .int i)] [] M (cs_3 b x m ou i kj M) := by
  have hc0 : C + 0 ≤ room_1.cells := Nat.le_trans (by omega) h1
  have hs0 : S + 0 ≤ room_1.slots := Nat.le_trans (by omega) h2
  have hc1 : C + 1 ≤ room_1.cells := Nat.le_trans (by omega) h1
  have hs1 : S + 6 ≤ room_1.slots := Nat.le_trans (by omega) h2
  have hc2 : C + 2 ≤ room_1.cells := Nat.le_trans (by omega) h1
  have hs2 : S + 12 ≤ room_1.slots := Nat.le_trans (by omega) h2
  have hc3 : C + 3 ≤ room_1.cells := Nat.le_trans (by omega) h1
  have hs3 : S + 18 ≤ room_1.slots := Nat.le_trans (by omega) h2
  unfold cs_3
  refine z_aload_n hX 1 rfl rfl dL_law_423 ?_
  refine z_cVIp (C' := C) (S' := S) 8 [] hX (fun l hl o ho => c_X8_districtCount l hl M x o ho) dL_law_424 (by decide) rfl rfl q_628 okV_X8_districtCount rfl ⟨(Nat.le_of_ble_eq_true rfl), (Nat.le_of_ble_eq_true rfl)⟩ rfl (Nat.le_of_ble_eq_true rfl) (Nat.add_zero _) (Nat.add_zero _) ⟨hc0, hs0⟩ (fun o1 => ?_)
  refine z_aload_n hX 2 rfl rfl dL_law_427 ?_
  refine z_cVIm (C' := C) (S' := S) 9 [] hX (fun l hl o ho => c_X9_districtCount l hl M m o ho) dL_law_428 (by decide) rfl rfl q_1559 okV_X9_districtCount rfl ⟨(Nat.le_of_ble_eq_true rfl), (Nat.le_of_ble_eq_true rfl)⟩ rfl (Nat.le_of_ble_eq_true rfl) (Nat.add_zero _) (Nat.add_zero _) ⟨hc0, hs0⟩ (fun o2 => ?_)
  refine z_icmp_eq hX 3165 (by decide) dL_law_431 (fun _ => ?_) (fun _ => ?_)
  · refine z_sub [0, 1, 2, 3, 4] rfl ?_
    exact z_widen (by omega) (by omega) (hk o2.2)
  · exact z_any hq0
set_option maxRecDepth 20000 in
set_option maxHeartbeats 4000000 in
theorem zl_4 {X : Cxt} (hX : okX X cL_law RL room_1 (some .boolean) 8) {Qo : Int32 → State → Prop} (hq0 : ∀ st, Qo 0 st) {C S : Nat} (h1 : C + 3 ≤ room_1.cells) (h2 : S + 18 ≤ room_1.slots) (b x m ou : Nat) (i : Int32) (kj : Mem → Option Int32) (hk : ∀ M, Zj X Qo (C + 3) (S + 18) 3165 [(0, .ref b), (1, .ref x), (2, .ref m), (3, .ref ou), (4, .int i)] [] M (kj M)) (M : Mem) : Zj X Qo C S 436 [(0, .ref b), (1, .ref x), (2, .ref m), (3, .ref ou), (4, .int i)] [] M (cs_4 b x m ou i kj M) := by
  have hc0 : C + 0 ≤ room_1.cells := Nat.le_trans (by omega) h1
  have hs0 : S + 0 ≤ room_1.slots := Nat.le_trans (by omega) h2
  have hc1 : C + 1 ≤ room_1.cells := Nat.le_trans (by omega) h1
  have hs1 : S + 6 ≤ room_1.slots := Nat.le_trans (by omega) h2
  have hc2 : C + 2 ≤ room_1.cells := Nat.le_trans (by omega) h1
  have hs2 : S + 12 ≤ room_1.slots := Nat.le_trans (by omega) h2
  have hc3 : C + 3 ≤ room_1.cells := Nat.le_trans (by omega) h1
  have hs3 : S + 18 ≤ room_1.slots := Nat.le_trans (by omega) h2
  unfold cs_4
  refine z_aload_n hX 1 rfl rfl dL_law_436 ?_
  refine z_cVIp (C' := C) (S' := S) 8 [] hX (fun l hl o ho => c_X8_projectCount l hl M x o ho) dL_law_437 (by decide) rfl rfl q_632 okV_X8_projectCount rfl ⟨(Nat.le_of_ble_eq_true rfl), (Nat.le_of_ble_eq_true rfl)⟩ rfl (Nat.le_of_ble_eq_true rfl) (Nat.add_zero _) (Nat.add_zero _) ⟨hc0, hs0⟩ (fun o1 => ?_)
  refine z_aload_n hX 2 rfl rfl dL_law_440 ?_
  refine z_cVIm (C' := C) (S' := S) 9 [] hX (fun l hl o ho => c_X9_projectCount l hl M m o ho) dL_law_441 (by decide) rfl rfl q_1563 okV_X9_projectCount rfl ⟨(Nat.le_of_ble_eq_true rfl), (Nat.le_of_ble_eq_true rfl)⟩ rfl (Nat.le_of_ble_eq_true rfl) (Nat.add_zero _) (Nat.add_zero _) ⟨hc0, hs0⟩ (fun o2 => ?_)
  refine z_icmp_eq hX 3165 (by decide) dL_law_444 (fun _ => ?_) (fun _ => ?_)
  · refine z_sub [0, 1, 2, 3, 4] rfl ?_
    exact z_widen (by omega) (by omega) (hk o2.2)
  · exact z_any hq0
set_option maxRecDepth 20000 in
set_option maxHeartbeats 4000000 in
theorem zl_5 {X : Cxt} (hX : okX X cL_law RL room_1 (some .boolean) 8) {Qo : Int32 → State → Prop} (hq0 : ∀ st, Qo 0 st) {C S : Nat} (h1 : C + 3 ≤ room_1.cells) (h2 : S + 18 ≤ room_1.slots) (b x m ou : Nat) (i : Int32) (kj : Mem → Option Int32) (hk : ∀ M, Zj X Qo (C + 3) (S + 18) 3165 [(0, .ref b), (1, .ref x), (2, .ref m), (3, .ref ou), (4, .int i)] [] M (kj M)) (M : Mem) : Zj X Qo C S 449 [(0, .ref b), (1, .ref x), (2, .ref m), (3, .ref ou), (4, .int i)] [] M (cs_5 b x m ou i kj M) := by
  have hc0 : C + 0 ≤ room_1.cells := Nat.le_trans (by omega) h1
  have hs0 : S + 0 ≤ room_1.slots := Nat.le_trans (by omega) h2
  have hc1 : C + 1 ≤ room_1.cells := Nat.le_trans (by omega) h1
  have hs1 : S + 6 ≤ room_1.slots := Nat.le_trans (by omega) h2
  have hc2 : C + 2 ≤ room_1.cells := Nat.le_trans (by omega) h1
  have hs2 : S + 12 ≤ room_1.slots := Nat.le_trans (by omega) h2
  have hc3 : C + 3 ≤ room_1.cells := Nat.le_trans (by omega) h1
  have hs3 : S + 18 ≤ room_1.slots := Nat.le_trans (by omega) h2
  unfold cs_5
  refine z_aload_n hX 1 rfl rfl dL_law_449 ?_
  refine z_cVIp (C' := C) (S' := S) 8 [] hX (fun l hl o ho => c_X8_voterCount l hl M x o ho) dL_law_450 (by decide) rfl rfl q_636 okV_X8_voterCount rfl ⟨(Nat.le_of_ble_eq_true rfl), (Nat.le_of_ble_eq_true rfl)⟩ rfl (Nat.le_of_ble_eq_true rfl) (Nat.add_zero _) (Nat.add_zero _) ⟨hc0, hs0⟩ (fun o1 => ?_)
  refine z_aload_n hX 2 rfl rfl dL_law_453 ?_
  refine z_cVIm (C' := C) (S' := S) 9 [] hX (fun l hl o ho => c_X9_voterCount l hl M m o ho) dL_law_454 (by decide) rfl rfl q_1567 okV_X9_voterCount rfl ⟨(Nat.le_of_ble_eq_true rfl), (Nat.le_of_ble_eq_true rfl)⟩ rfl (Nat.le_of_ble_eq_true rfl) (Nat.add_zero _) (Nat.add_zero _) ⟨hc0, hs0⟩ (fun o2 => ?_)
  refine z_icmp_eq hX 3165 (by decide) dL_law_457 (fun _ => ?_) (fun _ => ?_)
  · refine z_sub [0, 1, 2, 3, 4] rfl ?_
    exact z_widen (by omega) (by omega) (hk o2.2)
  · exact z_any hq0
set_option maxRecDepth 20000 in
set_option maxHeartbeats 4000000 in
theorem zl_6 {X : Cxt} (hX : okX X cL_law RL room_1 (some .boolean) 8) {Qo : Int32 → State → Prop} (hq0 : ∀ st, Qo 0 st) {C S : Nat} (h1 : C + 3 ≤ room_1.cells) (h2 : S + 18 ≤ room_1.slots) (b x m ou : Nat) (i : Int32) (kj : Mem → Option Int32) (hk : ∀ M, Zj X Qo (C + 3) (S + 18) 3165 [(0, .ref b), (1, .ref x), (2, .ref m), (3, .ref ou), (4, .int i)] [] M (kj M)) (M : Mem) : Zj X Qo C S 462 [(0, .ref b), (1, .ref x), (2, .ref m), (3, .ref ou), (4, .int i)] [] M (cs_6 b x m ou i kj M) := by
  have hc0 : C + 0 ≤ room_1.cells := Nat.le_trans (by omega) h1
  have hs0 : S + 0 ≤ room_1.slots := Nat.le_trans (by omega) h2
  have hc1 : C + 1 ≤ room_1.cells := Nat.le_trans (by omega) h1
  have hs1 : S + 6 ≤ room_1.slots := Nat.le_trans (by omega) h2
  have hc2 : C + 2 ≤ room_1.cells := Nat.le_trans (by omega) h1
  have hs2 : S + 12 ≤ room_1.slots := Nat.le_trans (by omega) h2
  have hc3 : C + 3 ≤ room_1.cells := Nat.le_trans (by omega) h1
  have hs3 : S + 18 ≤ room_1.slots := Nat.le_trans (by omega) h2
  unfold cs_6
  refine z_aload_n hX 1 rfl rfl dL_law_462 ?_
  refine z_cVIp (C' := C) (S' := S) 8 [] hX (fun l hl o ho => c_X8_undoCount l hl M x o ho) dL_law_463 (by decide) rfl rfl q_640 okV_X8_undoCount rfl ⟨(Nat.le_of_ble_eq_true rfl), (Nat.le_of_ble_eq_true rfl)⟩ rfl (Nat.le_of_ble_eq_true rfl) (Nat.add_zero _) (Nat.add_zero _) ⟨hc0, hs0⟩ (fun o1 => ?_)
  refine z_aload_n hX 2 rfl rfl dL_law_466 ?_
  refine z_cVIm (C' := C) (S' := S) 9 [] hX (fun l hl o ho => c_X9_undoCount l hl M m o ho) dL_law_467 (by decide) rfl rfl q_1447 okV_X9_undoCount rfl ⟨(Nat.le_of_ble_eq_true rfl), (Nat.le_of_ble_eq_true rfl)⟩ rfl (Nat.le_of_ble_eq_true rfl) (Nat.add_zero _) (Nat.add_zero _) ⟨hc0, hs0⟩ (fun o2 => ?_)
  refine z_icmp_eq hX 3165 (by decide) dL_law_470 (fun _ => ?_) (fun _ => ?_)
  · refine z_sub [0, 1, 2, 3, 4] rfl ?_
    exact z_widen (by omega) (by omega) (hk o2.2)
  · exact z_any hq0
set_option maxRecDepth 20000 in
set_option maxHeartbeats 4000000 in
theorem zl_7 {X : Cxt} (hX : okX X cL_law RL room_1 (some .boolean) 8) {Qo : Int32 → State → Prop} (hq0 : ∀ st, Qo 0 st) {C S : Nat} (h1 : C + 3 ≤ room_1.cells) (h2 : S + 18 ≤ room_1.slots) (b x m ou : Nat) (i : Int32) (kj : Mem → Option Int32) (hk : ∀ M, Zj X Qo (C + 3) (S + 18) 3165 [(0, .ref b), (1, .ref x), (2, .ref m), (3, .ref ou), (4, .int i)] [] M (kj M)) (M : Mem) : Zj X Qo C S 475 [(0, .ref b), (1, .ref x), (2, .ref m), (3, .ref ou), (4, .int i)] [] M (cs_7 b x m ou i kj M) := by
  have hc0 : C + 0 ≤ room_1.cells := Nat.le_trans (by omega) h1
  have hs0 : S + 0 ≤ room_1.slots := Nat.le_trans (by omega) h2
  have hc1 : C + 1 ≤ room_1.cells := Nat.le_trans (by omega) h1
  have hs1 : S + 6 ≤ room_1.slots := Nat.le_trans (by omega) h2
  have hc2 : C + 2 ≤ room_1.cells := Nat.le_trans (by omega) h1
  have hs2 : S + 12 ≤ room_1.slots := Nat.le_trans (by omega) h2
  have hc3 : C + 3 ≤ room_1.cells := Nat.le_trans (by omega) h1
  have hs3 : S + 18 ≤ room_1.slots := Nat.le_trans (by omega) h2
  unfold cs_7
  refine z_aload_n hX 1 rfl rfl dL_law_475 ?_
  refine z_aload_n hX 0 rfl rfl dL_law_476 ?_
  refine z_iload hX 4 rfl dL_law_477 ?_
  refine z_iconst (v := 1) hX (by decide) dL_law_479 ?_
  refine z_iadd hX dL_law_480 ?_
  refine z_aI hX dL_law_481 (fun x1 => ?_)
  refine z_cVIp (C' := C) (S' := S) 8 [.int x1] hX (fun l hl o ho => c_X8_districtNamed l hl M x x1 o ho) dL_law_482 (by decide) rfl rfl q_644 okV_X8_districtNamed rfl ⟨(Nat.le_of_ble_eq_true rfl), (Nat.le_of_ble_eq_true rfl)⟩ rfl (Nat.le_of_ble_eq_true rfl) (Nat.add_zero _) (Nat.add_zero _) ⟨hc0, hs0⟩ (fun o2 => ?_)
  refine z_aload_n hX 2 rfl rfl dL_law_485 ?_
  refine z_aload_n hX 0 rfl rfl dL_law_486 ?_
  refine z_iload hX 4 rfl dL_law_487 ?_
  refine z_iconst (v := 1) hX (by decide) dL_law_489 ?_
  refine z_iadd hX dL_law_490 ?_
  refine z_aI hX dL_law_491 (fun x3 => ?_)
  refine z_cVIm (C' := C) (S' := S) 9 [.int x3] hX (fun l hl o ho => c_X9_districtNamed l hl M m x3 o ho) dL_law_492 (by decide) rfl rfl q_1571 okV_X9_districtNamed rfl ⟨(Nat.le_of_ble_eq_true rfl), (Nat.le_of_ble_eq_true rfl)⟩ rfl (Nat.le_of_ble_eq_true rfl) (Nat.add_zero _) (Nat.add_zero _) ⟨hc0, hs0⟩ (fun o4 => ?_)
  refine z_icmp_eq hX 3165 (by decide) dL_law_495 (fun _ => ?_) (fun _ => ?_)
  · refine z_sub [0, 1, 2, 3, 4] rfl ?_
    exact z_widen (by omega) (by omega) (hk o4.2)
  · exact z_any hq0
set_option maxRecDepth 20000 in
set_option maxHeartbeats 4000000 in
theorem zl_8 {X : Cxt} (hX : okX X cL_law RL room_1 (some .boolean) 8) {Qo : Int32 → State → Prop} (hq0 : ∀ st, Qo 0 st) {C S : Nat} (h1 : C + 3 ≤ room_1.cells) (h2 : S + 18 ≤ room_1.slots) (b x m ou : Nat) (i : Int32) (kj : Mem → Option Int32) (hk : ∀ M, Zj X Qo (C + 3) (S + 18) 3165 [(0, .ref b), (1, .ref x), (2, .ref m), (3, .ref ou), (4, .int i)] [] M (kj M)) (M : Mem) : Zj X Qo C S 500 [(0, .ref b), (1, .ref x), (2, .ref m), (3, .ref ou), (4, .int i)] [] M (cs_8 b x m ou i kj M) := by
  have hc0 : C + 0 ≤ room_1.cells := Nat.le_trans (by omega) h1
  have hs0 : S + 0 ≤ room_1.slots := Nat.le_trans (by omega) h2
  have hc1 : C + 1 ≤ room_1.cells := Nat.le_trans (by omega) h1
  have hs1 : S + 6 ≤ room_1.slots := Nat.le_trans (by omega) h2
  have hc2 : C + 2 ≤ room_1.cells := Nat.le_trans (by omega) h1
  have hs2 : S + 12 ≤ room_1.slots := Nat.le_trans (by omega) h2
  have hc3 : C + 3 ≤ room_1.cells := Nat.le_trans (by omega) h1
  have hs3 : S + 18 ≤ room_1.slots := Nat.le_trans (by omega) h2
  unfold cs_8
  refine z_aload_n hX 1 rfl rfl dL_law_500 ?_
  refine z_aload_n hX 0 rfl rfl dL_law_501 ?_
  refine z_iload hX 4 rfl dL_law_502 ?_
  refine z_iconst (v := 1) hX (by decide) dL_law_504 ?_
  refine z_iadd hX dL_law_505 ?_
  refine z_aI hX dL_law_506 (fun x1 => ?_)
  refine z_cVIp (C' := C) (S' := S) 8 [.int x1] hX (fun l hl o ho => c_X8_projectNamed l hl M x x1 o ho) dL_law_507 (by decide) rfl rfl q_649 okV_X8_projectNamed rfl ⟨(Nat.le_of_ble_eq_true rfl), (Nat.le_of_ble_eq_true rfl)⟩ rfl (Nat.le_of_ble_eq_true rfl) (Nat.add_zero _) (Nat.add_zero _) ⟨hc0, hs0⟩ (fun o2 => ?_)
  refine z_aload_n hX 2 rfl rfl dL_law_510 ?_
  refine z_aload_n hX 0 rfl rfl dL_law_511 ?_
  refine z_iload hX 4 rfl dL_law_512 ?_
  refine z_iconst (v := 1) hX (by decide) dL_law_514 ?_
  refine z_iadd hX dL_law_515 ?_
  refine z_aI hX dL_law_516 (fun x3 => ?_)
  refine z_cVIm (C' := C) (S' := S) 9 [.int x3] hX (fun l hl o ho => c_X9_projectNamed l hl M m x3 o ho) dL_law_517 (by decide) rfl rfl q_1575 okV_X9_projectNamed rfl ⟨(Nat.le_of_ble_eq_true rfl), (Nat.le_of_ble_eq_true rfl)⟩ rfl (Nat.le_of_ble_eq_true rfl) (Nat.add_zero _) (Nat.add_zero _) ⟨hc0, hs0⟩ (fun o4 => ?_)
  refine z_icmp_eq hX 3165 (by decide) dL_law_520 (fun _ => ?_) (fun _ => ?_)
  · refine z_sub [0, 1, 2, 3, 4] rfl ?_
    exact z_widen (by omega) (by omega) (hk o4.2)
  · exact z_any hq0
set_option maxRecDepth 20000 in
set_option maxHeartbeats 4000000 in
theorem zl_9 {X : Cxt} (hX : okX X cL_law RL room_1 (some .boolean) 8) {Qo : Int32 → State → Prop} (hq0 : ∀ st, Qo 0 st) {C S : Nat} (h1 : C + 3 ≤ room_1.cells) (h2 : S + 18 ≤ room_1.slots) (b x m ou : Nat) (i : Int32) (kj : Mem → Option Int32) (hk : ∀ M, Zj X Qo (C + 3) (S + 18) 3165 [(0, .ref b), (1, .ref x), (2, .ref m), (3, .ref ou), (4, .int i)] [] M (kj M)) (M : Mem) : Zj X Qo C S 525 [(0, .ref b), (1, .ref x), (2, .ref m), (3, .ref ou), (4, .int i)] [] M (cs_9 b x m ou i kj M) := by
  have hc0 : C + 0 ≤ room_1.cells := Nat.le_trans (by omega) h1
  have hs0 : S + 0 ≤ room_1.slots := Nat.le_trans (by omega) h2
  have hc1 : C + 1 ≤ room_1.cells := Nat.le_trans (by omega) h1
  have hs1 : S + 6 ≤ room_1.slots := Nat.le_trans (by omega) h2
  have hc2 : C + 2 ≤ room_1.cells := Nat.le_trans (by omega) h1
  have hs2 : S + 12 ≤ room_1.slots := Nat.le_trans (by omega) h2
  have hc3 : C + 3 ≤ room_1.cells := Nat.le_trans (by omega) h1
  have hs3 : S + 18 ≤ room_1.slots := Nat.le_trans (by omega) h2
  unfold cs_9
  refine z_aload_n hX 1 rfl rfl dL_law_525 ?_
  refine z_aload_n hX 0 rfl rfl dL_law_526 ?_
  refine z_iload hX 4 rfl dL_law_527 ?_
  refine z_iconst (v := 1) hX (by decide) dL_law_529 ?_
  refine z_iadd hX dL_law_530 ?_
  refine z_aI hX dL_law_531 (fun x1 => ?_)
  refine z_aload_n hX 3 rfl rfl dL_law_532 ?_
  refine z_cSw (C' := C + 1) (S' := S + 6) [.ref x, .int x1, .ref ou] hX (fun l hl o ho => cw_L_budgetOf l hl M x x1 ou o ho) dL_law_533 q_994 okW_L_budgetOf rfl ⟨(Nat.le_of_ble_eq_true rfl), (Nat.le_of_ble_eq_true rfl)⟩ rfl (Nat.le_of_ble_eq_true rfl) rfl rfl ⟨hc1, hs1⟩ (fun o2 => ?_)
  refine z_istore hX [(5, .int o2.1), (0, .ref b), (1, .ref x), (2, .ref m), (3, .ref ou), (4, .int i)] (by decide) rfl dL_law_536 ?_
  refine z_aload_n hX 3 rfl rfl dL_law_538 ?_
  refine z_aload_n hX 1 rfl rfl dL_law_539 ?_
  refine z_iload hX 5 rfl dL_law_540 ?_
  refine z_iconst (v := 1) hX (by decide) dL_law_542 ?_
  refine z_iadd hX dL_law_543 ?_
  refine z_aI hX dL_law_544 (fun x3 => ?_)
  refine z_cVIm (C' := (C + 1)) (S' := (S + 6)) 9 [.int x3] hX (fun l hl o ho => c_X9_budgetOf l hl o2.2 m x3 o ho) dL_law_545 (by decide) rfl rfl q_1579 okV_X9_budgetOf rfl ⟨(Nat.le_of_ble_eq_true rfl), (Nat.le_of_ble_eq_true rfl)⟩ rfl (Nat.le_of_ble_eq_true rfl) (Nat.add_zero _) (Nat.add_zero _) ⟨hc1, hs1⟩ (fun o4 => ?_)
  refine z_istore hX [(6, .int o4.1), (5, .int o2.1), (0, .ref b), (1, .ref x), (2, .ref m), (3, .ref ou), (4, .int i)] (by decide) rfl dL_law_548 ?_
  refine z_aload_n hX 4 rfl rfl dL_law_550 ?_
  refine z_cVIp (C' := (C + 1)) (S' := (S + 6)) 9 [] hX (fun l hl o ho => c_X9_thrown l hl o4.2 m o ho) dL_law_551 (by decide) rfl rfl q_1439 okV_X9_thrown rfl ⟨(Nat.le_of_ble_eq_true rfl), (Nat.le_of_ble_eq_true rfl)⟩ rfl (Nat.le_of_ble_eq_true rfl) (Nat.add_zero _) (Nat.add_zero _) ⟨hc1, hs1⟩ (fun o5 => ?_)
  refine z_iload hX 1 rfl dL_law_554 ?_
  refine z_icmp_eq hX 561 (by decide) dL_law_556 (fun _ => ?_) (fun _ => ?_)
  · refine z_iload hX 1 rfl dL_law_561 ?_
    refine z_if_ne hX 578 (by decide) dL_law_563 (fun _ => ?_) (fun _ => ?_)
    · refine z_goto hX 3165 (by decide) dL_law_578 ?_
      refine z_sub [2, 3, 4, 5, 6] rfl ?_
      exact z_widen (by omega) (by omega) (hk o4.2)
    · refine z_aload_n hX 5 rfl rfl dL_law_566 ?_
      refine z_iconst (v := 0) hX (by decide) dL_law_567 ?_
      refine z_aL hX dL_law_568 (fun x6 => ?_)
      refine z_iload hX 0 rfl dL_law_569 ?_
      refine z_i2l hX rfl dL_law_571 ?_
      refine z_lcmp hX dL_law_572 ?_
      refine z_if_eq hX 578 (by decide) dL_law_573 (fun _ => ?_) (fun _ => ?_)
      · refine z_goto hX 3165 (by decide) dL_law_578 ?_
        refine z_sub [2, 3, 4, 5, 6] rfl ?_
        exact z_widen (by omega) (by omega) (hk o4.2)
      · exact z_any hq0
  · exact z_any hq0
