/-! ===== the law's loop (wip/whole/gen/mk_loop.py) ===== -/
section
variable {M : Mem} {b x L i : Nat} {xs : Nat → Int32} {S : St}
theorem law_turn (c1 : ∀ (M : Mem) (i : Nat) (S : St), GI b x L xs M S → i + 5 < L → ∀ kj : Mem → Option Int32, (∀ M' S', GI b x L xs M' S' → kj M' = some 1) → cs_1 b x (x + 377) (x + 396) (Int32.ofNat i) kj M = some 1) (h : GI b x L xs M S) (hi : i + 5 < L) {w : Int32} {rec : Int32 × Mem → Option Int32} (hk : ∀ M' S', GI b x L xs M' S' → rec (Int32.ofNat i + 6, M') = some 1) : (if w &&& 63 = Int32.ofNat 0 then cs_0 b x (x + 377) (x + 396) (Int32.ofNat i) (fun M => rec (Int32.ofNat i + 6, M)) M else if w &&& 63 = Int32.ofNat 1 then cs_1 b x (x + 377) (x + 396) (Int32.ofNat i) (fun M => rec (Int32.ofNat i + 6, M)) M else if w &&& 63 = Int32.ofNat 2 then cs_2 b x (x + 377) (x + 396) (Int32.ofNat i) (fun M => rec (Int32.ofNat i + 6, M)) M else if w &&& 63 = Int32.ofNat 3 then cs_3 b x (x + 377) (x + 396) (Int32.ofNat i) (fun M => rec (Int32.ofNat i + 6, M)) M else if w &&& 63 = Int32.ofNat 4 then cs_4 b x (x + 377) (x + 396) (Int32.ofNat i) (fun M => rec (Int32.ofNat i + 6, M)) M else if w &&& 63 = Int32.ofNat 5 then cs_5 b x (x + 377) (x + 396) (Int32.ofNat i) (fun M => rec (Int32.ofNat i + 6, M)) M else if w &&& 63 = Int32.ofNat 6 then cs_6 b x (x + 377) (x + 396) (Int32.ofNat i) (fun M => rec (Int32.ofNat i + 6, M)) M else if w &&& 63 = Int32.ofNat 7 then cs_7 b x (x + 377) (x + 396) (Int32.ofNat i) (fun M => rec (Int32.ofNat i + 6, M)) M else if w &&& 63 = Int32.ofNat 8 then cs_8 b x (x + 377) (x + 396) (Int32.ofNat i) (fun M => rec (Int32.ofNat i + 6, M)) M else if w &&& 63 = Int32.ofNat 9 then cs_9 b x (x + 377) (x + 396) (Int32.ofNat i) (fun M => rec (Int32.ofNat i + 6, M)) M else if w &&& 63 = Int32.ofNat 10 then cs_10 b x (x + 377) (x + 396) (Int32.ofNat i) (fun M => rec (Int32.ofNat i + 6, M)) M else if w &&& 63 = Int32.ofNat 11 then cs_11 b x (x + 377) (x + 396) (Int32.ofNat i) (fun M => rec (Int32.ofNat i + 6, M)) M else if w &&& 63 = Int32.ofNat 12 then cs_12 b x (x + 377) (x + 396) (Int32.ofNat i) (fun M => rec (Int32.ofNat i + 6, M)) M else if w &&& 63 = Int32.ofNat 13 then cs_13 b x (x + 377) (x + 396) (Int32.ofNat i) (fun M => rec (Int32.ofNat i + 6, M)) M else if w &&& 63 = Int32.ofNat 14 then cs_14 b x (x + 377) (x + 396) (Int32.ofNat i) (fun M => rec (Int32.ofNat i + 6, M)) M else if w &&& 63 = Int32.ofNat 15 then cs_15 b x (x + 377) (x + 396) (Int32.ofNat i) (fun M => rec (Int32.ofNat i + 6, M)) M else if w &&& 63 = Int32.ofNat 16 then cs_16 b x (x + 377) (x + 396) (Int32.ofNat i) (fun M => rec (Int32.ofNat i + 6, M)) M else if w &&& 63 = Int32.ofNat 17 then cs_17 b x (x + 377) (x + 396) (Int32.ofNat i) (fun M => rec (Int32.ofNat i + 6, M)) M else if w &&& 63 = Int32.ofNat 18 then cs_18 b x (x + 377) (x + 396) (Int32.ofNat i) (fun M => rec (Int32.ofNat i + 6, M)) M else if w &&& 63 = Int32.ofNat 19 then cs_19 b x (x + 377) (x + 396) (Int32.ofNat i) (fun M => rec (Int32.ofNat i + 6, M)) M else if w &&& 63 = Int32.ofNat 20 then cs_20 b x (x + 377) (x + 396) (Int32.ofNat i) (fun M => rec (Int32.ofNat i + 6, M)) M else if w &&& 63 = Int32.ofNat 21 then cs_21 b x (x + 377) (x + 396) (Int32.ofNat i) (fun M => rec (Int32.ofNat i + 6, M)) M else if w &&& 63 = Int32.ofNat 22 then cs_22 b x (x + 377) (x + 396) (Int32.ofNat i) (fun M => rec (Int32.ofNat i + 6, M)) M else if w &&& 63 = Int32.ofNat 23 then cs_23 b x (x + 377) (x + 396) (Int32.ofNat i) (fun M => rec (Int32.ofNat i + 6, M)) M else if w &&& 63 = Int32.ofNat 24 then cs_24 b x (x + 377) (x + 396) (Int32.ofNat i) (fun M => rec (Int32.ofNat i + 6, M)) M else if w &&& 63 = Int32.ofNat 25 then cs_25 b x (x + 377) (x + 396) (Int32.ofNat i) (fun M => rec (Int32.ofNat i + 6, M)) M else if w &&& 63 = Int32.ofNat 26 then cs_26 b x (x + 377) (x + 396) (Int32.ofNat i) (fun M => rec (Int32.ofNat i + 6, M)) M else if w &&& 63 = Int32.ofNat 27 then cs_27 b x (x + 377) (x + 396) (Int32.ofNat i) (fun M => rec (Int32.ofNat i + 6, M)) M else if w &&& 63 = Int32.ofNat 28 then cs_28 b x (x + 377) (x + 396) (Int32.ofNat i) (fun M => rec (Int32.ofNat i + 6, M)) M else if w &&& 63 = Int32.ofNat 29 then cs_29 b x (x + 377) (x + 396) (Int32.ofNat i) (fun M => rec (Int32.ofNat i + 6, M)) M else if w &&& 63 = Int32.ofNat 30 then cs_30 b x (x + 377) (x + 396) (Int32.ofNat i) (fun M => rec (Int32.ofNat i + 6, M)) M else if w &&& 63 = Int32.ofNat 31 then cs_31 b x (x + 377) (x + 396) (Int32.ofNat i) (fun M => rec (Int32.ofNat i + 6, M)) M else if w &&& 63 = Int32.ofNat 32 then cs_32 b x (x + 377) (x + 396) (Int32.ofNat i) (fun M => rec (Int32.ofNat i + 6, M)) M else if w &&& 63 = Int32.ofNat 33 then cs_33 b x (x + 377) (x + 396) (Int32.ofNat i) (fun M => rec (Int32.ofNat i + 6, M)) M else if w &&& 63 = Int32.ofNat 34 then cs_34 b x (x + 377) (x + 396) (Int32.ofNat i) (fun M => rec (Int32.ofNat i + 6, M)) M else if w &&& 63 = Int32.ofNat 35 then cs_35 b x (x + 377) (x + 396) (Int32.ofNat i) (fun M => rec (Int32.ofNat i + 6, M)) M else if w &&& 63 = Int32.ofNat 36 then cs_36 b x (x + 377) (x + 396) (Int32.ofNat i) (fun M => rec (Int32.ofNat i + 6, M)) M else if w &&& 63 = Int32.ofNat 37 then cs_37 b x (x + 377) (x + 396) (Int32.ofNat i) (fun M => rec (Int32.ofNat i + 6, M)) M else if w &&& 63 = Int32.ofNat 38 then cs_38 b x (x + 377) (x + 396) (Int32.ofNat i) (fun M => rec (Int32.ofNat i + 6, M)) M else if w &&& 63 = Int32.ofNat 39 then cs_39 b x (x + 377) (x + 396) (Int32.ofNat i) (fun M => rec (Int32.ofNat i + 6, M)) M else if w &&& 63 = Int32.ofNat 40 then cs_40 b x (x + 377) (x + 396) (Int32.ofNat i) (fun M => rec (Int32.ofNat i + 6, M)) M else if w &&& 63 = Int32.ofNat 41 then cs_41 b x (x + 377) (x + 396) (Int32.ofNat i) (fun M => rec (Int32.ofNat i + 6, M)) M else if w &&& 63 = Int32.ofNat 42 then cs_42 b x (x + 377) (x + 396) (Int32.ofNat i) (fun M => rec (Int32.ofNat i + 6, M)) M else if w &&& 63 = Int32.ofNat 43 then cs_43 b x (x + 377) (x + 396) (Int32.ofNat i) (fun M => rec (Int32.ofNat i + 6, M)) M else if w &&& 63 = Int32.ofNat 44 then cs_44 b x (x + 377) (x + 396) (Int32.ofNat i) (fun M => rec (Int32.ofNat i + 6, M)) M else if w &&& 63 = Int32.ofNat 45 then cs_45 b x (x + 377) (x + 396) (Int32.ofNat i) (fun M => rec (Int32.ofNat i + 6, M)) M else if w &&& 63 = Int32.ofNat 46 then cs_46 b x (x + 377) (x + 396) (Int32.ofNat i) (fun M => rec (Int32.ofNat i + 6, M)) M else if w &&& 63 = Int32.ofNat 47 then cs_47 b x (x + 377) (x + 396) (Int32.ofNat i) (fun M => rec (Int32.ofNat i + 6, M)) M else if w &&& 63 = Int32.ofNat 48 then cs_48 b x (x + 377) (x + 396) (Int32.ofNat i) (fun M => rec (Int32.ofNat i + 6, M)) M else if w &&& 63 = Int32.ofNat 49 then cs_49 b x (x + 377) (x + 396) (Int32.ofNat i) (fun M => rec (Int32.ofNat i + 6, M)) M else if w &&& 63 = Int32.ofNat 50 then cs_50 b x (x + 377) (x + 396) (Int32.ofNat i) (fun M => rec (Int32.ofNat i + 6, M)) M else if w &&& 63 = Int32.ofNat 51 then cs_51 b x (x + 377) (x + 396) (Int32.ofNat i) (fun M => rec (Int32.ofNat i + 6, M)) M else if w &&& 63 = Int32.ofNat 52 then cs_52 b x (x + 377) (x + 396) (Int32.ofNat i) (fun M => rec (Int32.ofNat i + 6, M)) M else if w &&& 63 = Int32.ofNat 53 then cs_53 b x (x + 377) (x + 396) (Int32.ofNat i) (fun M => rec (Int32.ofNat i + 6, M)) M else if w &&& 63 = Int32.ofNat 54 then cs_54 b x (x + 377) (x + 396) (Int32.ofNat i) (fun M => rec (Int32.ofNat i + 6, M)) M else if w &&& 63 = Int32.ofNat 55 then cs_55 b x (x + 377) (x + 396) (Int32.ofNat i) (fun M => rec (Int32.ofNat i + 6, M)) M else if w &&& 63 = Int32.ofNat 56 then cs_56 b x (x + 377) (x + 396) (Int32.ofNat i) (fun M => rec (Int32.ofNat i + 6, M)) M else if w &&& 63 = Int32.ofNat 57 then cs_57 b x (x + 377) (x + 396) (Int32.ofNat i) (fun M => rec (Int32.ofNat i + 6, M)) M else if w &&& 63 = Int32.ofNat 58 then cs_58 b x (x + 377) (x + 396) (Int32.ofNat i) (fun M => rec (Int32.ofNat i + 6, M)) M else if w &&& 63 = Int32.ofNat 59 then cs_59 b x (x + 377) (x + 396) (Int32.ofNat i) (fun M => rec (Int32.ofNat i + 6, M)) M else if w &&& 63 = Int32.ofNat 60 then cs_60 b x (x + 377) (x + 396) (Int32.ofNat i) (fun M => rec (Int32.ofNat i + 6, M)) M else if w &&& 63 = Int32.ofNat 61 then cs_61 b x (x + 377) (x + 396) (Int32.ofNat i) (fun M => rec (Int32.ofNat i + 6, M)) M else if w &&& 63 = Int32.ofNat 62 then cs_62 b x (x + 377) (x + 396) (Int32.ofNat i) (fun M => rec (Int32.ofNat i + 6, M)) M else if w &&& 63 = Int32.ofNat 63 then cs_63 b x (x + 377) (x + 396) (Int32.ofNat i) (fun M => rec (Int32.ofNat i + 6, M)) M else rec (Int32.ofNat i + 6, M)) = some 1 := by
  have hk' : ∀ M' S', GI b x L xs M' S' → (fun M => rec (Int32.ofNat i + 6, M)) M' = some 1 := hk
  by_cases e0 : w &&& 63 = Int32.ofNat 0
  · rw [if_pos e0]
    exact cs_0_ok h hi hk'
  rw [if_neg e0]
  by_cases e1 : w &&& 63 = Int32.ofNat 1
  · rw [if_pos e1]
    exact c1 M i S h hi _ hk'
  rw [if_neg e1]
  by_cases e2 : w &&& 63 = Int32.ofNat 2
  · rw [if_pos e2]
    exact cs_2_ok h hi hk'
  rw [if_neg e2]
  by_cases e3 : w &&& 63 = Int32.ofNat 3
  · rw [if_pos e3]
    exact cs_3_ok h hi hk'
  rw [if_neg e3]
  by_cases e4 : w &&& 63 = Int32.ofNat 4
  · rw [if_pos e4]
    exact cs_4_ok h hi hk'
  rw [if_neg e4]
  by_cases e5 : w &&& 63 = Int32.ofNat 5
  · rw [if_pos e5]
    exact cs_5_ok h hi hk'
  rw [if_neg e5]
  by_cases e6 : w &&& 63 = Int32.ofNat 6
  · rw [if_pos e6]
    exact cs_6_ok h hi hk'
  rw [if_neg e6]
  by_cases e7 : w &&& 63 = Int32.ofNat 7
  · rw [if_pos e7]
    exact cs_7_ok h hi hk'
  rw [if_neg e7]
  by_cases e8 : w &&& 63 = Int32.ofNat 8
  · rw [if_pos e8]
    exact cs_8_ok h hi hk'
  rw [if_neg e8]
  by_cases e9 : w &&& 63 = Int32.ofNat 9
  · rw [if_pos e9]
    exact cs_9_ok h hi hk'
  rw [if_neg e9]
  by_cases e10 : w &&& 63 = Int32.ofNat 10
  · rw [if_pos e10]
    exact cs_10_ok h hi hk'
  rw [if_neg e10]
  by_cases e11 : w &&& 63 = Int32.ofNat 11
  · rw [if_pos e11]
    exact cs_11_ok h hi hk'
  rw [if_neg e11]
  by_cases e12 : w &&& 63 = Int32.ofNat 12
  · rw [if_pos e12]
    exact cs_12_ok h hi hk'
  rw [if_neg e12]
  by_cases e13 : w &&& 63 = Int32.ofNat 13
  · rw [if_pos e13]
    exact cs_13_ok h hi hk'
  rw [if_neg e13]
  by_cases e14 : w &&& 63 = Int32.ofNat 14
  · rw [if_pos e14]
    exact cs_14_ok h hi hk'
  rw [if_neg e14]
  by_cases e15 : w &&& 63 = Int32.ofNat 15
  · rw [if_pos e15]
    exact cs_15_ok h hi hk'
  rw [if_neg e15]
  by_cases e16 : w &&& 63 = Int32.ofNat 16
  · rw [if_pos e16]
    exact cs_16_ok h hi hk'
  rw [if_neg e16]
  by_cases e17 : w &&& 63 = Int32.ofNat 17
  · rw [if_pos e17]
    exact cs_17_ok h hi hk'
  rw [if_neg e17]
  by_cases e18 : w &&& 63 = Int32.ofNat 18
  · rw [if_pos e18]
    exact cs_18_ok h hi hk'
  rw [if_neg e18]
  by_cases e19 : w &&& 63 = Int32.ofNat 19
  · rw [if_pos e19]
    exact cs_19_ok h hi hk'
  rw [if_neg e19]
  by_cases e20 : w &&& 63 = Int32.ofNat 20
  · rw [if_pos e20]
    exact cs_20_ok h hi hk'
  rw [if_neg e20]
  by_cases e21 : w &&& 63 = Int32.ofNat 21
  · rw [if_pos e21]
    exact cs_21_ok h hi hk'
  rw [if_neg e21]
  by_cases e22 : w &&& 63 = Int32.ofNat 22
  · rw [if_pos e22]
    exact cs_22_ok h hi hk'
  rw [if_neg e22]
  by_cases e23 : w &&& 63 = Int32.ofNat 23
  · rw [if_pos e23]
    exact cs_23_ok h hi hk'
  rw [if_neg e23]
  by_cases e24 : w &&& 63 = Int32.ofNat 24
  · rw [if_pos e24]
    exact cs_24_ok h hi hk'
  rw [if_neg e24]
  by_cases e25 : w &&& 63 = Int32.ofNat 25
  · rw [if_pos e25]
    exact cs_25_ok h hi hk'
  rw [if_neg e25]
  by_cases e26 : w &&& 63 = Int32.ofNat 26
  · rw [if_pos e26]
    exact cs_26_ok h hi hk'
  rw [if_neg e26]
  by_cases e27 : w &&& 63 = Int32.ofNat 27
  · rw [if_pos e27]
    exact cs_27_ok h hi hk'
  rw [if_neg e27]
  by_cases e28 : w &&& 63 = Int32.ofNat 28
  · rw [if_pos e28]
    exact cs_28_ok h hi hk'
  rw [if_neg e28]
  by_cases e29 : w &&& 63 = Int32.ofNat 29
  · rw [if_pos e29]
    exact cs_29_ok h hi hk'
  rw [if_neg e29]
  by_cases e30 : w &&& 63 = Int32.ofNat 30
  · rw [if_pos e30]
    exact cs_30_ok h hi hk'
  rw [if_neg e30]
  by_cases e31 : w &&& 63 = Int32.ofNat 31
  · rw [if_pos e31]
    exact cs_31_ok h hi hk'
  rw [if_neg e31]
  by_cases e32 : w &&& 63 = Int32.ofNat 32
  · rw [if_pos e32]
    exact cs_32_ok h hi hk'
  rw [if_neg e32]
  by_cases e33 : w &&& 63 = Int32.ofNat 33
  · rw [if_pos e33]
    exact cs_33_ok h hi hk'
  rw [if_neg e33]
  by_cases e34 : w &&& 63 = Int32.ofNat 34
  · rw [if_pos e34]
    exact cs_34_ok h hi hk'
  rw [if_neg e34]
  by_cases e35 : w &&& 63 = Int32.ofNat 35
  · rw [if_pos e35]
    exact cs_35_ok h hi hk'
  rw [if_neg e35]
  by_cases e36 : w &&& 63 = Int32.ofNat 36
  · rw [if_pos e36]
    exact cs_36_ok h hi hk'
  rw [if_neg e36]
  by_cases e37 : w &&& 63 = Int32.ofNat 37
  · rw [if_pos e37]
    exact cs_37_ok h hi hk'
  rw [if_neg e37]
  by_cases e38 : w &&& 63 = Int32.ofNat 38
  · rw [if_pos e38]
    exact cs_38_ok h hi hk'
  rw [if_neg e38]
  by_cases e39 : w &&& 63 = Int32.ofNat 39
  · rw [if_pos e39]
    exact cs_39_ok h hi hk'
  rw [if_neg e39]
  by_cases e40 : w &&& 63 = Int32.ofNat 40
  · rw [if_pos e40]
    exact cs_40_ok h hi hk'
  rw [if_neg e40]
  by_cases e41 : w &&& 63 = Int32.ofNat 41
  · rw [if_pos e41]
    exact cs_41_ok h hi hk'
  rw [if_neg e41]
  by_cases e42 : w &&& 63 = Int32.ofNat 42
  · rw [if_pos e42]
    exact cs_42_ok h hi hk'
  rw [if_neg e42]
  by_cases e43 : w &&& 63 = Int32.ofNat 43
  · rw [if_pos e43]
    exact cs_43_ok h hi hk'
  rw [if_neg e43]
  by_cases e44 : w &&& 63 = Int32.ofNat 44
  · rw [if_pos e44]
    exact cs_44_ok h hi hk'
  rw [if_neg e44]
  by_cases e45 : w &&& 63 = Int32.ofNat 45
  · rw [if_pos e45]
    exact cs_45_ok h hi hk'
  rw [if_neg e45]
  by_cases e46 : w &&& 63 = Int32.ofNat 46
  · rw [if_pos e46]
    exact cs_46_ok h hi hk'
  rw [if_neg e46]
  by_cases e47 : w &&& 63 = Int32.ofNat 47
  · rw [if_pos e47]
    exact cs_47_ok h hi hk'
  rw [if_neg e47]
  by_cases e48 : w &&& 63 = Int32.ofNat 48
  · rw [if_pos e48]
    exact cs_48_ok h hi hk'
  rw [if_neg e48]
  by_cases e49 : w &&& 63 = Int32.ofNat 49
  · rw [if_pos e49]
    exact cs_49_ok h hi hk'
  rw [if_neg e49]
  by_cases e50 : w &&& 63 = Int32.ofNat 50
  · rw [if_pos e50]
    exact cs_50_ok h hi hk'
  rw [if_neg e50]
  by_cases e51 : w &&& 63 = Int32.ofNat 51
  · rw [if_pos e51]
    exact cs_51_ok h hi hk'
  rw [if_neg e51]
  by_cases e52 : w &&& 63 = Int32.ofNat 52
  · rw [if_pos e52]
    exact cs_52_ok h hi hk'
  rw [if_neg e52]
  by_cases e53 : w &&& 63 = Int32.ofNat 53
  · rw [if_pos e53]
    exact cs_53_ok h hi hk'
  rw [if_neg e53]
  by_cases e54 : w &&& 63 = Int32.ofNat 54
  · rw [if_pos e54]
    exact cs_54_ok h hi hk'
  rw [if_neg e54]
  by_cases e55 : w &&& 63 = Int32.ofNat 55
  · rw [if_pos e55]
    exact cs_55_ok h hi hk'
  rw [if_neg e55]
  by_cases e56 : w &&& 63 = Int32.ofNat 56
  · rw [if_pos e56]
    exact cs_56_ok h hi hk'
  rw [if_neg e56]
  by_cases e57 : w &&& 63 = Int32.ofNat 57
  · rw [if_pos e57]
    exact cs_57_ok h hi hk'
  rw [if_neg e57]
  by_cases e58 : w &&& 63 = Int32.ofNat 58
  · rw [if_pos e58]
    exact cs_58_ok h hi hk'
  rw [if_neg e58]
  by_cases e59 : w &&& 63 = Int32.ofNat 59
  · rw [if_pos e59]
    exact cs_59_ok h hi hk'
  rw [if_neg e59]
  by_cases e60 : w &&& 63 = Int32.ofNat 60
  · rw [if_pos e60]
    exact cs_60_ok h hi hk'
  rw [if_neg e60]
  by_cases e61 : w &&& 63 = Int32.ofNat 61
  · rw [if_pos e61]
    exact cs_61_ok h hi hk'
  rw [if_neg e61]
  by_cases e62 : w &&& 63 = Int32.ofNat 62
  · rw [if_pos e62]
    exact cs_62_ok h hi hk'
  rw [if_neg e62]
  by_cases e63 : w &&& 63 = Int32.ofNat 63
  · rw [if_pos e63]
    exact cs_63_ok h hi hk'
  rw [if_neg e63]
  exact hk M S h
theorem law_loop (c1 : ∀ (M : Mem) (i : Nat) (S : St), GI b x L xs M S → i + 5 < L → ∀ kj : Mem → Option Int32, (∀ M' S', GI b x L xs M' S' → kj M' = some 1) → cs_1 b x (x + 377) (x + 396) (Int32.ofNat i) kj M = some 1) (h : GI b x L xs M S) : it_ (bd_law b x (x + 377) (x + 396)) 600 (0, M) = some 1 := by
  have hL := h.1.1.2.1
  have hK := h.1.1.1
  refine eq_ok ?_
  refine ok.it (fun y : Int32 × Mem => ∃ k S, y.1 = Int32.ofNat k ∧ k ≤ L + 6 ∧ GI b x L xs y.2 S) (fun y => (L - ix y.1) / 6) ?_ 600 (0, M) ⟨0, S, rfl, by omega, h⟩ ?_
  · rintro rec ⟨_, M1⟩ ⟨k, S1, rfl, hk, h1⟩ hrec
    dsimp only at h1
    have n1 : aN M1 b = some (Int32.ofNat L) := aN_e h1.1.1.1 (Or.inr rfl)
    have six : (Int32.ofNat L - 6).toInt = (L : Int) - 6 := by
      have e6 : (6 : Int32).toInt = 6 := rfl
      rw [fb_subI] <;> rw [i_toInt (by omega), e6] <;> omega
    unfold bd_law
    dsimp only
    rw [n1, bs]
    by_cases c : Int32.ofNat L - 6 < Int32.ofNat k
    · rw [if_pos c]
      exact ok.pure rfl
    · rw [if_neg c]
      rw [lt_i, six, i_toInt (by omega)] at c
      have hi : k + 5 < L := by omega
      rw [sc_at h1 (k := k) (by omega), bs]
      have e := law_turn c1 h1 hi (w := xs k) (rec := fun y => rec y) (fun M' S' h' => ?_)
      · rw [e]
        exact ok.pure rfl
      · have e6 : Int32.ofNat k + 6 = Int32.ofNat (k + 6) := i_add k 6
        obtain ⟨z, z1, z2⟩ := hrec (Int32.ofNat k + 6, M') ⟨k + 6, S', e6, by omega, h'⟩ (by
          dsimp only
          rw [e6, ix_o (by omega), ix_o (by omega)]
          omega)
        rw [z1, z2]
  · show (L - ix (Int32.ofNat 0)) / 6 < 600
    rw [ix_o (by omega)]
    omega
end
