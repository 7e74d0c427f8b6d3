theorem dL_law_1980 : decode cL_law 1980 = .ok (.aload_n 1, 1) := by decide +kernel
theorem dL_law_1981 : decode cL_law 1981 = .ok (.aload_n 0, 1) := by decide +kernel
theorem dL_law_1982 : decode cL_law 1982 = .ok (.iload 4, 2) := by decide +kernel
theorem dL_law_1984 : decode cL_law 1984 = .ok (.iconst 1, 1) := by decide +kernel
theorem dL_law_1985 : decode cL_law 1985 = .ok (.iadd, 1) := by decide +kernel
theorem dL_law_1986 : decode cL_law 1986 = .ok (.iaload, 1) := by decide +kernel
theorem dL_law_1987 : decode cL_law 1987 = .ok (.invokevirtual 261, 3) := by decide +kernel
theorem dL_law_1990 : decode cL_law 1990 = .ok (.aload_n 2, 1) := by decide +kernel
theorem dL_law_1991 : decode cL_law 1991 = .ok (.aload_n 0, 1) := by decide +kernel
theorem dL_law_1992 : decode cL_law 1992 = .ok (.iload 4, 2) := by decide +kernel
theorem dL_law_1994 : decode cL_law 1994 = .ok (.iconst 1, 1) := by decide +kernel
theorem dL_law_1995 : decode cL_law 1995 = .ok (.iadd, 1) := by decide +kernel
theorem dL_law_1996 : decode cL_law 1996 = .ok (.iaload, 1) := by decide +kernel
theorem dL_law_1997 : decode cL_law 1997 = .ok (.invokevirtual 265, 3) := by decide +kernel
theorem dL_law_2000 : decode cL_law 2000 = .ok (.if_icmp .eq 1165, 3) := by decide +kernel
theorem dL_law_2005 : decode cL_law 2005 = .ok (.aload_n 1, 1) := by decide +kernel
theorem dL_law_2006 : decode cL_law 2006 = .ok (.aload_n 0, 1) := by decide +kernel
theorem dL_law_2007 : decode cL_law 2007 = .ok (.iload 4, 2) := by decide +kernel
theorem dL_law_2009 : decode cL_law 2009 = .ok (.iconst 1, 1) := by decide +kernel
theorem dL_law_2010 : decode cL_law 2010 = .ok (.iadd, 1) := by decide +kernel
theorem dL_law_2011 : decode cL_law 2011 = .ok (.iaload, 1) := by decide +kernel
theorem dL_law_2012 : decode cL_law 2012 = .ok (.aload_n 0, 1) := by decide +kernel
theorem dL_law_2013 : decode cL_law 2013 = .ok (.iload 4, 2) := by decide +kernel
theorem dL_law_2015 : decode cL_law 2015 = .ok (.iconst 2, 1) := by decide +kernel
theorem dL_law_2016 : decode cL_law 2016 = .ok (.iadd, 1) := by decide +kernel
theorem dL_law_2017 : decode cL_law 2017 = .ok (.iaload, 1) := by decide +kernel
theorem dL_law_2018 : decode cL_law 2018 = .ok (.invokevirtual 266, 3) := by decide +kernel
theorem dL_law_2021 : decode cL_law 2021 = .ok (.aload_n 2, 1) := by decide +kernel
theorem dL_law_2022 : decode cL_law 2022 = .ok (.aload_n 0, 1) := by decide +kernel
theorem dL_law_2023 : decode cL_law 2023 = .ok (.iload 4, 2) := by decide +kernel
theorem dL_law_2025 : decode cL_law 2025 = .ok (.iconst 1, 1) := by decide +kernel
theorem dL_law_2026 : decode cL_law 2026 = .ok (.iadd, 1) := by decide +kernel
theorem dL_law_2027 : decode cL_law 2027 = .ok (.iaload, 1) := by decide +kernel
theorem dL_law_2028 : decode cL_law 2028 = .ok (.aload_n 0, 1) := by decide +kernel
theorem dL_law_2029 : decode cL_law 2029 = .ok (.iload 4, 2) := by decide +kernel
theorem dL_law_2031 : decode cL_law 2031 = .ok (.iconst 2, 1) := by decide +kernel
theorem dL_law_2032 : decode cL_law 2032 = .ok (.iadd, 1) := by decide +kernel
theorem dL_law_2033 : decode cL_law 2033 = .ok (.iaload, 1) := by decide +kernel
theorem dL_law_2034 : decode cL_law 2034 = .ok (.invokevirtual 269, 3) := by decide +kernel
theorem dL_law_2037 : decode cL_law 2037 = .ok (.if_icmp .eq 1128, 3) := by decide +kernel
theorem dL_law_2042 : decode cL_law 2042 = .ok (.aload_n 1, 1) := by decide +kernel
theorem dL_law_2043 : decode cL_law 2043 = .ok (.aload_n 0, 1) := by decide +kernel
theorem dL_law_2044 : decode cL_law 2044 = .ok (.iload 4, 2) := by decide +kernel
theorem dL_law_2046 : decode cL_law 2046 = .ok (.iconst 1, 1) := by decide +kernel
theorem dL_law_2047 : decode cL_law 2047 = .ok (.iadd, 1) := by decide +kernel
theorem dL_law_2048 : decode cL_law 2048 = .ok (.iaload, 1) := by decide +kernel
theorem dL_law_2049 : decode cL_law 2049 = .ok (.invokevirtual 270, 3) := by decide +kernel
theorem dL_law_2052 : decode cL_law 2052 = .ok (.aload_n 2, 1) := by decide +kernel
theorem dL_law_2053 : decode cL_law 2053 = .ok (.aload_n 0, 1) := by decide +kernel
theorem dL_law_2054 : decode cL_law 2054 = .ok (.iload 4, 2) := by decide +kernel
theorem dL_law_2056 : decode cL_law 2056 = .ok (.iconst 1, 1) := by decide +kernel
theorem dL_law_2057 : decode cL_law 2057 = .ok (.iadd, 1) := by decide +kernel
theorem dL_law_2058 : decode cL_law 2058 = .ok (.iaload, 1) := by decide +kernel
theorem dL_law_2059 : decode cL_law 2059 = .ok (.invokevirtual 273, 3) := by decide +kernel
theorem dL_law_2062 : decode cL_law 2062 = .ok (.if_icmp .eq 1103, 3) := by decide +kernel
theorem dL_law_2067 : decode cL_law 2067 = .ok (.aload_n 1, 1) := by decide +kernel
theorem dL_law_2068 : decode cL_law 2068 = .ok (.aload_n 0, 1) := by decide +kernel
theorem dL_law_2069 : decode cL_law 2069 = .ok (.iload 4, 2) := by decide +kernel
theorem dL_law_2071 : decode cL_law 2071 = .ok (.iconst 1, 1) := by decide +kernel
theorem dL_law_2072 : decode cL_law 2072 = .ok (.iadd, 1) := by decide +kernel
theorem dL_law_2073 : decode cL_law 2073 = .ok (.iaload, 1) := by decide +kernel
theorem dL_law_2074 : decode cL_law 2074 = .ok (.invokevirtual 274, 3) := by decide +kernel
theorem dL_law_2077 : decode cL_law 2077 = .ok (.aload_n 2, 1) := by decide +kernel
theorem dL_law_2078 : decode cL_law 2078 = .ok (.aload_n 0, 1) := by decide +kernel
theorem dL_law_2079 : decode cL_law 2079 = .ok (.iload 4, 2) := by decide +kernel
theorem dL_law_2081 : decode cL_law 2081 = .ok (.iconst 1, 1) := by decide +kernel
theorem dL_law_2082 : decode cL_law 2082 = .ok (.iadd, 1) := by decide +kernel
theorem dL_law_2083 : decode cL_law 2083 = .ok (.iaload, 1) := by decide +kernel
theorem dL_law_2084 : decode cL_law 2084 = .ok (.invokevirtual 277, 3) := by decide +kernel
theorem dL_law_2087 : decode cL_law 2087 = .ok (.lcmp, 1) := by decide +kernel
theorem dL_law_2088 : decode cL_law 2088 = .ok (.ifCond .eq 1077, 3) := by decide +kernel
set_option maxRecDepth 20000 in
set_option maxHeartbeats 4000000 in
theorem zl_39 {X : Cxt} (hX : okX X cL_law RL room_1 (some .boolean) 8) {Qo : Int32 → State → Prop} (hq0 : ∀ st, Qo 0 st) {C S : Nat} (h1 : C + 3 ≤ room_1.cells) (h2 : S + 18 ≤ room_1.slots) (b x m ou : Nat) (i : Int32) (kj : Mem → Option Int32) (hk : ∀ M, Zj X Qo (C + 3) (S + 18) 3165 [(0, .ref b), (1, .ref x), (2, .ref m), (3, .ref ou), (4, .int i)] [] M (kj M)) (M : Mem) : Zj X Qo C S 1980 [(0, .ref b), (1, .ref x), (2, .ref m), (3, .ref ou), (4, .int i)] [] M (cs_39 b x m ou i kj M) := by
  have hc0 : C + 0 ≤ room_1.cells := Nat.le_trans (by omega) h1
  have hs0 : S + 0 ≤ room_1.slots := Nat.le_trans (by omega) h2
  have hc1 : C + 1 ≤ room_1.cells := Nat.le_trans (by omega) h1
  have hs1 : S + 6 ≤ room_1.slots := Nat.le_trans (by omega) h2
  have hc2 : C + 2 ≤ room_1.cells := Nat.le_trans (by omega) h1
  have hs2 : S + 12 ≤ room_1.slots := Nat.le_trans (by omega) h2
  have hc3 : C + 3 ≤ room_1.cells := Nat.le_trans (by omega) h1
  have hs3 : S + 18 ≤ room_1.slots := Nat.le_trans (by omega) h2
  unfold cs_39
  refine z_aload_n hX 1 rfl rfl dL_law_1980 ?_
  refine z_aload_n hX 0 rfl rfl dL_law_1981 ?_
  refine z_iload hX 4 rfl dL_law_1982 ?_
  refine z_iconst (v := 1) hX (by decide) dL_law_1984 ?_
  refine z_iadd hX dL_law_1985 ?_
  refine z_aI hX dL_law_1986 (fun x1 => ?_)
  refine z_cVIm (C' := C) (S' := S) 8 [.int x1] hX (fun l hl o ho => c_X8_canBePaid l hl M x x1 o ho) dL_law_1987 (by decide) rfl rfl q_927 okV_X8_canBePaid rfl ⟨(Nat.le_of_ble_eq_true rfl), (Nat.le_of_ble_eq_true rfl)⟩ rfl (Nat.le_of_ble_eq_true rfl) (Nat.add_zero _) (Nat.add_zero _) ⟨hc0, hs0⟩ (fun o2 => ?_)
  refine z_aload_n hX 2 rfl rfl dL_law_1990 ?_
  refine z_aload_n hX 0 rfl rfl dL_law_1991 ?_
  refine z_iload hX 4 rfl dL_law_1992 ?_
  refine z_iconst (v := 1) hX (by decide) dL_law_1994 ?_
  refine z_iadd hX dL_law_1995 ?_
  refine z_aI hX dL_law_1996 (fun x3 => ?_)
  refine z_cVIm (C' := C) (S' := S) 9 [.int x3] hX (fun l hl o ho => c_X9_canBePaid l hl o2.2 m x3 o ho) dL_law_1997 (by decide) rfl rfl q_1848 okV_X9_canBePaid rfl ⟨(Nat.le_of_ble_eq_true rfl), (Nat.le_of_ble_eq_true rfl)⟩ rfl (Nat.le_of_ble_eq_true rfl) (Nat.add_zero _) (Nat.add_zero _) ⟨hc0, hs0⟩ (fun o4 => ?_)
  refine z_icmp_eq hX 3165 (by decide) dL_law_2000 (fun _ => ?_) (fun _ => ?_)
  · refine z_sub [0, 1, 2, 3, 4] rfl ?_
    exact z_widen (by omega) (by omega) (hk o4.2)
  · exact z_any hq0
set_option maxRecDepth 20000 in
set_option maxHeartbeats 4000000 in
theorem zl_40 {X : Cxt} (hX : okX X cL_law RL room_1 (some .boolean) 8) {Qo : Int32 → State → Prop} (hq0 : ∀ st, Qo 0 st) {C S : Nat} (h1 : C + 3 ≤ room_1.cells) (h2 : S + 18 ≤ room_1.slots) (b x m ou : Nat) (i : Int32) (kj : Mem → Option Int32) (hk : ∀ M, Zj X Qo (C + 3) (S + 18) 3165 [(0, .ref b), (1, .ref x), (2, .ref m), (3, .ref ou), (4, .int i)] [] M (kj M)) (M : Mem) : Zj X Qo C S 2005 [(0, .ref b), (1, .ref x), (2, .ref m), (3, .ref ou), (4, .int i)] [] M (cs_40 b x m ou i kj M) := by
  have hc0 : C + 0 ≤ room_1.cells := Nat.le_trans (by omega) h1
  have hs0 : S + 0 ≤ room_1.slots := Nat.le_trans (by omega) h2
  have hc1 : C + 1 ≤ room_1.cells := Nat.le_trans (by omega) h1
  have hs1 : S + 6 ≤ room_1.slots := Nat.le_trans (by omega) h2
  have hc2 : C + 2 ≤ room_1.cells := Nat.le_trans (by omega) h1
  have hs2 : S + 12 ≤ room_1.slots := Nat.le_trans (by omega) h2
  have hc3 : C + 3 ≤ room_1.cells := Nat.le_trans (by omega) h1
  have hs3 : S + 18 ≤ room_1.slots := Nat.le_trans (by omega) h2
  unfold cs_40
  refine z_aload_n hX 1 rfl rfl dL_law_2005 ?_
  refine z_aload_n hX 0 rfl rfl dL_law_2006 ?_
  refine z_iload hX 4 rfl dL_law_2007 ?_
  refine z_iconst (v := 1) hX (by decide) dL_law_2009 ?_
  refine z_iadd hX dL_law_2010 ?_
  refine z_aI hX dL_law_2011 (fun x1 => ?_)
  refine z_aload_n hX 0 rfl rfl dL_law_2012 ?_
  refine z_iload hX 4 rfl dL_law_2013 ?_
  refine z_iconst (v := 2) hX (by decide) dL_law_2015 ?_
  refine z_iadd hX dL_law_2016 ?_
  refine z_aI hX dL_law_2017 (fun x2 => ?_)
  refine z_cVIm (C' := C) (S' := S) 8 [.int x1, .int x2] hX (fun l hl o ho => c_X8_common l hl M x x1 x2 o ho) dL_law_2018 (by decide) rfl rfl q_876 okV_X8_common rfl ⟨(Nat.le_of_ble_eq_true rfl), (Nat.le_of_ble_eq_true rfl)⟩ rfl (Nat.le_of_ble_eq_true rfl) (Nat.add_zero _) (Nat.add_zero _) ⟨hc0, hs0⟩ (fun o3 => ?_)
  refine z_aload_n hX 2 rfl rfl dL_law_2021 ?_
  refine z_aload_n hX 0 rfl rfl dL_law_2022 ?_
  refine z_iload hX 4 rfl dL_law_2023 ?_
  refine z_iconst (v := 1) hX (by decide) dL_law_2025 ?_
  refine z_iadd hX dL_law_2026 ?_
  refine z_aI hX dL_law_2027 (fun x4 => ?_)
  refine z_aload_n hX 0 rfl rfl dL_law_2028 ?_
  refine z_iload hX 4 rfl dL_law_2029 ?_
  refine z_iconst (v := 2) hX (by decide) dL_law_2031 ?_
  refine z_iadd hX dL_law_2032 ?_
  refine z_aI hX dL_law_2033 (fun x5 => ?_)
  refine z_cVIm (C' := C) (S' := S) 9 [.int x4, .int x5] hX (fun l hl o ho => c_X9_common l hl o3.2 m x4 x5 o ho) dL_law_2034 (by decide) rfl rfl q_1852 okV_X9_common rfl ⟨(Nat.le_of_ble_eq_true rfl), (Nat.le_of_ble_eq_true rfl)⟩ rfl (Nat.le_of_ble_eq_true rfl) (Nat.add_zero _) (Nat.add_zero _) ⟨hc0, hs0⟩ (fun o6 => ?_)
  refine z_icmp_eq hX 3165 (by decide) dL_law_2037 (fun _ => ?_) (fun _ => ?_)
  · refine z_sub [0, 1, 2, 3, 4] rfl ?_
    exact z_widen (by omega) (by omega) (hk o6.2)
  · exact z_any hq0
set_option maxRecDepth 20000 in
set_option maxHeartbeats 4000000 in
theorem zl_41 {X : Cxt} (hX : okX X cL_law RL room_1 (some .boolean) 8) {Qo : Int32 → State → Prop} (hq0 : ∀ st, Qo 0 st) {C S : Nat} (h1 : C + 3 ≤ room_1.cells) (h2 : S + 18 ≤ room_1.slots) (b x m ou : Nat) (i : Int32) (kj : Mem → Option Int32) (hk : ∀ M, Zj X Qo (C + 3) (S + 18) 3165 [(0, .ref b), (1, .ref x), (2, .ref m), (3, .ref ou), (4, .int i)] [] M (kj M)) (M : Mem) : Zj X Qo C S 2042 [(0, .ref b), (1, .ref x), (2, .ref m), (3, .ref ou), (4, .int i)] [] M (cs_41 b x m ou i kj M) := by
  have hc0 : C + 0 ≤ room_1.cells := Nat.le_trans (by omega) h1
  have hs0 : S + 0 ≤ room_1.slots := Nat.le_trans (by omega) h2
  have hc1 : C + 1 ≤ room_1.cells := Nat.le_trans (by omega) h1
  have hs1 : S + 6 ≤ room_1.slots := Nat.le_trans (by omega) h2
  have hc2 : C + 2 ≤ room_1.cells := Nat.le_trans (by omega) h1
  have hs2 : S + 12 ≤ room_1.slots := Nat.le_trans (by omega) h2
  have hc3 : C + 3 ≤ room_1.cells := Nat.le_trans (by omega) h1
  have hs3 : S + 18 ≤ room_1.slots := Nat.le_trans (by omega) h2
  unfold cs_41
  refine z_aload_n hX 1 rfl rfl dL_law_2042 ?_
  refine z_aload_n hX 0 rfl rfl dL_law_2043 ?_
  refine z_iload hX 4 rfl dL_law_2044 ?_
  refine z_iconst (v := 1) hX (by decide) dL_law_2046 ?_
  refine z_iadd hX dL_law_2047 ?_
  refine z_aI hX dL_law_2048 (fun x1 => ?_)
  refine z_cVIm (C' := C) (S' := S) 8 [.int x1] hX (fun l hl o ho => c_X8_spread l hl M x x1 o ho) dL_law_2049 (by decide) rfl rfl q_892 okV_X8_spread rfl ⟨(Nat.le_of_ble_eq_true rfl), (Nat.le_of_ble_eq_true rfl)⟩ rfl (Nat.le_of_ble_eq_true rfl) (Nat.add_zero _) (Nat.add_zero _) ⟨hc0, hs0⟩ (fun o2 => ?_)
  refine z_aload_n hX 2 rfl rfl dL_law_2052 ?_
  refine z_aload_n hX 0 rfl rfl dL_law_2053 ?_
  refine z_iload hX 4 rfl dL_law_2054 ?_
  refine z_iconst (v := 1) hX (by decide) dL_law_2056 ?_
  refine z_iadd hX dL_law_2057 ?_
  refine z_aI hX dL_law_2058 (fun x3 => ?_)
  refine z_cVIm (C' := C) (S' := S) 9 [.int x3] hX (fun l hl o ho => c_X9_spread l hl o2.2 m x3 o ho) dL_law_2059 (by decide) rfl rfl q_1860 okV_X9_spread rfl ⟨(Nat.le_of_ble_eq_true rfl), (Nat.le_of_ble_eq_true rfl)⟩ rfl (Nat.le_of_ble_eq_true rfl) (Nat.add_zero _) (Nat.add_zero _) ⟨hc0, hs0⟩ (fun o4 => ?_)
  refine z_icmp_eq hX 3165 (by decide) dL_law_2062 (fun _ => ?_) (fun _ => ?_)
  · refine z_sub [0, 1, 2, 3, 4] rfl ?_
    exact z_widen (by omega) (by omega) (hk o4.2)
  · exact z_any hq0
set_option maxRecDepth 20000 in
set_option maxHeartbeats 4000000 in
theorem zl_42 {X : Cxt} (hX : okX X cL_law RL room_1 (some .boolean) 8) {Qo : Int32 → State → Prop} (hq0 : ∀ st, Qo 0 st) {C S : Nat} (h1 : C + 3 ≤ room_1.cells) (h2 : S + 18 ≤ room_1.slots) (b x m ou : Nat) (i : Int32) (kj : Mem → Option Int32) (hk : ∀ M, Zj X Qo (C + 3) (S + 18) 3165 [(0, .ref b), (1, .ref x), (2, .ref m), (3, .ref ou), (4, .int i)] [] M (kj M)) (M : Mem) : Zj X Qo C S 2067 [(0, .ref b), (1, .ref x), (2, .ref m), (3, .ref ou), (4, .int i)] [] M (cs_42 b x m ou i kj M) := by
  have hc0 : C + 0 ≤ room_1.cells := Nat.le_trans (by omega) h1
  have hs0 : S + 0 ≤ room_1.slots := Nat.le_trans (by omega) h2
  have hc1 : C + 1 ≤ room_1.cells := Nat.le_trans (by omega) h1
  have hs1 : S + 6 ≤ room_1.slots := Nat.le_trans (by omega) h2
  have hc2 : C + 2 ≤ room_1.cells := Nat.le_trans (by omega) h1
  have hs2 : S + 12 ≤ room_1.slots := Nat.le_trans (by omega) h2
  have hc3 : C + 3 ≤ room_1.cells := Nat.le_trans (by omega) h1
  have hs3 : S + 18 ≤ room_1.slots := Nat.le_trans (by omega) h2
  unfold cs_42
  refine z_aload_n hX 1 rfl rfl dL_law_2067 ?_
  refine z_aload_n hX 0 rfl rfl dL_law_2068 ?_
  refine z_iload hX 4 rfl dL_law_2069 ?_
  refine z_iconst (v := 1) hX (by decide) dL_law_2071 ?_
  refine z_iadd hX dL_law_2072 ?_
  refine z_aI hX dL_law_2073 (fun x1 => ?_)
  refine z_cVJm (C' := C) (S' := S) 8 [.int x1] hX (fun l hl o ho => c_X8_loss l hl M x x1 o ho) dL_law_2074 (by decide) rfl rfl q_880 okV_X8_loss rfl ⟨(Nat.le_of_ble_eq_true rfl), (Nat.le_of_ble_eq_true rfl)⟩ rfl (Nat.le_of_ble_eq_true rfl) (Nat.add_zero _) (Nat.add_zero _) ⟨hc0, hs0⟩ (fun o2 => ?_)
  refine z_aload_n hX 2 rfl rfl dL_law_2077 ?_
  refine z_aload_n hX 0 rfl rfl dL_law_2078 ?_
  refine z_iload hX 4 rfl dL_law_2079 ?_
  refine z_iconst (v := 1) hX (by decide) dL_law_2081 ?_
  refine z_iadd hX dL_law_2082 ?_
  refine z_aI hX dL_law_2083 (fun x3 => ?_)
  refine z_cVJm (C' := C) (S' := S) 9 [.int x3] hX (fun l hl o ho => c_X9_loss l hl o2.2 m x3 o ho) dL_law_2084 (by decide) rfl rfl q_1864 okV_X9_loss rfl ⟨(Nat.le_of_ble_eq_true rfl), (Nat.le_of_ble_eq_true rfl)⟩ rfl (Nat.le_of_ble_eq_true rfl) (Nat.add_zero _) (Nat.add_zero _) ⟨hc0, hs0⟩ (fun o4 => ?_)
  refine z_lcmp hX dL_law_2087 ?_
  refine z_if_eq hX 3165 (by decide) dL_law_2088 (fun _ => ?_) (fun _ => ?_)
  · refine z_sub [0, 1, 2, 3, 4] rfl ?_
    exact z_widen (by omega) (by omega) (hk o4.2)
  · exact z_any hq0
