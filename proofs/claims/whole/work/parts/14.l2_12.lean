theorem dL_law_1843 : decode cL_law 1843 = .ok (.aload_n 1, 1) := by decide +kernel
theorem dL_law_1844 : decode cL_law 1844 = .ok (.aload_n 0, 1) := by decide +kernel
theorem dL_law_1845 : decode cL_law 1845 = .ok (.iload 4, 2) := by decide +kernel
theorem dL_law_1847 : decode cL_law 1847 = .ok (.iconst 1, 1) := by decide +kernel
theorem dL_law_1848 : decode cL_law 1848 = .ok (.iadd, 1) := by decide +kernel
theorem dL_law_1849 : decode cL_law 1849 = .ok (.iaload, 1) := by decide +kernel
theorem dL_law_1850 : decode cL_law 1850 = .ok (.invokevirtual 251, 3) := by decide +kernel
theorem dL_law_1853 : decode cL_law 1853 = .ok (.aload_n 2, 1) := by decide +kernel
theorem dL_law_1854 : decode cL_law 1854 = .ok (.aload_n 0, 1) := by decide +kernel
theorem dL_law_1855 : decode cL_law 1855 = .ok (.iload 4, 2) := by decide +kernel
theorem dL_law_1857 : decode cL_law 1857 = .ok (.iconst 1, 1) := by decide +kernel
theorem dL_law_1858 : decode cL_law 1858 = .ok (.iadd, 1) := by decide +kernel
theorem dL_law_1859 : decode cL_law 1859 = .ok (.iaload, 1) := by decide +kernel
theorem dL_law_1860 : decode cL_law 1860 = .ok (.invokevirtual 254, 3) := by decide +kernel
theorem dL_law_1863 : decode cL_law 1863 = .ok (.if_icmp .eq 1302, 3) := by decide +kernel
theorem dL_law_1868 : decode cL_law 1868 = .ok (.aload_n 1, 1) := by decide +kernel
theorem dL_law_1869 : decode cL_law 1869 = .ok (.aload_n 0, 1) := by decide +kernel
theorem dL_law_1870 : decode cL_law 1870 = .ok (.iload 4, 2) := by decide +kernel
theorem dL_law_1872 : decode cL_law 1872 = .ok (.iconst 1, 1) := by decide +kernel
theorem dL_law_1873 : decode cL_law 1873 = .ok (.iadd, 1) := by decide +kernel
theorem dL_law_1874 : decode cL_law 1874 = .ok (.iaload, 1) := by decide +kernel
theorem dL_law_1875 : decode cL_law 1875 = .ok (.aload_n 3, 1) := by decide +kernel
theorem dL_law_1876 : decode cL_law 1876 = .ok (.invokestatic 255, 3) := by decide +kernel
theorem dL_law_1879 : decode cL_law 1879 = .ok (.istore 5, 2) := by decide +kernel
theorem dL_law_1881 : decode cL_law 1881 = .ok (.aload_n 2, 1) := by decide +kernel
theorem dL_law_1882 : decode cL_law 1882 = .ok (.aload_n 0, 1) := by decide +kernel
theorem dL_law_1883 : decode cL_law 1883 = .ok (.iload 4, 2) := by decide +kernel
theorem dL_law_1885 : decode cL_law 1885 = .ok (.iconst 1, 1) := by decide +kernel
theorem dL_law_1886 : decode cL_law 1886 = .ok (.iadd, 1) := by decide +kernel
theorem dL_law_1887 : decode cL_law 1887 = .ok (.iaload, 1) := by decide +kernel
theorem dL_law_1888 : decode cL_law 1888 = .ok (.invokevirtual 257, 3) := by decide +kernel
theorem dL_law_1891 : decode cL_law 1891 = .ok (.istore 6, 2) := by decide +kernel
theorem dL_law_1893 : decode cL_law 1893 = .ok (.aload_n 2, 1) := by decide +kernel
theorem dL_law_1894 : decode cL_law 1894 = .ok (.invokevirtual 159, 3) := by decide +kernel
theorem dL_law_1897 : decode cL_law 1897 = .ok (.iload 5, 2) := by decide +kernel
theorem dL_law_1899 : decode cL_law 1899 = .ok (.if_icmp .eq 5, 3) := by decide +kernel
theorem dL_law_1904 : decode cL_law 1904 = .ok (.iload 5, 2) := by decide +kernel
theorem dL_law_1906 : decode cL_law 1906 = .ok (.ifCond .ne 15, 3) := by decide +kernel
theorem dL_law_1909 : decode cL_law 1909 = .ok (.aload_n 3, 1) := by decide +kernel
theorem dL_law_1910 : decode cL_law 1910 = .ok (.iconst 0, 1) := by decide +kernel
theorem dL_law_1911 : decode cL_law 1911 = .ok (.laload, 1) := by decide +kernel
theorem dL_law_1912 : decode cL_law 1912 = .ok (.iload 6, 2) := by decide +kernel
theorem dL_law_1914 : decode cL_law 1914 = .ok (.i2l, 1) := by decide +kernel
theorem dL_law_1915 : decode cL_law 1915 = .ok (.lcmp, 1) := by decide +kernel
theorem dL_law_1916 : decode cL_law 1916 = .ok (.ifCond .eq 5, 3) := by decide +kernel
theorem dL_law_1921 : decode cL_law 1921 = .ok (.goto 1244, 3) := by decide +kernel
theorem dL_law_1924 : decode cL_law 1924 = .ok (.aload_n 1, 1) := by decide +kernel
theorem dL_law_1925 : decode cL_law 1925 = .ok (.aload_n 0, 1) := by decide +kernel
theorem dL_law_1926 : decode cL_law 1926 = .ok (.iload 4, 2) := by decide +kernel
theorem dL_law_1928 : decode cL_law 1928 = .ok (.iconst 1, 1) := by decide +kernel
theorem dL_law_1929 : decode cL_law 1929 = .ok (.iadd, 1) := by decide +kernel
theorem dL_law_1930 : decode cL_law 1930 = .ok (.iaload, 1) := by decide +kernel
theorem dL_law_1931 : decode cL_law 1931 = .ok (.aload_n 3, 1) := by decide +kernel
theorem dL_law_1932 : decode cL_law 1932 = .ok (.invokestatic 258, 3) := by decide +kernel
theorem dL_law_1935 : decode cL_law 1935 = .ok (.istore 5, 2) := by decide +kernel
theorem dL_law_1937 : decode cL_law 1937 = .ok (.aload_n 2, 1) := by decide +kernel
theorem dL_law_1938 : decode cL_law 1938 = .ok (.aload_n 0, 1) := by decide +kernel
theorem dL_law_1939 : decode cL_law 1939 = .ok (.iload 4, 2) := by decide +kernel
theorem dL_law_1941 : decode cL_law 1941 = .ok (.iconst 1, 1) := by decide +kernel
theorem dL_law_1942 : decode cL_law 1942 = .ok (.iadd, 1) := by decide +kernel
theorem dL_law_1943 : decode cL_law 1943 = .ok (.iaload, 1) := by decide +kernel
theorem dL_law_1944 : decode cL_law 1944 = .ok (.invokevirtual 260, 3) := by decide +kernel
theorem dL_law_1947 : decode cL_law 1947 = .ok (.istore 6, 2) := by decide +kernel
theorem dL_law_1949 : decode cL_law 1949 = .ok (.aload_n 2, 1) := by decide +kernel
theorem dL_law_1950 : decode cL_law 1950 = .ok (.invokevirtual 159, 3) := by decide +kernel
theorem dL_law_1953 : decode cL_law 1953 = .ok (.iload 5, 2) := by decide +kernel
theorem dL_law_1955 : decode cL_law 1955 = .ok (.if_icmp .eq 5, 3) := by decide +kernel
theorem dL_law_1960 : decode cL_law 1960 = .ok (.iload 5, 2) := by decide +kernel
theorem dL_law_1962 : decode cL_law 1962 = .ok (.ifCond .ne 15, 3) := by decide +kernel
theorem dL_law_1965 : decode cL_law 1965 = .ok (.aload_n 3, 1) := by decide +kernel
theorem dL_law_1966 : decode cL_law 1966 = .ok (.iconst 0, 1) := by decide +kernel
theorem dL_law_1967 : decode cL_law 1967 = .ok (.laload, 1) := by decide +kernel
theorem dL_law_1968 : decode cL_law 1968 = .ok (.iload 6, 2) := by decide +kernel
theorem dL_law_1970 : decode cL_law 1970 = .ok (.i2l, 1) := by decide +kernel
theorem dL_law_1971 : decode cL_law 1971 = .ok (.lcmp, 1) := by decide +kernel
theorem dL_law_1972 : decode cL_law 1972 = .ok (.ifCond .eq 5, 3) := by decide +kernel
theorem dL_law_1977 : decode cL_law 1977 = .ok (.goto 1188, 3) := by decide +kernel
set_option maxRecDepth 20000 in
set_option maxHeartbeats 4000000 in
theorem zl_36 {X : Cxt} (hX : okX X cL_law RL room_1 (some .boolean) 8) {Qo : Int32 → State → Prop} (hq0 : ∀ st, Qo 0 st) {C S : Nat} (h1 : C + 3 ≤ room_1.cells) (h2 : S + 18 ≤ room_1.slots) (b x m ou : Nat) (i : Int32) (kj : Mem → Option Int32) (hk : ∀ M, Zj X Qo (C + 3) (S + 18) 3165 [(0, .ref b), (1, .ref x), (2, .ref m), (3, .ref ou), (4, .int i)] [] M (kj M)) (M : Mem) : Zj X Qo C S 1843 [(0, .ref b), (1, .ref x), (2, .ref m), (3, .ref ou), (4, .int i)] [] M (cs_36 b x m ou i kj M) := by
  have hc0 : C + 0 ≤ room_1.cells := Nat.le_trans (by omega) h1
  have hs0 : S + 0 ≤ room_1.slots := Nat.le_trans (by omega) h2
  have hc1 : C + 1 ≤ room_1.cells := Nat.le_trans (by omega) h1
  have hs1 : S + 6 ≤ room_1.slots := Nat.le_trans (by omega) h2
  have hc2 : C + 2 ≤ room_1.cells := Nat.le_trans (by omega) h1
  have hs2 : S + 12 ≤ room_1.slots := Nat.le_trans (by omega) h2
  have hc3 : C + 3 ≤ room_1.cells := Nat.le_trans (by omega) h1
  have hs3 : S + 18 ≤ room_1.slots := Nat.le_trans (by omega) h2
  unfold cs_36
  refine z_aload_n hX 1 rfl rfl dL_law_1843 ?_
  refine z_aload_n hX 0 rfl rfl dL_law_1844 ?_
  refine z_iload hX 4 rfl dL_law_1845 ?_
  refine z_iconst (v := 1) hX (by decide) dL_law_1847 ?_
  refine z_iadd hX dL_law_1848 ?_
  refine z_aI hX dL_law_1849 (fun x1 => ?_)
  refine z_cVIm (C' := C) (S' := S) 8 [.int x1] hX (fun l hl o ho => c_X8_unjust l hl M x x1 o ho) dL_law_1850 (by decide) rfl rfl q_908 okV_X8_unjust rfl ⟨(Nat.le_of_ble_eq_true rfl), (Nat.le_of_ble_eq_true rfl)⟩ rfl (Nat.le_of_ble_eq_true rfl) (Nat.add_zero _) (Nat.add_zero _) ⟨hc0, hs0⟩ (fun o2 => ?_)
  refine z_aload_n hX 2 rfl rfl dL_law_1853 ?_
  refine z_aload_n hX 0 rfl rfl dL_law_1854 ?_
  refine z_iload hX 4 rfl dL_law_1855 ?_
  refine z_iconst (v := 1) hX (by decide) dL_law_1857 ?_
  refine z_iadd hX dL_law_1858 ?_
  refine z_aI hX dL_law_1859 (fun x3 => ?_)
  refine z_cVIm (C' := C) (S' := S) 9 [.int x3] hX (fun l hl o ho => c_X9_unjust l hl o2.2 m x3 o ho) dL_law_1860 (by decide) rfl rfl q_1832 okV_X9_unjust rfl ⟨(Nat.le_of_ble_eq_true rfl), (Nat.le_of_ble_eq_true rfl)⟩ rfl (Nat.le_of_ble_eq_true rfl) (Nat.add_zero _) (Nat.add_zero _) ⟨hc0, hs0⟩ (fun o4 => ?_)
  refine z_icmp_eq hX 3165 (by decide) dL_law_1863 (fun _ => ?_) (fun _ => ?_)
  · refine z_sub [0, 1, 2, 3, 4] rfl ?_
    exact z_widen (by omega) (by omega) (hk o4.2)
  · exact z_any hq0
set_option maxRecDepth 20000 in
set_option maxHeartbeats 4000000 in
theorem zl_37 {X : Cxt} (hX : okX X cL_law RL room_1 (some .boolean) 8) {Qo : Int32 → State → Prop} (hq0 : ∀ st, Qo 0 st) {C S : Nat} (h1 : C + 3 ≤ room_1.cells) (h2 : S + 18 ≤ room_1.slots) (b x m ou : Nat) (i : Int32) (kj : Mem → Option Int32) (hk : ∀ M, Zj X Qo (C + 3) (S + 18) 3165 [(0, .ref b), (1, .ref x), (2, .ref m), (3, .ref ou), (4, .int i)] [] M (kj M)) (M : Mem) : Zj X Qo C S 1868 [(0, .ref b), (1, .ref x), (2, .ref m), (3, .ref ou), (4, .int i)] [] M (cs_37 b x m ou i kj M) := by
  have hc0 : C + 0 ≤ room_1.cells := Nat.le_trans (by omega) h1
  have hs0 : S + 0 ≤ room_1.slots := Nat.le_trans (by omega) h2
  have hc1 : C + 1 ≤ room_1.cells := Nat.le_trans (by omega) h1
  have hs1 : S + 6 ≤ room_1.slots := Nat.le_trans (by omega) h2
  have hc2 : C + 2 ≤ room_1.cells := Nat.le_trans (by omega) h1
  have hs2 : S + 12 ≤ room_1.slots := Nat.le_trans (by omega) h2
  have hc3 : C + 3 ≤ room_1.cells := Nat.le_trans (by omega) h1
  have hs3 : S + 18 ≤ room_1.slots := Nat.le_trans (by omega) h2
  unfold cs_37
  refine z_aload_n hX 1 rfl rfl dL_law_1868 ?_
  refine z_aload_n hX 0 rfl rfl dL_law_1869 ?_
  refine z_iload hX 4 rfl dL_law_1870 ?_
  refine z_iconst (v := 1) hX (by decide) dL_law_1872 ?_
  refine z_iadd hX dL_law_1873 ?_
  refine z_aI hX dL_law_1874 (fun x1 => ?_)
  refine z_aload_n hX 3 rfl rfl dL_law_1875 ?_
  refine z_cSw (C' := C + 1) (S' := S + 6) [.ref x, .int x1, .ref ou] hX (fun l hl o ho => cw_L_changedWithout l hl M x x1 ou o ho) dL_law_1876 q_1190 okW_L_changedWithout rfl ⟨(Nat.le_of_ble_eq_true rfl), (Nat.le_of_ble_eq_true rfl)⟩ rfl (Nat.le_of_ble_eq_true rfl) rfl rfl ⟨hc1, hs1⟩ (fun o2 => ?_)
  refine z_istore hX [(5, .int o2.1), (0, .ref b), (1, .ref x), (2, .ref m), (3, .ref ou), (4, .int i)] (by decide) rfl dL_law_1879 ?_
  refine z_aload_n hX 3 rfl rfl dL_law_1881 ?_
  refine z_aload_n hX 1 rfl rfl dL_law_1882 ?_
  refine z_iload hX 5 rfl dL_law_1883 ?_
  refine z_iconst (v := 1) hX (by decide) dL_law_1885 ?_
  refine z_iadd hX dL_law_1886 ?_
  refine z_aI hX dL_law_1887 (fun x3 => ?_)
  refine z_cVIm (C' := (C + 1)) (S' := (S + 6)) 9 [.int x3] hX (fun l hl o ho => c_X9_changedWithout l hl o2.2 m x3 o ho) dL_law_1888 (by decide) rfl rfl q_1836 okV_X9_changedWithout rfl ⟨(Nat.le_of_ble_eq_true rfl), (Nat.le_of_ble_eq_true rfl)⟩ rfl (Nat.le_of_ble_eq_true rfl) (Nat.add_zero _) (Nat.add_zero _) ⟨hc1, hs1⟩ (fun o4 => ?_)
  refine z_istore hX [(6, .int o4.1), (5, .int o2.1), (0, .ref b), (1, .ref x), (2, .ref m), (3, .ref ou), (4, .int i)] (by decide) rfl dL_law_1891 ?_
  refine z_aload_n hX 4 rfl rfl dL_law_1893 ?_
  refine z_cVIp (C' := (C + 1)) (S' := (S + 6)) 9 [] hX (fun l hl o ho => c_X9_thrown l hl o4.2 m o ho) dL_law_1894 (by decide) rfl rfl q_1439 okV_X9_thrown rfl ⟨(Nat.le_of_ble_eq_true rfl), (Nat.le_of_ble_eq_true rfl)⟩ rfl (Nat.le_of_ble_eq_true rfl) (Nat.add_zero _) (Nat.add_zero _) ⟨hc1, hs1⟩ (fun o5 => ?_)
  refine z_iload hX 1 rfl dL_law_1897 ?_
  refine z_icmp_eq hX 1904 (by decide) dL_law_1899 (fun _ => ?_) (fun _ => ?_)
  · refine z_iload hX 1 rfl dL_law_1904 ?_
    refine z_if_ne hX 1921 (by decide) dL_law_1906 (fun _ => ?_) (fun _ => ?_)
    · refine z_goto hX 3165 (by decide) dL_law_1921 ?_
      refine z_sub [2, 3, 4, 5, 6] rfl ?_
      exact z_widen (by omega) (by omega) (hk o4.2)
    · refine z_aload_n hX 5 rfl rfl dL_law_1909 ?_
      refine z_iconst (v := 0) hX (by decide) dL_law_1910 ?_
      refine z_aL hX dL_law_1911 (fun x6 => ?_)
      refine z_iload hX 0 rfl dL_law_1912 ?_
      refine z_i2l hX rfl dL_law_1914 ?_
      refine z_lcmp hX dL_law_1915 ?_
      refine z_if_eq hX 1921 (by decide) dL_law_1916 (fun _ => ?_) (fun _ => ?_)
      · refine z_goto hX 3165 (by decide) dL_law_1921 ?_
        refine z_sub [2, 3, 4, 5, 6] rfl ?_
        exact z_widen (by omega) (by omega) (hk o4.2)
      · exact z_any hq0
  · exact z_any hq0
set_option maxRecDepth 20000 in
set_option maxHeartbeats 4000000 in
theorem zl_38 {X : Cxt} (hX : okX X cL_law RL room_1 (some .boolean) 8) {Qo : Int32 → State → Prop} (hq0 : ∀ st, Qo 0 st) {C S : Nat} (h1 : C + 3 ≤ room_1.cells) (h2 : S + 18 ≤ room_1.slots) (b x m ou : Nat) (i : Int32) (kj : Mem → Option Int32) (hk : ∀ M, Zj X Qo (C + 3) (S + 18) 3165 [(0, .ref b), (1, .ref x), (2, .ref m), (3, .ref ou), (4, .int i)] [] M (kj M)) (M : Mem) : Zj X Qo C S 1924 [(0, .ref b), (1, .ref x), (2, .ref m), (3, .ref ou), (4, .int i)] [] M (cs_38 b x m ou i kj M) := by
  have hc0 : C + 0 ≤ room_1.cells := Nat.le_trans (by omega) h1
  have hs0 : S + 0 ≤ room_1.slots := Nat.le_trans (by omega) h2
  have hc1 : C + 1 ≤ room_1.cells := Nat.le_trans (by omega) h1
  have hs1 : S + 6 ≤ room_1.slots := Nat.le_trans (by omega) h2
  have hc2 : C + 2 ≤ room_1.cells := Nat.le_trans (by omega) h1
  have hs2 : S + 12 ≤ room_1.slots := Nat.le_trans (by omega) h2
  have hc3 : C + 3 ≤ room_1.cells := Nat.le_trans (by omega) h1
  have hs3 : S + 18 ≤ room_1.slots := Nat.le_trans (by omega) h2
  unfold cs_38
  refine z_aload_n hX 1 rfl rfl dL_law_1924 ?_
  refine z_aload_n hX 0 rfl rfl dL_law_1925 ?_
  refine z_iload hX 4 rfl dL_law_1926 ?_
  refine z_iconst (v := 1) hX (by decide) dL_law_1928 ?_
  refine z_iadd hX dL_law_1929 ?_
  refine z_aI hX dL_law_1930 (fun x1 => ?_)
  refine z_aload_n hX 3 rfl rfl dL_law_1931 ?_
  refine z_cSw (C' := C + 1) (S' := S + 6) [.ref x, .int x1, .ref ou] hX (fun l hl o ho => cw_L_greedyLimit l hl M x x1 ou o ho) dL_law_1932 q_1205 okW_L_greedyLimit rfl ⟨(Nat.le_of_ble_eq_true rfl), (Nat.le_of_ble_eq_true rfl)⟩ rfl (Nat.le_of_ble_eq_true rfl) rfl rfl ⟨hc1, hs1⟩ (fun o2 => ?_)
  refine z_istore hX [(5, .int o2.1), (0, .ref b), (1, .ref x), (2, .ref m), (3, .ref ou), (4, .int i)] (by decide) rfl dL_law_1935 ?_
  refine z_aload_n hX 3 rfl rfl dL_law_1937 ?_
  refine z_aload_n hX 1 rfl rfl dL_law_1938 ?_
  refine z_iload hX 5 rfl dL_law_1939 ?_
  refine z_iconst (v := 1) hX (by decide) dL_law_1941 ?_
  refine z_iadd hX dL_law_1942 ?_
  refine z_aI hX dL_law_1943 (fun x3 => ?_)
  refine z_cVIm (C' := (C + 1)) (S' := (S + 6)) 9 [.int x3] hX (fun l hl o ho => c_X9_greedyLimit l hl o2.2 m x3 o ho) dL_law_1944 (by decide) rfl rfl q_1840 okV_X9_greedyLimit rfl ⟨(Nat.le_of_ble_eq_true rfl), (Nat.le_of_ble_eq_true rfl)⟩ rfl (Nat.le_of_ble_eq_true rfl) (Nat.add_zero _) (Nat.add_zero _) ⟨hc1, hs1⟩ (fun o4 => ?_)
  refine z_istore hX [(6, .int o4.1), (5, .int o2.1), (0, .ref b), (1, .ref x), (2, .ref m), (3, .ref ou), (4, .int i)] (by decide) rfl dL_law_1947 ?_
  refine z_aload_n hX 4 rfl rfl dL_law_1949 ?_
  refine z_cVIp (C' := (C + 1)) (S' := (S + 6)) 9 [] hX (fun l hl o ho => c_X9_thrown l hl o4.2 m o ho) dL_law_1950 (by decide) rfl rfl q_1439 okV_X9_thrown rfl ⟨(Nat.le_of_ble_eq_true rfl), (Nat.le_of_ble_eq_true rfl)⟩ rfl (Nat.le_of_ble_eq_true rfl) (Nat.add_zero _) (Nat.add_zero _) ⟨hc1, hs1⟩ (fun o5 => ?_)
  refine z_iload hX 1 rfl dL_law_1953 ?_
  refine z_icmp_eq hX 1960 (by decide) dL_law_1955 (fun _ => ?_) (fun _ => ?_)
  · refine z_iload hX 1 rfl dL_law_1960 ?_
    refine z_if_ne hX 1977 (by decide) dL_law_1962 (fun _ => ?_) (fun _ => ?_)
    · refine z_goto hX 3165 (by decide) dL_law_1977 ?_
      refine z_sub [2, 3, 4, 5, 6] rfl ?_
      exact z_widen (by omega) (by omega) (hk o4.2)
    · refine z_aload_n hX 5 rfl rfl dL_law_1965 ?_
      refine z_iconst (v := 0) hX (by decide) dL_law_1966 ?_
      refine z_aL hX dL_law_1967 (fun x6 => ?_)
      refine z_iload hX 0 rfl dL_law_1968 ?_
      refine z_i2l hX rfl dL_law_1970 ?_
      refine z_lcmp hX dL_law_1971 ?_
      refine z_if_eq hX 1977 (by decide) dL_law_1972 (fun _ => ?_) (fun _ => ?_)
      · refine z_goto hX 3165 (by decide) dL_law_1977 ?_
        refine z_sub [2, 3, 4, 5, 6] rfl ?_
        exact z_widen (by omega) (by omega) (hk o4.2)
      · exact z_any hq0
  · exact z_any hq0
