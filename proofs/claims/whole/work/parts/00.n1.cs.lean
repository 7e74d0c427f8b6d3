/-! ===== the cases of the law (wip/whole/gen/mk_cs.py) ===== -/
section
variable {M : Mem} {b x L i : Nat} {xs : Nat → Int32} {S : St}
theorem oa1 (i : Nat) : Int32.ofNat i + 1 = Int32.ofNat (i + 1) := i_succ
theorem oa2 (i : Nat) : Int32.ofNat i + 2 = Int32.ofNat (i + 2) := i_add i 2
theorem oa3 (i : Nat) : Int32.ofNat i + 3 = Int32.ofNat (i + 3) := i_add i 3
theorem oa4 (i : Nat) : Int32.ofNat i + 4 = Int32.ofNat (i + 4) := i_add i 4
theorem oa5 (i : Nat) : Int32.ofNat i + 5 = Int32.ofNat (i + 5) := i_add i 5
theorem ret_ok2L {v : Int64} {f : Option (Int64 × Mem)} {kj : Mem → Option Int32} (h : GI b x L xs M S) (hf : IsM M (x + 377) S.1 → mI M (x + 377) 37 = 12 → ok f (RetM (x + 377) M v)) (hk : ∀ M', GI b x L xs M' S → kj M' = some 1) : (ck M (x + 377) 9 >>= fun _ => f >>= fun (o : Int64 × Mem) => if (lg_cmp v o.1) = 0 then (kj o.2) else (some 0)) = some 1 := by
  refine eq_ok ?_
  rw [ck9 h, bs]
  refine ok.seq (hf h.2.2.2.1 h.2.2.2.2.1) ?_
  rintro ⟨o, M1⟩ ⟨q1, q2⟩
  dsimp only at q1 q2 ⊢
  rw [q1, if_pos (lg_self _), hk M1 (GI.mo h q2)]
  exact ok.pure rfl
theorem cs_2_ok (h : GI b x L xs M S) (hi : i + 5 < L) {kj : Mem → Option Int32} (hk : ∀ M' S', GI b x L xs M' S' → kj M' = some 1) : cs_2 b x (x + 377) (x + 396) (Int32.ofNat i) kj M = some 1 := by
  unfold cs_2
  rw [ck8 h, bs, c_errorPosition h, bs]
  exact ret_ok2 h (fun _ _ => q_errorPosition h) (fun M' h' => hk M' S h')
theorem cs_3_ok (h : GI b x L xs M S) (hi : i + 5 < L) {kj : Mem → Option Int32} (hk : ∀ M' S', GI b x L xs M' S' → kj M' = some 1) : cs_3 b x (x + 377) (x + 396) (Int32.ofNat i) kj M = some 1 := by
  obtain ⟨bb, sb, c, d⟩ := id h.2.2.1
  unfold cs_3
  rw [ck8 h, bs, c_districtCount c, bs]
  exact ret_ok2 h (fun z _ => q_districtCount z) (fun M' h' => hk M' S h')
theorem cs_4_ok (h : GI b x L xs M S) (hi : i + 5 < L) {kj : Mem → Option Int32} (hk : ∀ M' S', GI b x L xs M' S' → kj M' = some 1) : cs_4 b x (x + 377) (x + 396) (Int32.ofNat i) kj M = some 1 := by
  obtain ⟨bb, sb, c, d⟩ := id h.2.2.1
  unfold cs_4
  rw [ck8 h, bs, c_projectCount c, bs]
  exact ret_ok2 h (fun z _ => q_projectCount z) (fun M' h' => hk M' S h')
theorem cs_5_ok (h : GI b x L xs M S) (hi : i + 5 < L) {kj : Mem → Option Int32} (hk : ∀ M' S', GI b x L xs M' S' → kj M' = some 1) : cs_5 b x (x + 377) (x + 396) (Int32.ofNat i) kj M = some 1 := by
  obtain ⟨bb, sb, c, d⟩ := id h.2.2.1
  unfold cs_5
  rw [ck8 h, bs, c_voterCount c, bs]
  exact ret_ok2 h (fun z _ => q_voterCount z) (fun M' h' => hk M' S h')
theorem cs_6_ok (h : GI b x L xs M S) (hi : i + 5 < L) {kj : Mem → Option Int32} (hk : ∀ M' S', GI b x L xs M' S' → kj M' = some 1) : cs_6 b x (x + 377) (x + 396) (Int32.ofNat i) kj M = some 1 := by
  unfold cs_6
  rw [ck8 h, bs, c_undoCount h, bs]
  exact ret_ok2 h (fun _ _ => q_undoCount h) (fun M' h' => hk M' S h')
theorem cs_7_ok (h : GI b x L xs M S) (hi : i + 5 < L) {kj : Mem → Option Int32} (hk : ∀ M' S', GI b x L xs M' S' → kj M' = some 1) : cs_7 b x (x + 377) (x + 396) (Int32.ofNat i) kj M = some 1 := by
  obtain ⟨bb, sb, c, d⟩ := id h.2.2.1
  unfold cs_7
  rw [oa1, sc_at h (k := i + 1) (by omega), bs, ck8 h, bs, c_districtNamed c (xs (i + 1)), bs, bs]
  exact ret_ok2 h (fun z _ => q_districtNamed z (xs (i + 1))) (fun M' h' => hk M' S h')
theorem cs_8_ok (h : GI b x L xs M S) (hi : i + 5 < L) {kj : Mem → Option Int32} (hk : ∀ M' S', GI b x L xs M' S' → kj M' = some 1) : cs_8 b x (x + 377) (x + 396) (Int32.ofNat i) kj M = some 1 := by
  obtain ⟨bb, sb, c, d⟩ := id h.2.2.1
  unfold cs_8
  rw [oa1, sc_at h (k := i + 1) (by omega), bs, ck8 h, bs, c_projectNamed c (xs (i + 1)), bs, bs]
  exact ret_ok2 h (fun z _ => q_projectNamed z (xs (i + 1))) (fun M' h' => hk M' S h')
theorem cs_9_ok (h : GI b x L xs M S) (hi : i + 5 < L) {kj : Mem → Option Int32} (hk : ∀ M' S', GI b x L xs M' S' → kj M' = some 1) : cs_9 b x (x + 377) (x + 396) (Int32.ofNat i) kj M = some 1 := by
  unfold cs_9 w_L_budgetOf
  rw [oa1, sc_at h (k := i + 1) (by omega), bs]
  obtain ⟨w, e, hw1, hw2, hw3⟩ := wr_ok h (fun bb sb c => c_budgetOf c (xs (i + 1)))
  rw [e, bs, sc_at hw3 (k := i + 1) (by omega), bs]
  exact cmp_ok ⟨hw1, hw2⟩ hw3 (q_budgetOf hw3.2.2.2.1 (xs (i + 1))) (fun M' h' => hk M' S h')
theorem cs_10_ok (h : GI b x L xs M S) (hi : i + 5 < L) {kj : Mem → Option Int32} (hk : ∀ M' S', GI b x L xs M' S' → kj M' = some 1) : cs_10 b x (x + 377) (x + 396) (Int32.ofNat i) kj M = some 1 := by
  unfold cs_10 w_L_costOf
  rw [oa1, sc_at h (k := i + 1) (by omega), bs]
  obtain ⟨w, e, hw1, hw2, hw3⟩ := wr_ok h (fun bb sb c => c_costOf c (xs (i + 1)))
  rw [e, bs, sc_at hw3 (k := i + 1) (by omega), bs]
  exact cmp_ok ⟨hw1, hw2⟩ hw3 (q_costOf hw3.2.2.2.1 (xs (i + 1))) (fun M' h' => hk M' S h')
theorem cs_11_ok (h : GI b x L xs M S) (hi : i + 5 < L) {kj : Mem → Option Int32} (hk : ∀ M' S', GI b x L xs M' S' → kj M' = some 1) : cs_11 b x (x + 377) (x + 396) (Int32.ofNat i) kj M = some 1 := by
  unfold cs_11 w_L_districtsOf
  rw [oa1, sc_at h (k := i + 1) (by omega), bs]
  obtain ⟨w, e, hw1, hw2, hw3⟩ := wr_ok h (fun bb sb c => c_districtsOf c (xs (i + 1)))
  rw [e, bs, sc_at hw3 (k := i + 1) (by omega), bs]
  exact cmp_ok ⟨hw1, hw2⟩ hw3 (q_districtsOf hw3.2.2.2.1 (xs (i + 1))) (fun M' h' => hk M' S h')
theorem cs_12_ok (h : GI b x L xs M S) (hi : i + 5 < L) {kj : Mem → Option Int32} (hk : ∀ M' S', GI b x L xs M' S' → kj M' = some 1) : cs_12 b x (x + 377) (x + 396) (Int32.ofNat i) kj M = some 1 := by
  unfold cs_12 w_L_memberships
  rw [oa1, sc_at h (k := i + 1) (by omega), bs]
  obtain ⟨w, e, hw1, hw2, hw3⟩ := wr_ok h (fun bb sb c => c_memberships c (xs (i + 1)))
  rw [e, bs, sc_at hw3 (k := i + 1) (by omega), bs]
  exact cmp_ok ⟨hw1, hw2⟩ hw3 (q_memberships hw3.2.2.2.1 (xs (i + 1))) (fun M' h' => hk M' S h')
theorem cs_13_ok (h : GI b x L xs M S) (hi : i + 5 < L) {kj : Mem → Option Int32} (hk : ∀ M' S', GI b x L xs M' S' → kj M' = some 1) : cs_13 b x (x + 377) (x + 396) (Int32.ofNat i) kj M = some 1 := by
  unfold cs_13 w_L_approvals
  rw [oa1, sc_at h (k := i + 1) (by omega), bs]
  obtain ⟨w, e, hw1, hw2, hw3⟩ := wr_ok h (fun bb sb c => c_approvals c (xs (i + 1)))
  rw [e, bs, sc_at hw3 (k := i + 1) (by omega), bs]
  exact cmp_ok ⟨hw1, hw2⟩ hw3 (q_approvals hw3.2.2.2.1 (xs (i + 1))) (fun M' h' => hk M' S h')
theorem cs_14_ok (h : GI b x L xs M S) (hi : i + 5 < L) {kj : Mem → Option Int32} (hk : ∀ M' S', GI b x L xs M' S' → kj M' = some 1) : cs_14 b x (x + 377) (x + 396) (Int32.ofNat i) kj M = some 1 := by
  unfold cs_14 w_L_weightOf
  rw [oa1, sc_at h (k := i + 1) (by omega), bs]
  obtain ⟨w, e, hw1, hw2, hw3⟩ := wr_ok h (fun bb sb c => c_weightOf c (xs (i + 1)))
  rw [e, bs, sc_at hw3 (k := i + 1) (by omega), bs]
  exact cmp_ok ⟨hw1, hw2⟩ hw3 (q_weightOf hw3.2.2.2.1 (xs (i + 1))) (fun M' h' => hk M' S h')
theorem cs_15_ok (h : GI b x L xs M S) (hi : i + 5 < L) {kj : Mem → Option Int32} (hk : ∀ M' S', GI b x L xs M' S' → kj M' = some 1) : cs_15 b x (x + 377) (x + 396) (Int32.ofNat i) kj M = some 1 := by
  obtain ⟨bb, sb, c, d⟩ := id h.2.2.1
  unfold cs_15
  rw [oa1, sc_at h (k := i + 1) (by omega), bs, ck8 h, bs, c_getSetting c (xs (i + 1)), bs, bs]
  exact ret_ok2 h (fun z _ => q_getSetting z (xs (i + 1))) (fun M' h' => hk M' S h')
theorem cs_16_ok (h : GI b x L xs M S) (hi : i + 5 < L) {kj : Mem → Option Int32} (hk : ∀ M' S', GI b x L xs M' S' → kj M' = some 1) : cs_16 b x (x + 377) (x + 396) (Int32.ofNat i) kj M = some 1 := by
  unfold cs_16 w_L_supporters
  rw [oa1, sc_at h (k := i + 1) (by omega), bs]
  obtain ⟨w, e, hw1, hw2, hw3⟩ := wr_ok h (fun bb sb c => c_supporters c (xs (i + 1)))
  rw [e, bs, sc_at hw3 (k := i + 1) (by omega), bs]
  exact cmp_ok ⟨hw1, hw2⟩ hw3 (q_supporters hw3.2.2.2.1 hw3.2.1.2.1 (xs (i + 1))) (fun M' h' => hk M' S h')
theorem cs_17_ok (h : GI b x L xs M S) (hi : i + 5 < L) {kj : Mem → Option Int32} (hk : ∀ M' S', GI b x L xs M' S' → kj M' = some 1) : cs_17 b x (x + 377) (x + 396) (Int32.ofNat i) kj M = some 1 := by
  unfold cs_17 w_L_votesFor
  rw [oa1, sc_at h (k := i + 1) (by omega), bs]
  obtain ⟨w, e, hw1, hw2, hw3⟩ := wr_ok h (fun bb sb c => c_votesFor c (xs (i + 1)))
  rw [e, bs, sc_at hw3 (k := i + 1) (by omega), bs]
  exact cmp_ok ⟨hw1, hw2⟩ hw3 (q_votesFor hw3.2.2.2.1 hw3.2.1.2.1 (xs (i + 1))) (fun M' h' => hk M' S h')
theorem cs_18_ok (h : GI b x L xs M S) (hi : i + 5 < L) {kj : Mem → Option Int32} (hk : ∀ M' S', GI b x L xs M' S' → kj M' = some 1) : cs_18 b x (x + 377) (x + 396) (Int32.ofNat i) kj M = some 1 := by
  unfold cs_18 w_L_purse
  rw [oa1, oa2, sc_at h (k := i + 1) (by omega), bs, sc_at h (k := i + 2) (by omega), bs]
  obtain ⟨w, e, hw1, hw2, hw3⟩ := wr_ok h (fun bb sb c => c_purse c (xs (i + 1)) (xs (i + 2)))
  rw [e, bs, sc_at hw3 (k := i + 1) (by omega), bs, sc_at hw3 (k := i + 2) (by omega), bs]
  exact cmp_ok ⟨hw1, hw2⟩ hw3 (q_purse hw3.2.2.2.1 hw3.2.1.1 (xs (i + 1)) (xs (i + 2))) (fun M' h' => hk M' S h')
theorem cs_19_ok (h : GI b x L xs M S) (hi : i + 5 < L) {kj : Mem → Option Int32} (hk : ∀ M' S', GI b x L xs M' S' → kj M' = some 1) : cs_19 b x (x + 377) (x + 396) (Int32.ofNat i) kj M = some 1 := by
  unfold cs_19 w_L_firstPrice
  rw [oa1, sc_at h (k := i + 1) (by omega), bs]
  obtain ⟨w, e, hw1, hw2, hw3⟩ := wr_ok h (fun bb sb c => c_firstPrice c h.2.1.1 h.2.1.2.1 (xs (i + 1)))
  rw [e, bs, sc_at hw3 (k := i + 1) (by omega), bs]
  exact cmp_ok ⟨hw1, hw2⟩ hw3 (q_firstPrice hw3.2.2.2.1 hw3.2.1.1 (xs (i + 1))) (fun M' h' => hk M' S h')
theorem cs_20_ok (h : GI b x L xs M S) (hi : i + 5 < L) {kj : Mem → Option Int32} (hk : ∀ M' S', GI b x L xs M' S' → kj M' = some 1) : cs_20 b x (x + 377) (x + 396) (Int32.ofNat i) kj M = some 1 := by
  unfold cs_20
  rw [oa1, sc_at h (k := i + 1) (by omega), bs]
  refine ret_ok h (fun bb sb c => c_funded c h.2.1.1 h.2.1.2.1 (xs (i + 1))) fun M1 h1 => ?_
  dsimp only
  rw [sc_at h1 (k := i + 1) (by omega), bs]
  exact ret_ok2 h1 (fun z zL => q_funded z h1.2.1.1 h1.2.1.2.1 zL (xs (i + 1))) (fun M' h' => hk M' S h')
theorem cs_21_ok (h : GI b x L xs M S) (hi : i + 5 < L) {kj : Mem → Option Int32} (hk : ∀ M' S', GI b x L xs M' S' → kj M' = some 1) : cs_21 b x (x + 377) (x + 396) (Int32.ofNat i) kj M = some 1 := by
  unfold cs_21
  rw [oa1, oa2, sc_at h (k := i + 1) (by omega), bs, sc_at h (k := i + 2) (by omega), bs]
  refine ret_ok h (fun bb sb c => c_fundedAt c h.2.1.1 h.2.1.2.1 (xs (i + 1)) (xs (i + 2))) fun M1 h1 => ?_
  dsimp only
  rw [sc_at h1 (k := i + 1) (by omega), bs, sc_at h1 (k := i + 2) (by omega), bs]
  exact ret_ok2 h1 (fun z zL => q_fundedAt z h1.2.1.1 h1.2.1.2.1 zL (xs (i + 1)) (xs (i + 2))) (fun M' h' => hk M' S h')
theorem cs_22_ok (h : GI b x L xs M S) (hi : i + 5 < L) {kj : Mem → Option Int32} (hk : ∀ M' S', GI b x L xs M' S' → kj M' = some 1) : cs_22 b x (x + 377) (x + 396) (Int32.ofNat i) kj M = some 1 := by
  unfold cs_22 w_L_priceOf
  rw [oa1, sc_at h (k := i + 1) (by omega), bs]
  obtain ⟨w, e, hw1, hw2, hw3⟩ := wr_ok h (fun bb sb c => c_priceOf c h.2.1.1 h.2.1.2.1 (xs (i + 1)))
  rw [e, bs, sc_at hw3 (k := i + 1) (by omega), bs]
  exact cmp_ok ⟨hw1, hw2⟩ hw3 (q_priceOf hw3.2.2.2.1 hw3.2.1.1 hw3.2.1.2.1 hw3.2.2.2.2.1 (xs (i + 1))) (fun M' h' => hk M' S h')
theorem cs_23_ok (h : GI b x L xs M S) (hi : i + 5 < L) {kj : Mem → Option Int32} (hk : ∀ M' S', GI b x L xs M' S' → kj M' = some 1) : cs_23 b x (x + 377) (x + 396) (Int32.ofNat i) kj M = some 1 := by
  unfold cs_23 w_L_paidBy
  rw [oa1, oa2, sc_at h (k := i + 1) (by omega), bs, sc_at h (k := i + 2) (by omega), bs]
  obtain ⟨w, e, hw1, hw2, hw3⟩ := wr_ok h (fun bb sb c => c_paidBy c h.2.1.1 h.2.1.2.1 (xs (i + 1)) (xs (i + 2)))
  rw [e, bs, sc_at hw3 (k := i + 1) (by omega), bs, sc_at hw3 (k := i + 2) (by omega), bs]
  exact cmp_ok ⟨hw1, hw2⟩ hw3 (q_paidBy hw3.2.2.2.1 hw3.2.1.1 hw3.2.1.2.1 hw3.2.2.2.2.1 (xs (i + 1)) (xs (i + 2))) (fun M' h' => hk M' S h')
theorem cs_24_ok (h : GI b x L xs M S) (hi : i + 5 < L) {kj : Mem → Option Int32} (hk : ∀ M' S', GI b x L xs M' S' → kj M' = some 1) : cs_24 b x (x + 377) (x + 396) (Int32.ofNat i) kj M = some 1 := by
  unfold cs_24 w_L_paidFrom
  rw [oa1, oa2, oa3, sc_at h (k := i + 1) (by omega), bs, sc_at h (k := i + 2) (by omega), bs, sc_at h (k := i + 3) (by omega), bs]
  obtain ⟨w, e, hw1, hw2, hw3⟩ := wr_ok h (fun bb sb c => c_paidFrom c h.2.1.1 h.2.1.2.1 (xs (i + 1)) (xs (i + 2)) (xs (i + 3)))
  rw [e, bs, sc_at hw3 (k := i + 1) (by omega), bs, sc_at hw3 (k := i + 2) (by omega), bs, sc_at hw3 (k := i + 3) (by omega), bs]
  exact cmp_ok ⟨hw1, hw2⟩ hw3 (q_paidFrom hw3.2.2.2.1 hw3.2.1.1 hw3.2.1.2.1 hw3.2.2.2.2.1 (xs (i + 1)) (xs (i + 2)) (xs (i + 3))) (fun M' h' => hk M' S h')
theorem cs_25_ok (h : GI b x L xs M S) (hi : i + 5 < L) {kj : Mem → Option Int32} (hk : ∀ M' S', GI b x L xs M' S' → kj M' = some 1) : cs_25 b x (x + 377) (x + 396) (Int32.ofNat i) kj M = some 1 := by
  unfold cs_25 w_L_leftOf
  rw [oa1, oa2, sc_at h (k := i + 1) (by omega), bs, sc_at h (k := i + 2) (by omega), bs]
  obtain ⟨w, e, hw1, hw2, hw3⟩ := wr_ok h (fun bb sb c => c_leftOf c h.2.1.1 h.2.1.2.1 (xs (i + 1)) (xs (i + 2)))
  rw [e, bs, sc_at hw3 (k := i + 1) (by omega), bs, sc_at hw3 (k := i + 2) (by omega), bs]
  exact cmp_ok ⟨hw1, hw2⟩ hw3 (q_leftOf hw3.2.2.2.1 hw3.2.1.1 hw3.2.1.2.1 hw3.2.2.2.2.1 (xs (i + 1)) (xs (i + 2))) (fun M' h' => hk M' S h')
theorem cs_26_ok (h : GI b x L xs M S) (hi : i + 5 < L) {kj : Mem → Option Int32} (hk : ∀ M' S', GI b x L xs M' S' → kj M' = some 1) : cs_26 b x (x + 377) (x + 396) (Int32.ofNat i) kj M = some 1 := by
  unfold cs_26 w_L_purseLeft
  rw [oa1, oa2, sc_at h (k := i + 1) (by omega), bs, sc_at h (k := i + 2) (by omega), bs]
  obtain ⟨w, e, hw1, hw2, hw3⟩ := wr_ok h (fun bb sb c => c_purseLeft c h.2.1.1 h.2.1.2.1 (xs (i + 1)) (xs (i + 2)))
  rw [e, bs, sc_at hw3 (k := i + 1) (by omega), bs, sc_at hw3 (k := i + 2) (by omega), bs]
  exact cmp_ok ⟨hw1, hw2⟩ hw3 (q_purseLeft hw3.2.2.2.1 hw3.2.1.1 hw3.2.1.2.1 hw3.2.2.2.2.1 (xs (i + 1)) (xs (i + 2))) (fun M' h' => hk M' S h')
theorem cs_27_ok (h : GI b x L xs M S) (hi : i + 5 < L) {kj : Mem → Option Int32} (hk : ∀ M' S', GI b x L xs M' S' → kj M' = some 1) : cs_27 b x (x + 377) (x + 396) (Int32.ofNat i) kj M = some 1 := by
  unfold cs_27 w_L_meansLeft
  rw [oa1, sc_at h (k := i + 1) (by omega), bs]
  obtain ⟨w, e, hw1, hw2, hw3⟩ := wr_ok h (fun bb sb c => c_meansLeft c h.2.1.1 h.2.1.2.1 (xs (i + 1)))
  rw [e, bs, sc_at hw3 (k := i + 1) (by omega), bs]
  exact cmp_ok ⟨hw1, hw2⟩ hw3 (q_meansLeft hw3.2.2.2.1 hw3.2.1.1 hw3.2.1.2.1 hw3.2.2.2.2.1 (xs (i + 1))) (fun M' h' => hk M' S h')
theorem cs_28_ok (h : GI b x L xs M S) (hi : i + 5 < L) {kj : Mem → Option Int32} (hk : ∀ M' S', GI b x L xs M' S' → kj M' = some 1) : cs_28 b x (x + 377) (x + 396) (Int32.ofNat i) kj M = some 1 := by
  unfold cs_28
  refine ret_ok h (fun bb sb c => c_raises c h.2.1.1 h.2.1.2.1) fun M1 h1 => ?_
  dsimp only
  exact ret_ok2 h1 (fun z zL => q_raises z h1.2.1.1 h1.2.1.2.1 zL) (fun M' h' => hk M' S h')
theorem cs_29_ok (h : GI b x L xs M S) (hi : i + 5 < L) {kj : Mem → Option Int32} (hk : ∀ M' S', GI b x L xs M' S' → kj M' = some 1) : cs_29 b x (x + 377) (x + 396) (Int32.ofNat i) kj M = some 1 := by
  unfold cs_29
  refine ret_ok h (fun bb sb c => c_completed c h.2.1.1 h.2.1.2.1) fun M1 h1 => ?_
  dsimp only
  exact ret_ok2 h1 (fun z zL => q_completed z h1.2.1.1 h1.2.1.2.1 zL) (fun M' h' => hk M' S h')
theorem cs_30_ok (h : GI b x L xs M S) (hi : i + 5 < L) {kj : Mem → Option Int32} (hk : ∀ M' S', GI b x L xs M' S' → kj M' = some 1) : cs_30 b x (x + 377) (x + 396) (Int32.ofNat i) kj M = some 1 := by
  unfold cs_30
  rw [oa1, sc_at h (k := i + 1) (by omega), bs]
  refine ret_ok h (fun bb sb c => c_totalCost c h.2.1.1 h.2.1.2.1 (xs (i + 1))) fun M1 h1 => ?_
  dsimp only
  rw [sc_at h1 (k := i + 1) (by omega), bs]
  exact ret_ok2 h1 (fun z zL => q_totalCost z h1.2.1.1 h1.2.1.2.1 zL (xs (i + 1))) (fun M' h' => hk M' S h')
theorem cs_31_ok (h : GI b x L xs M S) (hi : i + 5 < L) {kj : Mem → Option Int32} (hk : ∀ M' S', GI b x L xs M' S' → kj M' = some 1) : cs_31 b x (x + 377) (x + 396) (Int32.ofNat i) kj M = some 1 := by
  unfold cs_31
  rw [oa1, sc_at h (k := i + 1) (by omega), bs]
  refine ret_ok h (fun bb sb c => c_welfare c h.2.1.1 h.2.1.2.1 (xs (i + 1))) fun M1 h1 => ?_
  dsimp only
  rw [sc_at h1 (k := i + 1) (by omega), bs]
  exact ret_ok2L h1 (fun z zL => q_welfare z h1.2.1.1 h1.2.1.2.1 zL (xs (i + 1))) (fun M' h' => hk M' S h')
theorem cs_32_ok (h : GI b x L xs M S) (hi : i + 5 < L) {kj : Mem → Option Int32} (hk : ∀ M' S', GI b x L xs M' S' → kj M' = some 1) : cs_32 b x (x + 377) (x + 396) (Int32.ofNat i) kj M = some 1 := by
  unfold cs_32 w_L_satisfaction
  rw [oa1, oa2, sc_at h (k := i + 1) (by omega), bs, sc_at h (k := i + 2) (by omega), bs]
  obtain ⟨w, e, hw1, hw2, hw3⟩ := wr_ok h (fun bb sb c => c_satisfaction c h.2.1.1 h.2.1.2.1 (xs (i + 1)) (xs (i + 2)))
  rw [e, bs, sc_at hw3 (k := i + 1) (by omega), bs, sc_at hw3 (k := i + 2) (by omega), bs]
  exact cmp_ok ⟨hw1, hw2⟩ hw3 (q_satisfaction hw3.2.2.2.1 hw3.2.1.1 hw3.2.1.2.1 hw3.2.2.2.2.1 (xs (i + 1)) (xs (i + 2))) (fun M' h' => hk M' S h')
theorem cs_33_ok (h : GI b x L xs M S) (hi : i + 5 < L) {kj : Mem → Option Int32} (hk : ∀ M' S', GI b x L xs M' S' → kj M' = some 1) : cs_33 b x (x + 377) (x + 396) (Int32.ofNat i) kj M = some 1 := by
  unfold cs_33
  rw [oa1, sc_at h (k := i + 1) (by omega), bs]
  refine ret_ok h (fun bb sb c => c_worstOff c h.2.1.1 h.2.1.2.1 (xs (i + 1))) fun M1 h1 => ?_
  dsimp only
  rw [sc_at h1 (k := i + 1) (by omega), bs]
  exact ret_ok2 h1 (fun z zL => q_worstOff z h1.2.1.1 h1.2.1.2.1 zL (xs (i + 1))) (fun M' h' => hk M' S h')
theorem cs_34_ok (h : GI b x L xs M S) (hi : i + 5 < L) {kj : Mem → Option Int32} (hk : ∀ M' S', GI b x L xs M' S' → kj M' = some 1) : cs_34 b x (x + 377) (x + 396) (Int32.ofNat i) kj M = some 1 := by
  unfold cs_34
  rw [oa1, sc_at h (k := i + 1) (by omega), bs]
  refine ret_ok h (fun bb sb c => c_leftOut c h.2.1.1 h.2.1.2.1 (xs (i + 1))) fun M1 h1 => ?_
  dsimp only
  rw [sc_at h1 (k := i + 1) (by omega), bs]
  exact ret_ok2 h1 (fun z zL => q_leftOut z h1.2.1.1 h1.2.1.2.1 zL (xs (i + 1))) (fun M' h' => hk M' S h')
theorem cs_35_ok (h : GI b x L xs M S) (hi : i + 5 < L) {kj : Mem → Option Int32} (hk : ∀ M' S', GI b x L xs M' S' → kj M' = some 1) : cs_35 b x (x + 377) (x + 396) (Int32.ofNat i) kj M = some 1 := by
  unfold cs_35 w_L_claimOf
  rw [oa1, oa2, sc_at h (k := i + 1) (by omega), bs, sc_at h (k := i + 2) (by omega), bs]
  obtain ⟨w, e, hw1, hw2, hw3⟩ := wr_ok h (fun bb sb c => c_claimOf c h.2.1.1 h.2.1.2.1 (xs (i + 1)) (xs (i + 2)))
  rw [e, bs, sc_at hw3 (k := i + 1) (by omega), bs, sc_at hw3 (k := i + 2) (by omega), bs]
  exact cmp_ok ⟨hw1, hw2⟩ hw3 (q_claimOf hw3.2.2.2.1 hw3.2.1.1 hw3.2.1.2.1 hw3.2.2.2.2.1 (xs (i + 1)) (xs (i + 2))) (fun M' h' => hk M' S h')
theorem cs_36_ok (h : GI b x L xs M S) (hi : i + 5 < L) {kj : Mem → Option Int32} (hk : ∀ M' S', GI b x L xs M' S' → kj M' = some 1) : cs_36 b x (x + 377) (x + 396) (Int32.ofNat i) kj M = some 1 := by
  unfold cs_36
  rw [oa1, sc_at h (k := i + 1) (by omega), bs]
  refine ret_ok h (fun bb sb c => c_unjust c h.2.1.1 h.2.1.2.1 (xs (i + 1))) fun M1 h1 => ?_
  dsimp only
  rw [sc_at h1 (k := i + 1) (by omega), bs]
  exact ret_ok2 h1 (fun z zL => q_unjust z h1.2.1.1 h1.2.1.2.1 zL (xs (i + 1))) (fun M' h' => hk M' S h')
theorem cs_37_ok (h : GI b x L xs M S) (hi : i + 5 < L) {kj : Mem → Option Int32} (hk : ∀ M' S', GI b x L xs M' S' → kj M' = some 1) : cs_37 b x (x + 377) (x + 396) (Int32.ofNat i) kj M = some 1 := by
  unfold cs_37 w_L_changedWithout
  rw [oa1, sc_at h (k := i + 1) (by omega), bs]
  obtain ⟨w, e, hw1, hw2, hw3⟩ := wr_ok h (fun bb sb c => c_changedWithout c h.2.1.1 h.2.1.2.1 (xs (i + 1)))
  rw [e, bs, sc_at hw3 (k := i + 1) (by omega), bs]
  exact cmp_ok ⟨hw1, hw2⟩ hw3 (q_changedWithout hw3.2.2.2.1 hw3.2.1.1 hw3.2.1.2.1 hw3.2.2.2.2.1 (xs (i + 1))) (fun M' h' => hk M' S h')
theorem cs_38_ok (h : GI b x L xs M S) (hi : i + 5 < L) {kj : Mem → Option Int32} (hk : ∀ M' S', GI b x L xs M' S' → kj M' = some 1) : cs_38 b x (x + 377) (x + 396) (Int32.ofNat i) kj M = some 1 := by
  unfold cs_38 w_L_greedyLimit
  rw [oa1, sc_at h (k := i + 1) (by omega), bs]
  obtain ⟨w, e, hw1, hw2, hw3⟩ := wr_ok h (fun bb sb c => c_greedyLimit c h.2.1.1 h.2.1.2.1 (xs (i + 1)))
  rw [e, bs, sc_at hw3 (k := i + 1) (by omega), bs]
  exact cmp_ok ⟨hw1, hw2⟩ hw3 (q_greedyLimit hw3.2.2.2.1 hw3.2.1.1 hw3.2.1.2.1 (xs (i + 1))) (fun M' h' => hk M' S h')
theorem cs_39_ok (h : GI b x L xs M S) (hi : i + 5 < L) {kj : Mem → Option Int32} (hk : ∀ M' S', GI b x L xs M' S' → kj M' = some 1) : cs_39 b x (x + 377) (x + 396) (Int32.ofNat i) kj M = some 1 := by
  unfold cs_39
  rw [oa1, sc_at h (k := i + 1) (by omega), bs]
  refine ret_ok h (fun bb sb c => c_canBePaid c (xs (i + 1))) fun M1 h1 => ?_
  dsimp only
  rw [sc_at h1 (k := i + 1) (by omega), bs]
  exact ret_ok2 h1 (fun z zL => q_canBePaid z (xs (i + 1))) (fun M' h' => hk M' S h')
theorem cs_40_ok (h : GI b x L xs M S) (hi : i + 5 < L) {kj : Mem → Option Int32} (hk : ∀ M' S', GI b x L xs M' S' → kj M' = some 1) : cs_40 b x (x + 377) (x + 396) (Int32.ofNat i) kj M = some 1 := by
  unfold cs_40
  rw [oa1, oa2, sc_at h (k := i + 1) (by omega), bs, sc_at h (k := i + 2) (by omega), bs]
  refine ret_ok h (fun bb sb c => c_common c h.2.1.1 h.2.1.2.1 (xs (i + 1)) (xs (i + 2))) fun M1 h1 => ?_
  dsimp only
  rw [sc_at h1 (k := i + 1) (by omega), bs, sc_at h1 (k := i + 2) (by omega), bs]
  exact ret_ok2 h1 (fun z zL => q_common z h1.2.1.1 h1.2.1.2.1 zL (xs (i + 1)) (xs (i + 2))) (fun M' h' => hk M' S h')
theorem cs_41_ok (h : GI b x L xs M S) (hi : i + 5 < L) {kj : Mem → Option Int32} (hk : ∀ M' S', GI b x L xs M' S' → kj M' = some 1) : cs_41 b x (x + 377) (x + 396) (Int32.ofNat i) kj M = some 1 := by
  unfold cs_41
  rw [oa1, sc_at h (k := i + 1) (by omega), bs]
  refine ret_ok h (fun bb sb c => c_spread c h.2.1.1 h.2.1.2.1 (xs (i + 1))) fun M1 h1 => ?_
  dsimp only
  rw [sc_at h1 (k := i + 1) (by omega), bs]
  exact ret_ok2 h1 (fun z zL => q_spread z h1.2.1.1 h1.2.1.2.1 zL (xs (i + 1))) (fun M' h' => hk M' S h')
theorem cs_42_ok (h : GI b x L xs M S) (hi : i + 5 < L) {kj : Mem → Option Int32} (hk : ∀ M' S', GI b x L xs M' S' → kj M' = some 1) : cs_42 b x (x + 377) (x + 396) (Int32.ofNat i) kj M = some 1 := by
  unfold cs_42
  rw [oa1, sc_at h (k := i + 1) (by omega), bs]
  refine ret_ok h (fun bb sb c => c_loss c h.2.1.1 h.2.1.2.1 (xs (i + 1))) fun M1 h1 => ?_
  dsimp only
  rw [sc_at h1 (k := i + 1) (by omega), bs]
  exact ret_ok2L h1 (fun z zL => q_loss z h1.2.1.1 h1.2.1.2.1 zL (xs (i + 1))) (fun M' h' => hk M' S h')
theorem cs_43_ok (h : GI b x L xs M S) (hi : i + 5 < L) {kj : Mem → Option Int32} (hk : ∀ M' S', GI b x L xs M' S' → kj M' = some 1) : cs_43 b x (x + 377) (x + 396) (Int32.ofNat i) kj M = some 1 := by
  unfold cs_43 w_L_bestWithout
  rw [oa1, sc_at h (k := i + 1) (by omega), bs]
  obtain ⟨w, e, hw1, hw2, hw3⟩ := wr_okL h (fun bb sb c => c_bestWithout c (xs (i + 1)))
  rw [e, bs, sc_at hw3 (k := i + 1) (by omega), bs]
  exact cmp_okL ⟨hw1, hw2⟩ hw3 (q_bestWithout hw3.2.2.2.1 hw3.2.1.1 hw3.2.1.2.1 (xs (i + 1))) (fun M' h' => hk M' S h')
theorem cs_44_ok (h : GI b x L xs M S) (hi : i + 5 < L) {kj : Mem → Option Int32} (hk : ∀ M' S', GI b x L xs M' S' → kj M' = some 1) : cs_44 b x (x + 377) (x + 396) (Int32.ofNat i) kj M = some 1 := by
  unfold cs_44 w_L_endowment
  rw [oa1, sc_at h (k := i + 1) (by omega), bs]
  obtain ⟨w, e, hw1, hw2, hw3⟩ := wr_ok h (fun bb sb c => c_endowment c (xs (i + 1)))
  rw [e, bs, sc_at hw3 (k := i + 1) (by omega), bs]
  exact cmp_ok ⟨hw1, hw2⟩ hw3 (q_endowment hw3.2.2.2.1 hw3.2.1.1 (xs (i + 1))) (fun M' h' => hk M' S h')
theorem cs_45_ok (h : GI b x L xs M S) (hi : i + 5 < L) {kj : Mem → Option Int32} (hk : ∀ M' S', GI b x L xs M' S' → kj M' = some 1) : cs_45 b x (x + 377) (x + 396) (Int32.ofNat i) kj M = some 1 := by
  unfold cs_45 w_L_spentBy
  rw [oa1, sc_at h (k := i + 1) (by omega), bs]
  obtain ⟨w, e, hw1, hw2, hw3⟩ := wr_ok h (fun bb sb c => c_spentBy c h.2.1.1 h.2.1.2.1 (xs (i + 1)))
  rw [e, bs, sc_at hw3 (k := i + 1) (by omega), bs]
  exact cmp_ok ⟨hw1, hw2⟩ hw3 (q_spentBy hw3.2.2.2.1 hw3.2.1.1 hw3.2.1.2.1 hw3.2.2.2.2.1 (xs (i + 1))) (fun M' h' => hk M' S h')
theorem cs_46_ok (h : GI b x L xs M S) (hi : i + 5 < L) {kj : Mem → Option Int32} (hk : ∀ M' S', GI b x L xs M' S' → kj M' = some 1) : cs_46 b x (x + 377) (x + 396) (Int32.ofNat i) kj M = some 1 := by
  unfold cs_46 w_L_payers
  rw [oa1, sc_at h (k := i + 1) (by omega), bs]
  obtain ⟨w, e, hw1, hw2, hw3⟩ := wr_ok h (fun bb sb c => c_payers c h.2.1.1 h.2.1.2.1 (xs (i + 1)))
  rw [e, bs, sc_at hw3 (k := i + 1) (by omega), bs]
  exact cmp_ok ⟨hw1, hw2⟩ hw3 (q_payers hw3.2.2.2.1 hw3.2.1.1 hw3.2.1.2.1 hw3.2.2.2.2.1 (xs (i + 1))) (fun M' h' => hk M' S h')
theorem cs_47_ok (h : GI b x L xs M S) (hi : i + 5 < L) {kj : Mem → Option Int32} (hk : ∀ M' S', GI b x L xs M' S' → kj M' = some 1) : cs_47 b x (x + 377) (x + 396) (Int32.ofNat i) kj M = some 1 := by
  unfold cs_47 w_L_roundOf
  rw [oa1, sc_at h (k := i + 1) (by omega), bs]
  obtain ⟨w, e, hw1, hw2, hw3⟩ := wr_ok h (fun bb sb c => c_roundOf c h.2.1.1 h.2.1.2.1 (xs (i + 1)))
  rw [e, bs, sc_at hw3 (k := i + 1) (by omega), bs]
  exact cmp_ok ⟨hw1, hw2⟩ hw3 (q_roundOf hw3.2.2.2.1 hw3.2.1.1 hw3.2.1.2.1 hw3.2.2.2.2.1 (xs (i + 1))) (fun M' h' => hk M' S h')
theorem cs_48_ok (h : GI b x L xs M S) (hi : i + 5 < L) {kj : Mem → Option Int32} (hk : ∀ M' S', GI b x L xs M' S' → kj M' = some 1) : cs_48 b x (x + 377) (x + 396) (Int32.ofNat i) kj M = some 1 := by
  unfold cs_48 w_L_commonSupport
  rw [oa1, oa2, sc_at h (k := i + 1) (by omega), bs, sc_at h (k := i + 2) (by omega), bs]
  obtain ⟨w, e, hw1, hw2, hw3⟩ := wr_ok h (fun bb sb c => c_commonSupport c h.2.1.2.1 (xs (i + 1)) (xs (i + 2)))
  rw [e, bs, sc_at hw3 (k := i + 1) (by omega), bs, sc_at hw3 (k := i + 2) (by omega), bs]
  exact cmp_ok ⟨hw1, hw2⟩ hw3 (q_commonSupport hw3.2.2.2.1 hw3.2.1.2.1 (xs (i + 1)) (xs (i + 2))) (fun M' h' => hk M' S h')
theorem cs_49_ok (h : GI b x L xs M S) (hi : i + 5 < L) {kj : Mem → Option Int32} (hk : ∀ M' S', GI b x L xs M' S' → kj M' = some 1) : cs_49 b x (x + 377) (x + 396) (Int32.ofNat i) kj M = some 1 := by
  unfold cs_49 w_L_priceIn
  rw [oa1, oa2, sc_at h (k := i + 1) (by omega), bs, sc_at h (k := i + 2) (by omega), bs]
  obtain ⟨w, e, hw1, hw2, hw3⟩ := wr_ok h (fun bb sb c => c_priceIn c h.2.1.1 h.2.1.2.1 (xs (i + 1)) (xs (i + 2)))
  rw [e, bs, sc_at hw3 (k := i + 1) (by omega), bs, sc_at hw3 (k := i + 2) (by omega), bs]
  exact cmp_ok ⟨hw1, hw2⟩ hw3 (q_priceIn hw3.2.2.2.1 hw3.2.1.1 hw3.2.1.2.1 hw3.2.2.2.2.1 (xs (i + 1)) (xs (i + 2))) (fun M' h' => hk M' S h')
theorem cs_50_ok (h : GI b x L xs M S) (hi : i + 5 < L) {kj : Mem → Option Int32} (hk : ∀ M' S', GI b x L xs M' S' → kj M' = some 1) : cs_50 b x (x + 377) (x + 396) (Int32.ofNat i) kj M = some 1 := by
  unfold cs_50 w_L_fundedWithBudget
  rw [oa1, oa2, sc_at h (k := i + 1) (by omega), bs, sc_at h (k := i + 2) (by omega), bs]
  obtain ⟨w, e, hw1, hw2, hw3⟩ := wr_ok h (fun bb sb c => c_fundedWithBudget c h.2.1.1 (xs (i + 1)) (xs (i + 2)))
  rw [e, bs, sc_at hw3 (k := i + 1) (by omega), bs, sc_at hw3 (k := i + 2) (by omega), bs]
  exact cmp_ok ⟨hw1, hw2⟩ hw3 (q_fundedWithBudget hw3.2.2.2.1 hw3.2.1.1 hw3.2.2.2.2.1 (xs (i + 1)) (xs (i + 2))) (fun M' h' => hk M' S h')
theorem cs_51_ok (h : GI b x L xs M S) (hi : i + 5 < L) {kj : Mem → Option Int32} (hk : ∀ M' S', GI b x L xs M' S' → kj M' = some 1) : cs_51 b x (x + 377) (x + 396) (Int32.ofNat i) kj M = some 1 := by
  unfold cs_51 w_L_fundedWithCost
  rw [oa1, oa2, sc_at h (k := i + 1) (by omega), bs, sc_at h (k := i + 2) (by omega), bs]
  obtain ⟨w, e, hw1, hw2, hw3⟩ := wr_ok h (fun bb sb c => c_fundedWithCost c h.2.1.1 (xs (i + 1)) (xs (i + 2)))
  rw [e, bs, sc_at hw3 (k := i + 1) (by omega), bs, sc_at hw3 (k := i + 2) (by omega), bs]
  exact cmp_ok ⟨hw1, hw2⟩ hw3 (q_fundedWithCost hw3.2.2.2.1 hw3.2.1.1 hw3.2.2.2.2.1 (xs (i + 1)) (xs (i + 2))) (fun M' h' => hk M' S h')
theorem cs_52_ok (h : GI b x L xs M S) (hi : i + 5 < L) {kj : Mem → Option Int32} (hk : ∀ M' S', GI b x L xs M' S' → kj M' = some 1) : cs_52 b x (x + 377) (x + 396) (Int32.ofNat i) kj M = some 1 := by
  unfold cs_52 w_L_fundedWithout
  rw [oa1, sc_at h (k := i + 1) (by omega), bs]
  obtain ⟨w, e, hw1, hw2, hw3⟩ := wr_ok h (fun bb sb c => c_fundedWithout c h.2.1.1 (xs (i + 1)))
  rw [e, bs, sc_at hw3 (k := i + 1) (by omega), bs]
  exact cmp_ok ⟨hw1, hw2⟩ hw3 (q_fundedWithout hw3.2.2.2.1 hw3.2.1.1 hw3.2.2.2.2.1 (xs (i + 1))) (fun M' h' => hk M' S h')
theorem cs_53_ok (h : GI b x L xs M S) (hi : i + 5 < L) {kj : Mem → Option Int32} (hk : ∀ M' S', GI b x L xs M' S' → kj M' = some 1) : cs_53 b x (x + 377) (x + 396) (Int32.ofNat i) kj M = some 1 := by
  unfold cs_53
  rw [oa1, sc_at h (k := i + 1) (by omega), bs]
  refine ret_ok h (fun bb sb c => c_cheapestSet c (xs (i + 1))) fun M1 h1 => ?_
  dsimp only
  rw [sc_at h1 (k := i + 1) (by omega), bs]
  exact ret_ok2 h1 (fun z zL => q_cheapestSet z h1.2.1.1 h1.2.1.2.1 (xs (i + 1))) (fun M' h' => hk M' S h')
theorem cs_54_ok (h : GI b x L xs M S) (hi : i + 5 < L) {kj : Mem → Option Int32} (hk : ∀ M' S', GI b x L xs M' S' → kj M' = some 1) : cs_54 b x (x + 377) (x + 396) (Int32.ofNat i) kj M = some 1 := by
  unfold cs_54 w_L_districtWelfare
  rw [oa1, oa2, sc_at h (k := i + 1) (by omega), bs, sc_at h (k := i + 2) (by omega), bs]
  obtain ⟨w, e, hw1, hw2, hw3⟩ := wr_ok h (fun bb sb c => c_districtWelfare c h.2.1.1 h.2.1.2.1 (xs (i + 1)) (xs (i + 2)))
  rw [e, bs, sc_at hw3 (k := i + 1) (by omega), bs, sc_at hw3 (k := i + 2) (by omega), bs]
  exact cmp_ok ⟨hw1, hw2⟩ hw3 (q_districtWelfare hw3.2.2.2.1 hw3.2.1.1 hw3.2.1.2.1 hw3.2.2.2.2.1 (xs (i + 1)) (xs (i + 2))) (fun M' h' => hk M' S h')
theorem cs_55_ok (h : GI b x L xs M S) (hi : i + 5 < L) {kj : Mem → Option Int32} (hk : ∀ M' S', GI b x L xs M' S' → kj M' = some 1) : cs_55 b x (x + 377) (x + 396) (Int32.ofNat i) kj M = some 1 := by
  unfold cs_55 w_L_rankOf
  rw [oa1, oa2, sc_at h (k := i + 1) (by omega), bs, sc_at h (k := i + 2) (by omega), bs]
  obtain ⟨w, e, hw1, hw2, hw3⟩ := wr_ok h (fun bb sb c => c_rankOf c h.2.1.1 h.2.1.2.1 (xs (i + 1)) (xs (i + 2)))
  rw [e, bs, sc_at hw3 (k := i + 1) (by omega), bs, sc_at hw3 (k := i + 2) (by omega), bs]
  exact cmp_ok ⟨hw1, hw2⟩ hw3 (q_rankOf hw3.2.2.2.1 hw3.2.1.1 hw3.2.1.2.1 hw3.2.2.2.2.1 (xs (i + 1)) (xs (i + 2))) (fun M' h' => hk M' S h')
theorem cs_56_ok (h : GI b x L xs M S) (hi : i + 5 < L) {kj : Mem → Option Int32} (hk : ∀ M' S', GI b x L xs M' S' → kj M' = some 1) : cs_56 b x (x + 377) (x + 396) (Int32.ofNat i) kj M = some 1 := by
  unfold cs_56
  refine ret_ok h (fun bb sb c => c_richest c h.2.1.1 h.2.1.2.1) fun M1 h1 => ?_
  dsimp only
  exact ret_ok2 h1 (fun z zL => q_richest z h1.2.1.1 h1.2.1.2.1 zL) (fun M' h' => hk M' S h')
theorem cs_57_ok (h : GI b x L xs M S) (hi : i + 5 < L) {kj : Mem → Option Int32} (hk : ∀ M' S', GI b x L xs M' S' → kj M' = some 1) : cs_57 b x (x + 377) (x + 396) (Int32.ofNat i) kj M = some 1 := by
  unfold cs_57
  rw [oa1, oa2, sc_at h (k := i + 1) (by omega), bs, sc_at h (k := i + 2) (by omega), bs]
  refine set_ok (r := setN S.1 S.2.2.2 0 (cn S.1 0) 0 100000 (xs (i + 1)) (xs (i + 2))) h (gs_setN0 h.gs (xs (i + 1)) (xs (i + 2))) (fun bb sb c hS hH => c_setBudget c hH h.gs (xs (i + 1)) (xs (i + 2))) fun M1 h1 => ?_
  dsimp only
  rw [sc_at2 h1 (k := i + 1) (by omega), bs, sc_at2 h1 (k := i + 2) (by omega), bs]
  exact set_ok2 h1 (fun z d => q_setBudget z d h.gs (xs (i + 1)) (xs (i + 2))) (fun M' h' => hk M' _ h')
theorem cs_58_ok (h : GI b x L xs M S) (hi : i + 5 < L) {kj : Mem → Option Int32} (hk : ∀ M' S', GI b x L xs M' S' → kj M' = some 1) : cs_58 b x (x + 377) (x + 396) (Int32.ofNat i) kj M = some 1 := by
  unfold cs_58
  rw [oa1, oa2, sc_at h (k := i + 1) (by omega), bs, sc_at h (k := i + 2) (by omega), bs]
  refine set_ok (r := setN S.1 S.2.2.2 1 (cn S.1 1) 1 100000 (xs (i + 1)) (xs (i + 2))) h (gs_setN1 h.gs (xs (i + 1)) (xs (i + 2))) (fun bb sb c hS hH => c_setCost c hH h.gs (xs (i + 1)) (xs (i + 2))) fun M1 h1 => ?_
  dsimp only
  rw [sc_at2 h1 (k := i + 1) (by omega), bs, sc_at2 h1 (k := i + 2) (by omega), bs]
  exact set_ok2 h1 (fun z d => q_setCost z d h.gs (xs (i + 1)) (xs (i + 2))) (fun M' h' => hk M' _ h')
theorem cs_59_ok (h : GI b x L xs M S) (hi : i + 5 < L) {kj : Mem → Option Int32} (hk : ∀ M' S', GI b x L xs M' S' → kj M' = some 1) : cs_59 b x (x + 377) (x + 396) (Int32.ofNat i) kj M = some 1 := by
  unfold cs_59
  rw [oa1, oa2, sc_at h (k := i + 1) (by omega), bs, sc_at h (k := i + 2) (by omega), bs]
  refine set_ok (r := setN S.1 S.2.2.2 2 (cn S.1 2) 1 9 (xs (i + 1)) (xs (i + 2))) h (gs_setN2 h.gs (xs (i + 1)) (xs (i + 2))) (fun bb sb c hS hH => c_setWeight c hH h.gs (xs (i + 1)) (xs (i + 2))) fun M1 h1 => ?_
  dsimp only
  rw [sc_at2 h1 (k := i + 1) (by omega), bs, sc_at2 h1 (k := i + 2) (by omega), bs]
  exact set_ok2 h1 (fun z d => q_setWeight z d h.gs (xs (i + 1)) (xs (i + 2))) (fun M' h' => hk M' _ h')
theorem cs_60_ok (h : GI b x L xs M S) (hi : i + 5 < L) {kj : Mem → Option Int32} (hk : ∀ M' S', GI b x L xs M' S' → kj M' = some 1) : cs_60 b x (x + 377) (x + 396) (Int32.ofNat i) kj M = some 1 := by
  unfold cs_60
  rw [oa1, oa2, oa3, sc_at h (k := i + 1) (by omega), bs, sc_at h (k := i + 2) (by omega), bs, sc_at h (k := i + 3) (by omega), bs, is_, bs]
  refine set_ok (r := setM S.1 S.2.2.2 (xs (i + 1)) (xs (i + 2)) (if xs (i + 3) = 0 then 0 else 1)) h (gs_setM h.gs (xs (i + 1)) (xs (i + 2)) (if xs (i + 3) = 0 then 0 else 1)) (fun bb sb c hS hH => c_setMember c hH h.gs (xs (i + 1)) (xs (i + 2)) (if xs (i + 3) = 0 then 0 else 1)) fun M1 h1 => ?_
  dsimp only
  rw [sc_at2 h1 (k := i + 1) (by omega), bs, sc_at2 h1 (k := i + 2) (by omega), bs, sc_at2 h1 (k := i + 3) (by omega), bs, is_, bs]
  exact set_ok2 h1 (fun z d => q_setMember z d h.gs (xs (i + 1)) (xs (i + 2)) (if xs (i + 3) = 0 then 0 else 1)) (fun M' h' => hk M' _ h')
theorem cs_61_ok (h : GI b x L xs M S) (hi : i + 5 < L) {kj : Mem → Option Int32} (hk : ∀ M' S', GI b x L xs M' S' → kj M' = some 1) : cs_61 b x (x + 377) (x + 396) (Int32.ofNat i) kj M = some 1 := by
  unfold cs_61
  rw [oa1, oa2, oa3, sc_at h (k := i + 1) (by omega), bs, sc_at h (k := i + 2) (by omega), bs, sc_at h (k := i + 3) (by omega), bs, is_, bs]
  refine set_ok (r := setA S.1 S.2.2.2 (xs (i + 1)) (xs (i + 2)) (if xs (i + 3) = 0 then 0 else 1)) h (gs_setA h.gs (xs (i + 1)) (xs (i + 2)) (if xs (i + 3) = 0 then 0 else 1)) (fun bb sb c hS hH => c_setApproval c hH h.gs (xs (i + 1)) (xs (i + 2)) (if xs (i + 3) = 0 then 0 else 1)) fun M1 h1 => ?_
  dsimp only
  rw [sc_at2 h1 (k := i + 1) (by omega), bs, sc_at2 h1 (k := i + 2) (by omega), bs, sc_at2 h1 (k := i + 3) (by omega), bs, is_, bs]
  exact set_ok2 h1 (fun z d => q_setApproval z d h.gs (xs (i + 1)) (xs (i + 2)) (if xs (i + 3) = 0 then 0 else 1)) (fun M' h' => hk M' _ h')
theorem cs_62_ok (h : GI b x L xs M S) (hi : i + 5 < L) {kj : Mem → Option Int32} (hk : ∀ M' S', GI b x L xs M' S' → kj M' = some 1) : cs_62 b x (x + 377) (x + 396) (Int32.ofNat i) kj M = some 1 := by
  unfold cs_62
  rw [oa1, oa2, sc_at h (k := i + 1) (by omega), bs, sc_at h (k := i + 2) (by omega), bs]
  refine set_ok (r := setS S.1 S.2.2.2 (xs (i + 1)) (xs (i + 2))) h (gs_setS h.gs (xs (i + 1)) (xs (i + 2))) (fun bb sb c hS hH => c_setSetting c hS hH h.gs (xs (i + 1)) (xs (i + 2))) fun M1 h1 => ?_
  dsimp only
  rw [sc_at2 h1 (k := i + 1) (by omega), bs, sc_at2 h1 (k := i + 2) (by omega), bs]
  exact set_ok2 h1 (fun z d => q_setSetting z d h.gs (xs (i + 1)) (xs (i + 2))) (fun M' h' => hk M' _ h')
theorem cs_63_ok (h : GI b x L xs M S) (hi : i + 5 < L) {kj : Mem → Option Int32} (hk : ∀ M' S', GI b x L xs M' S' → kj M' = some 1) : cs_63 b x (x + 377) (x + 396) (Int32.ofNat i) kj M = some 1 := by
  unfold cs_63
  refine set_ok (r := und S.1 S.2.2.2 ) h (gs_und h.gs ) (fun bb sb c hS hH => c_und c hH h.gs ) fun M1 h1 => ?_
  dsimp only
  exact set_ok2 h1 (fun z d => q_und z d h.gs ) (fun M' h' => hk M' _ h')
end
