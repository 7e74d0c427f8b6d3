/-! ===== texts: String.length and String.charAt, walked ===== -/
section ZS
variable {ρ : Type} {X : Cxt} {Qo : ρ → State → Prop} {C S pc : Nat} {lv : List (Nat × Value)} {st stk : List Value} {M : Mem} {t : Option ρ} {cc : ByteArray} {own : String} {R0 : Room} {rt : Option FieldType} {nL mc ms : Nat}
def swL : List Cond := [.fieldLink RJ0 9 "java/lang/String" "value" "[B", .fieldLink RJ0 15 "java/lang/String" "coder" "B", .fieldLink RJ0 38 "java/lang/String" "COMPACT_STRINGS" "Z", .fieldLink RJ0 1053 "jdk/internal/util/Preconditions" "SIOOBE_FORMATTER" "Ljava/util/function/BiFunction;",
  .methodLink RJ0 335 yJ0_coder_7d493, .instanceMethod yJ0_coder_7d493, .selects RJ0 yJ0_coder_7d493 yJ0_coder_7d493, .initialized RJ0, .code yJ0_coder_7d493 cJ0_coder_7d493 1 (some .byte),
  .methodLink RJ0 492 yJ0_isLatin1_aae02, .instanceMethod yJ0_isLatin1_aae02, .selects RJ0 yJ0_isLatin1_aae02 yJ0_isLatin1_aae02, .code yJ0_isLatin1_aae02 cJ0_isLatin1_aae02 1 (some .boolean),
  .methodLink RJ0 495 yJ1_charAt_3b067, .static yJ1_charAt_3b067, .initialized RJ1, .code yJ1_charAt_3b067 cJ1_charAt_3b067 2 (some .char),
  .methodLink RJ1 9 yJ0_checkIndex_df160, .static yJ0_checkIndex_df160, .code yJ0_checkIndex_df160 cJ0_checkIndex_df160 2 none,
  .methodLink RJ0 1059 yJ3_checkIndex_8e157, .static yJ3_checkIndex_8e157, .initialized RJ3, .code yJ3_checkIndex_8e157 cJ3_checkIndex_8e157 3 (some .int),
  .instanceMethod yJ0_length_8abf5, .selects RJ0 yJ0_length_8abf5 yJ0_length_8abf5, .code yJ0_length_8abf5 cJ0_length_8abf5 1 (some .int),
  .instanceMethod yJ0_charAt_5068e, .selects RJ0 yJ0_charAt_5068e yJ0_charAt_5068e, .code yJ0_charAt_5068e cJ0_charAt_5068e 2 (some .char)]
theorem sw_all : swL.all (fun w => decide (w ∈ lw_tbl) && goodWord w) = true := by decide +kernel
theorem swz {w : Cond} (k : Nat) (h : swL[k]? = some w) : w ∈ TT := by
  have h1 := List.all_eq_true.mp sw_all w (List.mem_of_getElem? h)
  rw [Bool.and_eq_true] at h1
  exact List.mem_filter.mpr ⟨of_decide_eq_true h1.1, h1.2⟩
theorem sb_all : ∀ i, i < 10 → (strL.getD i 0 = (strB.getD i []).length ∧ (strB.getD i []).length < 1000 ∧ (Int32.ofNat (strB.getD i []).length >>> ((0 : Int32) &&& 31)) = Int32.ofNat (strB.getD i []).length ∧ ∀ k, k < (strB.getD i []).length → (strI.getD i []).getD k 0 = Int32.ofNat ((strB.getD i []).getD k 0) ∧ ((Int32.ofNat ((strB.getD i []).getD k 0) &&& 255).toUInt32 % 65536).toInt32 = Int32.ofNat ((strB.getD i []).getD k 0) ∧ narrow .char (.int (Int32.ofNat ((strB.getD i []).getD k 0))) = .int (Int32.ofNat ((strB.getD i []).getD k 0))) := by decide +kernel
theorem z_sgV {i a ix : Nat} (hX : okX X cc own R0 rt nL) (hi : i < 10) (hk : mR M 0 (10 + i) = some a) (hlk : Cond.fieldLink own ix "java/lang/String" "value" "[B" ∈ TT) (hd : decode cc pc = .ok (.getfield ix, 3)) (k : ∀ x, mR M 0 (20 + i) = some x → Zj X Qo C S (pc + 3) lv (.ref x :: st) M t) : Zj X Qo C S pc lv (.ref a :: st) M t := by
  obtain ⟨p, l, e, R, s, m, args, below, meth, c, G, n9⟩ := X
  obtain ⟨hx, hb, hml, hown, hts, hFo, hlk2, hR, hstk, hrt, hnL⟩ := hX
  intro out ho H locs ls hW hF hS hl
  have ha2 : a = gS G i := Option.some.inj (hk.symm.trans (hF.2.2.2.1 i hi).1)
  have hE := (hFo.2.1.1 i hi).2.2.1
  rw [← ha2] at hE
  exact vk_getf hx hb hE hS hown (hts _ hlk) (fun _ h => h) hd (k (gV G i) (hF.2.2.2.1 i hi).2 out ho H locs ls hW hF hS hl)
theorem z_sgC {i a ix : Nat} (hX : okX X cc own R0 rt nL) (hi : i < 10) (hk : mR M 0 (10 + i) = some a) (hlk : Cond.fieldLink own ix "java/lang/String" "coder" "B" ∈ TT) (hd : decode cc pc = .ok (.getfield ix, 3)) (k : Zj X Qo C S (pc + 3) lv (.int 0 :: st) M t) : Zj X Qo C S pc lv (.ref a :: st) M t := by
  obtain ⟨p, l, e, R, s, m, args, below, meth, c, G, n9⟩ := X
  obtain ⟨hx, hb, hml, hown, hts, hFo, hlk2, hR, hstk, hrt, hnL⟩ := hX
  intro out ho H locs ls hW hF hS hl
  have ha2 : a = gS G i := Option.some.inj (hk.symm.trans (hF.2.2.2.1 i hi).1)
  have hE := (hFo.2.1.1 i hi).2.1
  rw [← ha2] at hE
  exact vk_getf hx hb hE hS hown (hts _ hlk) (fun _ h => h) hd (k out ho H locs ls hW hF hS hl)
theorem z_vlen {i v : Nat} (hX : okX X cc own R0 rt nL) (hi : i < 10) (hv : mR M 0 (20 + i) = some v) (hd : decode cc pc = .ok (.arraylength, 1)) (k : Zj X Qo C S (pc + 1) lv (.int (Int32.ofNat (strB.getD i []).length) :: st) M t) : Zj X Qo C S pc lv (.ref v :: st) M t := by
  obtain ⟨p, l, e, R, s, m, args, below, meth, c, G, n9⟩ := X
  obtain ⟨hx, hb, hml, hown, hts, hFo, hlk2, hR, hstk, hrt, hnL⟩ := hX
  intro out ho H locs ls hW hF hS hl
  have hT := (hFo.2.1.1 i hi).2.2.2
  have e2 : gV G i = v := Option.some.inj ((hF.2.2.2.1 i hi).2.symm.trans hv)
  rw [e2] at hT
  exact va_tlen hx hb hT hS (by rw [(sb_all i hi).1]) hd (k out ho H locs ls hW hF hS hl)
theorem z_vld {i v n : Nat} (hX : okX X cc own R0 rt nL) (hi : i < 10) (hv : mR M 0 (20 + i) = some v) {j : Int32} (hj0 : ¬ j < 0) (hj : j.toNatClampNeg = n) (hn : n < (strB.getD i []).length) (hd : decode cc pc = .ok (.baload, 1)) (k : Zj X Qo C S (pc + 1) lv (.int (Int32.ofNat ((strB.getD i []).getD n 0)) :: st) M t) : Zj X Qo C S pc lv (.int j :: .ref v :: st) M t := by
  obtain ⟨p, l, e, R, s, m, args, below, meth, c, G, n9⟩ := X
  obtain ⟨hx, hb, hml, hown, hts, hFo, hlk2, hR, hstk, hrt, hnL⟩ := hX
  intro out ho H locs ls hW hF hS hl
  have hT := (hFo.2.1.1 i hi).2.2.2
  have e2 : gV G i = v := Option.some.inj ((hF.2.2.2.1 i hi).2.symm.trans hv)
  rw [e2] at hT
  refine va_tb hx hb hT hS (i := j) ?_ (v := .int (Int32.ofNat ((strB.getD i []).getD n 0))) ?_ hd (k out ho H locs ls hW hF hS hl)
  · intro q
    rcases q with q | q
    · exact hj0 q
    · rw [(sb_all i hi).1] at q; omega
  · show Value.int ((strI.getD i []).getD j.toNatClampNeg 0) = _
    rw [hj, ((sb_all i hi).2.2.2 n hn).1]
theorem z_gCS {ix : Nat} (hX : okX X cc own R0 rt nL) (hlk : Cond.fieldLink own ix "java/lang/String" "COMPACT_STRINGS" "Z" ∈ TT) (hd : decode cc pc = .ok (.getstatic ix, 3)) (k : Zj X Qo C S (pc + 3) lv (.int 1 :: st) M t) : Zj X Qo C S pc lv st M t := by
  obtain ⟨p, l, e, R, s, m, args, below, meth, c, G, n9⟩ := X
  obtain ⟨hx, hb, hml, hown, hts, hFo, hlk2, hR, hstk, hrt, hnL⟩ := hX
  intro out ho H locs ls hW hF hS hl
  exact va_gets hx hb hFo.1.2.2.2.1 hS hown (hts _ hlk) (fun _ h => h) hd (k out ho H locs ls hW hF hS hl)
theorem z_gSI {ix : Nat} (hX : okX X cc own R0 rt nL) (hlk : Cond.fieldLink own ix "jdk/internal/util/Preconditions" "SIOOBE_FORMATTER" "Ljava/util/function/BiFunction;" ∈ TT) (hd : decode cc pc = .ok (.getstatic ix, 3)) (k : ∀ v : Value, (v = .null ∨ ∃ q, v = .ref q) → Zj X Qo C S (pc + 3) lv (v :: st) M t) : Zj X Qo C S pc lv st M t := by
  obtain ⟨p, l, e, R, s, m, args, below, meth, c, G, n9⟩ := X
  obtain ⟨hx, hb, hml, hown, hts, hFo, hlk2, hR, hstk, hrt, hnL⟩ := hX
  intro out ho H locs ls hW hF hS hl
  rcases hFo.1.2.2.2.2 with h | ⟨q, h⟩
  · exact va_gets hx hb h hS hown (hts _ hlk) (fun _ h => h) hd (k _ (Or.inl rfl) out ho H locs ls hW hF hS hl)
  · exact va_gets hx hb h hS hown (hts _ hlk) (fun _ h => h) hd (k _ (Or.inr ⟨q, rfl⟩) out ho H locs ls hW hF hS hl)
theorem z_i2c (hX : okX X cc own R0 rt nL) {x v : Int32} (hv : (x.toUInt32 % 65536).toInt32 = v) (hd : decode cc pc = .ok (.i2c, 1)) (k : Zj X Qo C S (pc + 1) lv (.int v :: st) M t) : Zj X Qo C S pc lv (.int x :: st) M t := by
  obtain ⟨p, l, e, R, s, m, args, below, meth, c, G, n9⟩ := X
  obtain ⟨hx, hb, hml, hown, hts, hFo, hlk, hR, hstk, hrt, hnL⟩ := hX
  intro out ho H locs ls hW hF hS hl
  exact lv_i2c hx hb hd hv (k out ho H locs ls hW hF hS hl)
theorem z_nret {ty : FieldType} (hX : okX X cc own R0 (some ty) nL) {x : Int32} (hn : narrow ty (.int x) = .int x) (hd : decode cc pc = .ok (.ireturn, 1)) (hC : C ≤ mc) (hS2 : S ≤ ms) : Zj X (fun o : Int32 => Qr X mc ms (some (.int o)) M) C S pc lv [.int x] M (some x) := fun out ho => by
  cases ho
  obtain ⟨p, l, e, R, s, m, args, below, meth, c, G, n9⟩ := X
  obtain ⟨hx, hb, hml, hown, hts, hFo, hlk, hR, hstk, hrt, hnL⟩ := hX
  intro H locs ls hW hF hS hl
  refine W.widen hC hS2 ?_
  show W p l e R s m args below meth c H locs mc ms (MQ below (qcR G (some (.int x)) M) args s mc ms (gAA G)) _
  exact W.zret hx hb hrt hn (fun t ht hw => ⟨rfl, ⟨by rw [ht]; exact hW.moved hw.alike, by rw [ht]; exact hF.fore hw.alike hS⟩, hS.F ht⟩) hS.2.2 hd hlk
/-- a call on a text -/
theorem z_cVs {y : MethodName} {b : ByteArray} {n k ix a i : Nat} {ret : Option FieldType} {rm : Room} {v : Value} {C' S' : Nat} (As : List Value) (hX : okX X cc own R0 rt nL) (hi : i < 10) (hk : mR M 0 (10 + i) = some a) (hct : ∀ l : Launch, l.stackTraces = false → Ct l y b n ret rm (.ref a :: As) M (some v) M)
    (hd : decode cc pc = .ok (.invokevirtual ix, 3)) (hyc : y.cls = "java/lang/String") (h1 : Cond.methodLink own ix y ∈ TT) (h2 : Cond.instanceMethod y ∈ TT) (h3 : Cond.selects y.cls y y ∈ TT) (h4 : Cond.initialized y.cls ∈ TT) (h5 : Cond.code y b n ret ∈ TT) (hy : okY y k) (hAs : As.length = k) (hR : rm.frames + 1 ≤ R0.frames ∧ 8 + (n + 11) + rm.locals ≤ R0.locals)
    (hst : stk = As.reverse ++ .ref a :: st) (hcat : (st.map fun v => v.category).sum ≤ 8) (hC : C + rm.cells = C') (hS2 : S + rm.slots = S') (hCR : C' ≤ R0.cells ∧ S' ≤ R0.slots)
    (kk : Zj X Qo C' S' (pc + 3) lv (v :: st) M t) : Zj X Qo C S pc lv stk M t := by
  obtain ⟨p, l, e, R, s, m, args, below, meth, c, G, n9⟩ := X
  obtain ⟨hx, hb, hml, hown, hts, hFo, hlk, hR9, hstk, hrt, hnL⟩ := hX
  intro out ho H locs ls hW hF hS hl
  subst hR9; subst hst; subst hC; subst hS2
  have ha2 : a = gS G i := Option.some.inj (hk.symm.trans (hF.2.2.2.1 i hi).1)
  obtain ⟨cell, hc1, hc2, hc3⟩ := vk_recv hFo.2.1 hi hS
  rw [← ha2] at hc1
  refine z_back (v := some v) (M' := M) (va_runV (As := As) (rest := st) (n := k) (C := y.cls) (b := a) (g := F0 m pc ls (As.reverse ++ .ref a :: st)) (index := ix) ⟨hx, hb, hml, hown, hts⟩ (hct l hstk G) ⟨cb_tt hts h1 h4 h5 hy hR, hts _ h2, hts _ h3⟩ ⟨pc_blind, ⟨cell, hc1, hc2, by rw [hyc]; exact hc3⟩, fun U hU hw => ⟨rfl, z_start hW hF hFo hS hU hw⟩⟩ rfl hAs (by rw [← hnL] at *; first | exact hl.1 | (rw [hml] at *; exact hl.1)) rfl (lv_room hcat) hd hCR) hF hS ?_
  intro H1 locs1 hW1 hF1 hS1
  exact kk out ho H1 locs1 ls hW1 hF1 hS1 hl
/-- a static call that changes nothing -/
theorem z_cSs {y : MethodName} {b : ByteArray} {n k ix : Nat} {ret : Option FieldType} {rm : Room} {v : Option Value} {C' S' : Nat} (As : List Value) (hX : okX X cc own R0 rt nL) (hct : ∀ l : Launch, l.stackTraces = false → Ct l y b n ret rm As M v M)
    (hd : decode cc pc = .ok (.invokestatic ix, 3)) (h1 : Cond.methodLink own ix y ∈ TT) (h2 : Cond.static y ∈ TT) (h4 : Cond.initialized y.cls ∈ TT) (h5 : Cond.code y b n ret ∈ TT) (hy : okY y k) (hAs : As.length = k) (hR : rm.frames + 1 ≤ R0.frames ∧ 8 + (n + 11) + rm.locals ≤ R0.locals)
    (hst : stk = As.reverse ++ st) (hcat : (st.map fun v => v.category).sum ≤ 8) (hC : C + rm.cells = C') (hS2 : S + rm.slots = S') (hCR : C' ≤ R0.cells ∧ S' ≤ R0.slots)
    (kk : Zj X Qo C' S' (pc + 3) lv (v.toList ++ st) M t) : Zj X Qo C S pc lv stk M t :=
  z_cS (f := some ()) (g := fun _ => t) (fun _ => v) (fun _ => M) As hX (fun l hl o _ => hct l hl) hd h1 h2 h4 h5 hy hAs hR hst hcat hC hS2 hCR (fun _ => kk)
abbrev rm_sL0 : Room := { frames := 1, cells := 0, slots := 0, locals := 40 }
abbrev rm_sL1 : Room := { frames := 2, cells := 0, slots := 0, locals := 60 }
abbrev rm_sL2 : Room := { frames := 2, cells := 0, slots := 0, locals := 62 }
abbrev rm_sL3 : Room := { frames := 3, cells := 0, slots := 0, locals := 83 }
abbrev rm_sL4 : Room := { frames := 4, cells := 0, slots := 0, locals := 104 }
theorem c_scoder (l : Launch) (hl : l.stackTraces = false) (M : Mem) (a i : Nat) (hi : i < 10) (hk : mR M 0 (10 + i) = some a) : Ct l yJ0_coder_7d493 cJ0_coder_7d493 1 (some .byte) rm_sL0 [.ref a] M (some (.int 0)) M :=
  Ct.of hl (by decide +kernel) (Nat.le_of_ble_eq_true rfl) rfl (fun X hX _ => by
    have h : Zj X (fun o : Int32 => Qr X rm_sL0.cells rm_sL0.slots (some (.int o)) M) 0 0 0 [(0, .ref a)] [] M (if (1 : Int32) = 0 then none else some 0) := by
      refine z_gCS hX (swz 2 rfl) dJ0_coder_7d493_0 ?_
      refine z_if_eq hX 13 (by decide) dJ0_coder_7d493_3 (fun _ => z_none) (fun _ => ?_)
      refine z_aload_n hX 0 rfl rfl dJ0_coder_7d493_6 ?_
      refine z_sgC hX hi hk (swz 1 rfl) dJ0_coder_7d493_7 ?_
      refine z_goto hX 14 (by decide) dJ0_coder_7d493_10 ?_
      exact z_nret hX rfl dJ0_coder_7d493_14 (Nat.le_refl _) (Nat.le_refl _)
    exact h 0 rfl)
theorem c_slatin (l : Launch) (hl : l.stackTraces = false) (M : Mem) (a i : Nat) (hi : i < 10) (hk : mR M 0 (10 + i) = some a) : Ct l yJ0_isLatin1_aae02 cJ0_isLatin1_aae02 1 (some .boolean) rm_sL0 [.ref a] M (some (.int 1)) M :=
  Ct.of hl (by decide +kernel) (Nat.le_of_ble_eq_true rfl) rfl (fun X hX _ => by
    have h : Zj X (fun o : Int32 => Qr X rm_sL0.cells rm_sL0.slots (some (.int o)) M) 0 0 0 [(0, .ref a)] [] M (if (1 : Int32) = 0 then none else if ¬ (0 : Int32) = 0 then none else some 1) := by
      refine z_gCS hX (swz 2 rfl) dJ0_isLatin1_aae02_0 ?_
      refine z_if_eq hX 17 (by decide) dJ0_isLatin1_aae02_3 (fun _ => z_none) (fun _ => ?_)
      refine z_aload_n hX 0 rfl rfl dJ0_isLatin1_aae02_6 ?_
      refine z_sgC hX hi hk (swz 1 rfl) dJ0_isLatin1_aae02_7 ?_
      refine z_if_ne hX 17 (by decide) dJ0_isLatin1_aae02_10 (fun _ => z_none) (fun _ => ?_)
      refine z_iconst (v := 1) hX (by decide) dJ0_isLatin1_aae02_13 ?_
      refine z_goto hX 18 (by decide) dJ0_isLatin1_aae02_14 ?_
      exact z_nret hX rfl dJ0_isLatin1_aae02_18 (Nat.le_refl _) (Nat.le_refl _)
    exact h 1 rfl)
theorem c_slen (l : Launch) (hl : l.stackTraces = false) (M : Mem) (a i : Nat) (hi : i < 10) (hk : mR M 0 (10 + i) = some a) : Ct l yJ0_length_8abf5 cJ0_length_8abf5 1 (some .int) rm_sL1 [.ref a] M (some (.int (Int32.ofNat (strB.getD i []).length))) M :=
  Ct.of hl (by decide +kernel) (Nat.le_of_ble_eq_true rfl) rfl (fun X hX _ => by
    have h : Zj X (fun o : Int32 => Qr X rm_sL1.cells rm_sL1.slots (some (.int o)) M) 0 0 0 [(0, .ref a)] [] M (some (Int32.ofNat (strB.getD i []).length)) := by
      refine z_aload_n hX 0 rfl rfl dJ0_length_8abf5_0 ?_
      refine z_sgV hX hi hk (swz 0 rfl) dJ0_length_8abf5_1 (fun x hx => ?_)
      refine z_vlen hX hi hx dJ0_length_8abf5_4 ?_
      refine z_aload_n hX 0 rfl rfl dJ0_length_8abf5_5 ?_
      refine z_cVs (k := 0) [] hX hi hk (fun l hl => c_scoder l hl M a i hi hk) dJ0_length_8abf5_6 rfl (swz 4 rfl) (swz 5 rfl) (swz 6 rfl) (swz 7 rfl) (swz 8 rfl) (by unfold okY; decide +kernel) rfl ⟨Nat.le_of_ble_eq_true rfl, Nat.le_of_ble_eq_true rfl⟩ rfl (Nat.le_of_ble_eq_true rfl) rfl rfl ⟨Nat.le_refl _, Nat.le_refl _⟩ ?_
      refine z_ishr hX dJ0_length_8abf5_9 ?_
      rw [(sb_all i hi).2.2.1]
      exact z_iretP hX dJ0_length_8abf5_10 (Nat.le_refl _) (Nat.le_refl _)
    exact h _ rfl)
/-- Preconditions.checkIndex, where the index is in -/
theorem c_pchk (l : Launch) (hl : l.stackTraces = false) (M : Mem) (j n : Int32) (v : Value) (hv : v = .null ∨ ∃ q, v = .ref q) (h0 : ¬ j < 0) (h1 : j < n) : Ct l yJ3_checkIndex_8e157 cJ3_checkIndex_8e157 3 (some .int) rm_sL0 [.int j, .int n, v] M (some (.int j)) M := by
  have key : ∀ lv : List (Nat × Value), lv[0]? = some (0, .int j) → lv[1]? = some (1, .int n) → ∀ X, okX X cJ3_checkIndex_8e157 RJ3 rm_sL0 (some .int) 3 → Yj X (Qr X rm_sL0.cells rm_sL0.slots (some (.int j)) M) 0 0 0 lv [] M := by
    intro lv q0 q1 X hX
    have h : Zj X (fun o : Int32 => Qr X rm_sL0.cells rm_sL0.slots (some (.int o)) M) 0 0 0 lv [] M (if j < 0 then none else if j < n then some j else none) := by
      refine z_iload_n hX 0 rfl q0 dJ3_checkIndex_8e157_0 ?_
      refine z_if_lt hX 9 (by decide) dJ3_checkIndex_8e157_1 (fun _ => z_none) (fun _ => ?_)
      refine z_iload_n hX 0 rfl q0 dJ3_checkIndex_8e157_4 ?_
      refine z_iload_n hX 1 rfl q1 dJ3_checkIndex_8e157_5 ?_
      refine z_icmp_lt hX 16 (by decide) dJ3_checkIndex_8e157_6 (fun _ => ?_) (fun _ => z_none)
      refine z_iload_n hX 0 rfl q0 dJ3_checkIndex_8e157_16 ?_
      exact z_iretP hX dJ3_checkIndex_8e157_17 (Nat.le_refl _) (Nat.le_refl _)
    exact h j (by rw [if_neg h0, if_pos h1])
  rcases hv with rfl | ⟨q, rfl⟩
  · exact Ct.of hl (by decide +kernel) (Nat.le_of_ble_eq_true rfl) rfl (fun X hX _ => key _ rfl rfl X hX)
  · exact Ct.of hl (by decide +kernel) (Nat.le_of_ble_eq_true rfl) rfl (fun X hX _ => key _ rfl rfl X hX)
theorem c_schk (l : Launch) (hl : l.stackTraces = false) (M : Mem) (j n : Int32) (h0 : ¬ j < 0) (h1 : j < n) : Ct l yJ0_checkIndex_df160 cJ0_checkIndex_df160 2 none rm_sL2 [.int j, .int n] M none M :=
  Ct.of hl (by decide +kernel) (Nat.le_of_ble_eq_true rfl) rfl (fun X hX _ => by
    have h : Zj X (fun o : Mem => Qr X rm_sL2.cells rm_sL2.slots none o) 0 0 0 [(0, .int j), (1, .int n)] [] M (some M) := by
      refine z_iload_n hX 0 rfl rfl dJ0_checkIndex_df160_0 ?_
      refine z_iload_n hX 1 rfl rfl dJ0_checkIndex_df160_1 ?_
      refine z_gSI hX (swz 3 rfl) dJ0_checkIndex_df160_2 (fun v hv => ?_)
      refine z_cSs (k := 3) [.int j, .int n, v] hX (fun l hl => c_pchk l hl M j n v hv h0 h1) dJ0_checkIndex_df160_5 (swz 20 rfl) (swz 21 rfl) (swz 22 rfl) (swz 23 rfl) (by unfold okY; decide +kernel) rfl ⟨Nat.le_of_ble_eq_true rfl, Nat.le_of_ble_eq_true rfl⟩ (st := []) rfl (Nat.le_of_ble_eq_true rfl) rfl rfl ⟨Nat.le_refl _, Nat.le_refl _⟩ ?_
      refine z_pop hX rfl dJ0_checkIndex_df160_8 ?_
      exact z_vretM hX dJ0_checkIndex_df160_9 (Nat.le_refl _) (Nat.le_refl _)
    exact h M rfl)
theorem sj_lt {j : Int32} {n : Nat} (h0 : ¬ j < 0) (hn : n < 1000) (h : j.toNatClampNeg < n) : j < Int32.ofNat n := by
  obtain ⟨k, hk, rfl⟩ := nI_of h0
  rw [nI_clamp (by omega)] at h
  exact nI_lt h (by omega)
theorem c_sch1 (l : Launch) (hl : l.stackTraces = false) (M : Mem) (v i : Nat) (j : Int32) (hi : i < 10) (hv : mR M 0 (20 + i) = some v) (h0 : ¬ j < 0) (h1 : j.toNatClampNeg < (strB.getD i []).length) : Ct l yJ1_charAt_3b067 cJ1_charAt_3b067 2 (some .char) rm_sL3 [.ref v, .int j] M (some (.int (Int32.ofNat ((strB.getD i []).getD j.toNatClampNeg 0)))) M :=
  Ct.of hl (by decide +kernel) (Nat.le_of_ble_eq_true rfl) rfl (fun X hX _ => by
    have h : Zj X (fun o : Int32 => Qr X rm_sL3.cells rm_sL3.slots (some (.int o)) M) 0 0 0 [(0, .ref v), (1, .int j)] [] M (some (Int32.ofNat ((strB.getD i []).getD j.toNatClampNeg 0))) := by
      obtain ⟨-, hL, -, hall⟩ := sb_all i hi
      obtain ⟨-, e2, e3⟩ := hall _ h1
      refine z_iload_n hX 1 rfl rfl dJ1_charAt_3b067_0 ?_
      refine z_aload_n hX 0 rfl rfl dJ1_charAt_3b067_1 ?_
      refine z_vlen hX hi hv dJ1_charAt_3b067_2 ?_
      refine z_cSs (k := 2) [.int j, .int (Int32.ofNat (strB.getD i []).length)] hX (fun l hl => c_schk l hl M j _ h0 (sj_lt h0 hL h1)) dJ1_charAt_3b067_3 (swz 17 rfl) (swz 18 rfl) (swz 7 rfl) (swz 19 rfl) (by unfold okY; decide +kernel) rfl ⟨Nat.le_of_ble_eq_true rfl, Nat.le_of_ble_eq_true rfl⟩ (st := []) rfl (Nat.le_of_ble_eq_true rfl) rfl rfl ⟨Nat.le_refl _, Nat.le_refl _⟩ ?_
      refine z_aload_n hX 0 rfl rfl dJ1_charAt_3b067_6 ?_
      refine z_iload_n hX 1 rfl rfl dJ1_charAt_3b067_7 ?_
      refine z_vld hX hi hv h0 rfl h1 dJ1_charAt_3b067_8 ?_
      refine z_sipush (v := 255) hX (by decide) dJ1_charAt_3b067_9 ?_
      refine z_iand hX dJ1_charAt_3b067_12 ?_
      refine z_i2c hX e2 dJ1_charAt_3b067_13 ?_
      exact z_nret hX e3 dJ1_charAt_3b067_14 (Nat.le_refl _) (Nat.le_refl _)
    exact h _ rfl)
theorem c_sch (l : Launch) (hl : l.stackTraces = false) (M : Mem) (a i : Nat) (j : Int32) (hi : i < 10) (hk : mR M 0 (10 + i) = some a) (h0 : ¬ j < 0) (h1 : j.toNatClampNeg < (strB.getD i []).length) : Ct l yJ0_charAt_5068e cJ0_charAt_5068e 2 (some .char) rm_sL4 [.ref a, .int j] M (some (.int (Int32.ofNat ((strB.getD i []).getD j.toNatClampNeg 0)))) M :=
  Ct.of hl (by decide +kernel) (Nat.le_of_ble_eq_true rfl) rfl (fun X hX _ => by
    have h : Zj X (fun o : Int32 => Qr X rm_sL4.cells rm_sL4.slots (some (.int o)) M) 0 0 0 [(0, .ref a), (1, .int j)] [] M (if (1 : Int32) = 0 then none else some (Int32.ofNat ((strB.getD i []).getD j.toNatClampNeg 0))) := by
      refine z_aload_n hX 0 rfl rfl dJ0_charAt_5068e_0 ?_
      refine z_cVs (k := 0) [] hX hi hk (fun l hl => c_slatin l hl M a i hi hk) dJ0_charAt_5068e_1 rfl (swz 9 rfl) (swz 10 rfl) (swz 11 rfl) (swz 7 rfl) (swz 12 rfl) (by unfold okY; decide +kernel) rfl ⟨Nat.le_of_ble_eq_true rfl, Nat.le_of_ble_eq_true rfl⟩ rfl (Nat.le_of_ble_eq_true rfl) rfl rfl ⟨Nat.le_refl _, Nat.le_refl _⟩ ?_
      refine z_if_eq hX 16 (by decide) dJ0_charAt_5068e_4 (fun _ => z_none) (fun _ => ?_)
      refine z_aload_n hX 0 rfl rfl dJ0_charAt_5068e_7 ?_
      refine z_sgV hX hi hk (swz 0 rfl) dJ0_charAt_5068e_8 (fun x hx => ?_)
      refine z_iload_n hX 1 rfl rfl dJ0_charAt_5068e_11 ?_
      refine z_cSs (k := 2) [.ref x, .int j] hX (fun l hl => c_sch1 l hl M x i j hi hx h0 h1) dJ0_charAt_5068e_12 (swz 13 rfl) (swz 14 rfl) (swz 15 rfl) (swz 16 rfl) (by unfold okY; decide +kernel) rfl ⟨Nat.le_of_ble_eq_true rfl, Nat.le_of_ble_eq_true rfl⟩ (st := []) rfl (Nat.le_of_ble_eq_true rfl) rfl rfl ⟨Nat.le_refl _, Nat.le_refl _⟩ ?_
      obtain ⟨-, hL, -, hall⟩ := sb_all i hi
      obtain ⟨-, e2, e3⟩ := hall _ h1
      exact z_nret hX e3 dJ0_charAt_5068e_15 (Nat.le_refl _) (Nat.le_refl _)
    exact h _ rfl)
theorem z_slen (hX : okX X cc own R0 rt nL) {ix a : Nat} {f : Int32 → Option ρ} (hd : decode cc pc = .ok (.invokevirtual ix, 3)) (h1 : Cond.methodLink own ix yJ0_length_8abf5 ∈ TT) (hk0 : 0 = 0) (hcat : (st.map fun v => v.category).sum ≤ 8) (hfr : 3 ≤ R0.frames) (hlo : 81 ≤ R0.locals) (hCR : C ≤ R0.cells ∧ S ≤ R0.slots) (k : ∀ x, Zj X Qo C S (pc + 3) lv (.int x :: st) M (f x)) : Zj X Qo C S pc lv (.ref a :: st) M (sLen M a >>= f) := by
  unfold sLen
  cases hk : sIx M a with
  | none => exact z_noneB
  | some i =>
    obtain ⟨hi, hk2⟩ := sIx_spec hk
    exact z_cVs (k := 0) [] hX hi hk2 (fun l hl => c_slen l hl M a _ hi hk2) hd rfl h1 (swz 24 rfl) (swz 25 rfl) (swz 7 rfl) (swz 26 rfl) (by unfold okY; decide +kernel) rfl ⟨hfr, by show 8 + (1 + 11) + 60 ≤ _; omega⟩ rfl hcat rfl rfl hCR (k _)
theorem z_sch (hX : okX X cc own R0 rt nL) {ix a : Nat} {i : Int32} {f : Int32 → Option ρ} (hd : decode cc pc = .ok (.invokevirtual ix, 3)) (h1 : Cond.methodLink own ix yJ0_charAt_5068e ∈ TT) (hk0 : 0 = 0) (hcat : (st.map fun v => v.category).sum ≤ 8) (hfr : 7 ≤ R0.frames) (hlo : 181 ≤ R0.locals) (hCR : C ≤ R0.cells ∧ S ≤ R0.slots) (k : ∀ x, Zj X Qo C S (pc + 3) lv (.int x :: st) M (f x)) : Zj X Qo C S pc lv (.int i :: .ref a :: st) M (sCh M a i >>= f) := by
  unfold sCh
  cases hk : sIx M a with
  | none => exact z_noneB
  | some q =>
    obtain ⟨hi, hk2⟩ := sIx_spec hk
    by_cases hj : i < 0 ∨ (strB.getD q []).length ≤ i.toNatClampNeg
    · show Zj X Qo C S pc lv _ M ((if i < 0 ∨ (strB.getD q []).length ≤ i.toNatClampNeg then none else _) >>= f)
      rw [if_pos hj]; exact z_noneB
    · show Zj X Qo C S pc lv _ M ((if i < 0 ∨ (strB.getD q []).length ≤ i.toNatClampNeg then none else _) >>= f)
      rw [if_neg hj]
      exact z_cVs (k := 1) [.int i] hX hi hk2 (fun l hl => c_sch l hl M a _ i hi hk2 (fun h => hj (Or.inl h)) (Nat.not_le.mp fun h => hj (Or.inr h))) hd rfl h1 (swz 27 rfl) (swz 28 rfl) (swz 7 rfl) (swz 29 rfl) (by unfold okY; decide +kernel) rfl ⟨by show 4 + 1 ≤ _; omega, by show 8 + (2 + 11) + 104 ≤ _; omega⟩ rfl hcat rfl rfl hCR (k _)
end ZS
