section ZN
variable {ρ : Type} {X : Cxt} {Qo : ρ → State → Prop} {C S pc : Nat} {lv : List (Nat × Value)} {st : List Value} {M : Mem} {cc : ByteArray} {own : String} {R0 : Room} {rt : Option FieldType} {nL : Nat}
/-! ===== making cells ===== -/
theorem Wd.grow {G : Gx} {M M' : Mem} {U : State} {H H1 : Heap} {n : Nat} (h : Wd G M U H) (hz : mN M = some H.size) (hN : mN M' = some H1.size) (z : H1.size = H.size + n) (hB : gB G ≤ H.size) (oq : ∀ q : Nat, q < H.size → H1[q]? = H[q]?) (he : ∀ b, (b < H.size ∨ H.size + n ≤ b) → eqA M M' b) (hlt : ∀ b, ow (mK M b).1 → b < H.size)
    (hnew : ∀ b, H.size ≤ b → b < H.size + n → ow (mK M' b).1 → va_at (gD G) vwCl (b, cE G M' b) H1) : Wd G M' U H1 := by
  refine ⟨fun b hb => ?_, fun k hk => ?_, h.2.2⟩
  · by_cases h1 : H.size ≤ b ∧ b < H.size + n
    · exact ⟨hnew b h1.1 h1.2 hb, Nat.le_trans hB h1.1⟩
    · have e := he b (by omega)
      rw [e.1] at hb
      rw [cE_eq e]
      exact ⟨(h.1 b hb).1.kept (oq b (hlt b hb)), (h.1 b hb).2⟩
  · rw [hN] at hk
    exact Option.some.inj hk
theorem Wd.lt {G : Gx} {M : Mem} {U : State} {H : Heap} {b : Nat} (h : Wd G M U H) (hb : ow (mK M b).1) : b < H.size := (h.1 b hb).1.lt
theorem Wf.grow {G : Gx} {M M' : Mem} {U : State} {H0 : Heap} {lo n : Nat} (h : Wf G M U H0) (hB : gB G ≤ lo) (he : ∀ b, (b < lo ∨ lo + n ≤ b) → eqA M M' b) (hn : ∀ b, lo ≤ b → b < lo + n → (mK M' b).1 ≠ 25 ∧ (mK M' b).1 ≠ 24) : Wf G M' U H0 := by
  have key : ∀ b, (mK M' b).1 = 25 ∨ (mK M' b).1 = 24 → eqA M M' b := by
    intro b hb
    by_cases h1 : lo ≤ b ∧ b < lo + n
    · have := hn b h1.1 h1.2
      omega
    · exact he b (by omega)
  have h0 : eqA M M' 0 := he 0 (Or.inl (by have := h.2.2.2.2.1; omega))
  refine ⟨fun b hb => ?_, trivial, fun j hj => ?_, fun i hi => ?_, h.2.2.2.2⟩
  · have e := key b (Or.inl hb)
    rw [e.1] at hb ⊢
    rw [e.2.1]
    exact h.1 b hb
  · rw [h0.2.2.2]; exact h.2.2.1 j hj
  · rw [h0.2.2.2]; exact h.2.2.2.1 i hi
theorem sA_K {M : Mem} {a : Nat} {k : Nat × Nat} : mK (sA M a k) a = k := if_pos rfl
theorem sA_I {M : Mem} {a : Nat} {k : Nat × Nat} : mI (sA M a k) a = fun _ => 0 := by funext j; exact if_pos rfl
theorem sA_L {M : Mem} {a : Nat} {k : Nat × Nat} : mL (sA M a k) a = fun _ => 0 := by funext j; exact if_pos rfl
theorem sA_R {M : Mem} {a : Nat} {k : Nat × Nat} : mR (sA M a k) a = fun _ => none := by funext j; exact if_pos rfl
theorem dv_ok : ∀ ci, ci < 10 → ∀ q, vwCl[ci]? = some q → ∀ j, j < q.2.2 → ∀ M a, defaultValue (tyA ci j) = fvl (sA M a (ci, 0)) (ft ci j) a j := by
  have h : ∀ ci, ci < 10 → (List.range (nF ci)).all (fun j => defaultValue (tyA ci j) = (if ft ci j = 0 then .int 0 else if ft ci j = 1 then .long 0 else .null)) = true := by decide +kernel
  intro ci hci q hq j hj M a
  have h1 := List.all_eq_true.mp (h ci hci) j (List.mem_range.mpr (by rw [← (un_ok ci hci _ hq).1]; exact hj))
  rw [of_decide_eq_true h1]
  unfold fvl
  rw [sA_I, sA_L, sA_R]
  rfl
theorem z_new {q : vw_C} (ci : Nat) (hX : okX X cc own R0 rt nL) {ix : Nat} {f : Nat × Mem → Option ρ} {C' S' : Nat} (hci : ci < 10) (hq : vwCl[ci]? = some q) (hlk : Cond.classLink own ix q.1 ∈ TT) (hins : Cond.instantiable q.1 q.2.2 ∈ TT) (hini : Cond.initialized q.1 ∈ TT) (hd : decode cc pc = .ok (.new ix, 3)) (hC : C + 1 = C') (hS2 : S + q.2.2 = S') (hC2 : C' ≤ R0.cells) (hS3 : S' ≤ R0.slots)
    (k : ∀ o : Nat × Mem, Zj X Qo C' S' (pc + 3) lv (.ref o.1 :: st) o.2 (f o)) : Zj X Qo C S pc lv st M (nwO M ci >>= f) := by
  unfold nwO
  cases hz : mN M with
  | none => exact z_noneB
  | some a =>
    obtain ⟨p, l, e, R, s, m, args, below, meth, c, G, n9⟩ := X
    obtain ⟨hx, hb, hml, hown, hts, hFo, hlk2, hR, hstk, hrt, hnL⟩ := hX
    intro out ho H locs ls hW hF hS hl
    subst hR; subst hC; subst hS2
    obtain ⟨C0, T0, N0⟩ := q
    have ha : H.size = a := hW.2.1 a hz
    subst ha
    have hKn := hW.2.2.1 ci _ hq
    have hB : gB G ≤ H.size := Nat.le_trans hF.2.2.2.2.2 hS.1
    refine W.newcK hx hb hown (hts _ hlk) (hts _ hins) (hts _ hini) rfl hd hC2 hS3 hKn.2.1 rfl fun H1 kC hkC e1 z1 o1 => ?_
    have he : ∀ b, (b < H.size ∨ H.size + 1 ≤ b) → eqA M (sA M H.size (ci, 0)) b := fun b hb => sA_eq (by omega)
    refine k (H.size, _) out ho H1 _ ls (hW.grow (n := 1) hz (by rw [z1]; rfl) z1 hB o1 he (fun b hb => hW.lt hb) ?_) (hF.grow hB he ?_) ⟨by rw [z1]; exact Nat.le_succ_of_le hS.1, fun x h1 h2 => (o1 x (Nat.lt_of_lt_of_le h1 hS.1)).trans (hS.2.1 x h1 h2), hS.2.2⟩ hl
    · intro b h1 h2 _
      have hbe : b = H.size := by omega
      subst hbe
      rw [cE_o (by rw [sA_K]) hci]
      refine ⟨_, hq, (u_born (tyA ci) hts (uw hq) hKn hkC e1 (ut_ok ci hci _ hq)).to (fun j hj => ?_)⟩
      rw [dv_ok ci hci _ hq j hj M H.size]
      unfold vp_V
      rw [List.getD_eq_getElem?_getD, fsO_at (by rw [← (un_ok ci hci _ hq).1]; exact hj)]
      rfl
    · intro b h1 h2
      have hbe : b = H.size := by omega
      subst hbe
      rw [sA_K]
      exact ⟨by show ci ≠ 25; omega, by show ci ≠ 24; omega⟩
/-- new T[n] of ints, bytes, longs -/
theorem z_newA (code N : Nat) (hX : okX X cc own R0 rt nL) {aty : ArrayType} {n : Int32} {f : Nat × Mem → Option ρ} {C' S' : Nat} (hct : (code = 20 ∧ newarray.typeOf aty = .int) ∨ (code = 21 ∧ newarray.typeOf aty = .byte) ∨ (code = 22 ∧ newarray.typeOf aty = .long)) (harr : Cond.arrayClass (newarray.typeOf aty) ∈ TT) (hn : ¬ n < 0) (hN : n.toNatClampNeg = N) (hby : N * componentBytes (newarray.typeOf aty) ≤ 536870912) (hd : decode cc pc = .ok (.newarray aty, 2)) (hC : C + 1 = C') (hS2 : S + N = S') (hC2 : C' ≤ R0.cells) (hS3 : S' ≤ R0.slots)
    (k : ∀ o : Nat × Mem, Zj X Qo C' S' (pc + 2) lv (.ref o.1 :: st) o.2 (f o)) : Zj X Qo C S pc lv (.int n :: st) M (nwA M code N >>= f) := by
  unfold nwA
  cases hz : mN M with
  | none => exact z_noneB
  | some a =>
    obtain ⟨p, l, e, R, s, m, args, below, meth, c, G, n9⟩ := X
    obtain ⟨hx, hb, hml, hown, hts, hFo, hlk2, hR, hstk, hrt, hnL⟩ := hX
    intro out ho H locs ls hW hF hS hl
    subst hR; subst hC; subst hS2
    have ha : H.size = a := hW.2.1 a hz
    subst ha
    have hB : gB G ≤ H.size := Nat.le_trans hF.2.2.2.2.2 hS.1
    refine va_newaK hx hb (hts _ harr) rfl hd rfl hn hN hby hC2 hS3 rfl fun H1 cA e1 z1 o1 hAr hNm => ?_
    have he : ∀ b, (b < H.size ∨ H.size + 1 ≤ b) → eqA M (sA M H.size (code, N)) b := fun b hb => sA_eq (by omega)
    refine k (H.size, _) out ho H1 _ ls (hW.grow (n := 1) hz (by rw [z1]; rfl) z1 hB o1 he (fun b hb => hW.lt hb) ?_) (hF.grow hB he ?_) ⟨by rw [z1]; exact Nat.le_succ_of_le hS.1, fun x h1 h2 => (o1 x (Nat.lt_of_lt_of_le h1 hS.1)).trans (hS.2.1 x h1 h2), hS.2.2⟩ hl
    · intro b h1 h2 _
      have hbe : b = H.size := by omega
      subst hbe
      rcases hct with ⟨hc, hy⟩ | ⟨hc, hy⟩ | ⟨hc, hy⟩
      · rw [cE_I (by rw [sA_K]; exact hc), sA_K, sA_I]
        have hA : gA G 0 = cA := Option.some.inj (((hW.2.2.2 0 _ rfl).2 : s.vm.findClass ("[" ++ FieldType.int.toString) = _).symm.trans (by rw [hy] at hNm; exact hNm))
        show H1[H.size]? = some (vp_cell _ _)
        rw [e1, hy, hA]
        rfl
      · rw [cE_B (by rw [sA_K]; exact hc), sA_K, sA_I]
        have hA : gA G 1 = cA := Option.some.inj (((hW.2.2.2 1 _ rfl).2 : s.vm.findClass ("[" ++ FieldType.byte.toString) = _).symm.trans (by rw [hy] at hNm; exact hNm))
        show H1[H.size]? = some (vp_cell _ _)
        rw [e1, hy, hA]
        rfl
      · rw [cE_L (by rw [sA_K]; exact hc), sA_K, sA_L]
        have hA : gA G 2 = cA := Option.some.inj (((hW.2.2.2 2 _ rfl).2 : s.vm.findClass ("[" ++ FieldType.long.toString) = _).symm.trans (by rw [hy] at hNm; exact hNm))
        show H1[H.size]? = some (vp_cell _ _)
        rw [e1, hy, hA]
        rfl
    · intro b h1 h2
      have hbe : b = H.size := by omega
      subst hbe
      rw [sA_K]
      refine ⟨?_, ?_⟩ <;> (show code ≠ _; omega)
/-- new int[n][k] -/
theorem z_new2 (N K : Nat) (hX : okX X cc own R0 rt nL) {ix : Nat} {n kk : Int32} {f : Nat × Mem → Option ρ} {C' S' : Nat} (hlk : Cond.classLink own ix "[[I" ∈ TT) (harr : Cond.arrayClass .int ∈ TT) (hn : ¬ n < 0) (hk : ¬ kk < 0) (hN : n.toNatClampNeg = N) (hK : kk.toNatClampNeg = K) (hb1 : N * 4 ≤ 536870912) (hb2 : K * 4 ≤ 536870912) (hd : decode cc pc = .ok (.multianewarray ix 2, 4)) (hC : C + 1 + N = C') (hS2 : S + N + N * K = S') (hC2 : C' ≤ R0.cells) (hS3 : S' ≤ R0.slots)
    (k : ∀ o : Nat × Mem, Zj X Qo C' S' (pc + 4) lv (.ref o.1 :: st) o.2 (f o)) : Zj X Qo C S pc lv (.int kk :: .int n :: st) M (nw2 M N K >>= f) := by
  unfold nw2
  cases hz : mN M with
  | none => exact z_noneB
  | some a =>
    obtain ⟨p, l, e, R, s, m, args, below, meth, c, G, n9⟩ := X
    obtain ⟨hx, hb, hml, hown, hts, hFo, hlk2, hR, hstk, hrt, hnL⟩ := hX
    intro out ho H locs ls hW hF hS hl
    subst hR; subst hC; subst hS2; subst hN; subst hK
    have ha : H.size = a := hW.2.1 a hz
    subst ha
    have hB : gB G ≤ H.size := Nat.le_trans hF.2.2.2.2.2 hS.1
    intro T hT Xs
    obtain ⟨vm₁, cA, comp, -, fA, fC, hO, -, X', step⟩ := Xs.multianewarray2F (ty := .int) hx hown (hts _ hlk) (show (Cond.arrayOver (.array .int)).before args s = true from hFo.2.2.2.2.1) (hts _ harr) (g := F0 m pc ls (.int kk :: .int n :: st)) rfl (by rw [hb]; exact hd) rfl hn hk hb1 hb2 (by omega) rfl rfl (by omega) (by omega)
    have hcy : s.vm.findClass (FieldType.array FieldType.int).toString = some (gA G 0) := (hW.2.2.2 0 _ rfl).2
    have hcA : s.vm.findClass ("[" ++ (FieldType.array FieldType.int).toString) = some (gA G 3) := (hW.2.2.2 3 _ rfl).2
    cases Option.some.inj (hcy.symm.trans fC)
    cases Option.some.inj (hcA.symm.trans fA)
    generalize hFg : Jvm.Free.Multi.fill (T.setVm vm₁) (gA G 3) (gA G 0) n.toNatClampNeg kk.toNatClampNeg (defaultValue .int) n.toNatClampNeg = F at X' step
    have hTh : (T.setVm vm₁).heap = H := hT
    obtain ⟨f1, f2, -, -⟩ := Jvm.Free.Multi.fill_facts (T.setVm vm₁) (gA G 3) (gA G 0) n.toNatClampNeg kk.toNatClampNeg (defaultValue .int) n.toNatClampNeg
    rw [hFg, hTh] at f1 f2
    have hold : ∀ x : Nat, x < H.size → F.heap[x]? = H[x]? := fun x hx => by
      have := Jvm.Free.Multi.fill_old (T.setVm vm₁) (gA G 3) (gA G 0) n.toNatClampNeg kk.toNatClampNeg (defaultValue .int) (a := x) (by rw [hTh]; exact hx) n.toNatClampNeg
      rw [hFg, hTh] at this
      exact this
    have hrow : ∀ j : Nat, j < n.toNatClampNeg → F.heap[H.size + 1 + j]? = some (vp_cell (gA G 0) (kk.toNatClampNeg, .inl (fun _ => 0))) := fun j hj => by
      have := Jvm.Free.Multi.fill_inner (T.setVm vm₁) (gA G 3) (gA G 0) n.toNatClampNeg kk.toNatClampNeg (defaultValue .int) n.toNatClampNeg j hj
      rw [hFg, hTh] at this
      rw [this]
      refine congrArg some ?_
      exact arrV_new _ _ _
    have hout : Jvm.Free.Multi.outerC (gA G 3) n.toNatClampNeg H.size n.toNatClampNeg = vp_cell (gA G 3) (n.toNatClampNeg, .inr (.inr (.inr (.inr (fun i => if i < n.toNatClampNeg then some (H.size + 1 + i) else none))))) := by
      rw [vp_cell_q]
      exact vr_outer (gA G 3) n.toNatClampNeg H.size n.toNatClampNeg
    rw [hout] at f2
    have f1' : F.heap.size = H.size + (1 + n.toNatClampNeg) := by rw [f1]; omega
    have he : ∀ b, (b < H.size ∨ H.size + (1 + n.toNatClampNeg) ≤ b) → eqA M (sA2 M H.size n.toNatClampNeg kk.toNatClampNeg) b := by
      intro b hb
      have c1 : ¬ b = H.size := by omega
      have c2 : ¬ (H.size < b ∧ b ≤ H.size + n.toNatClampNeg) := by omega
      have c3 : ¬ (H.size ≤ b ∧ b ≤ H.size + n.toNatClampNeg) := by omega
      refine ⟨?_, ?_, ?_, ?_⟩
      · show (if b = H.size then _ else if _ then _ else _) = _
        rw [if_neg c1, if_neg c2]
      · funext j
        show (if _ then _ else _) = _
        rw [if_neg c3]
      · funext j
        show (if _ then _ else _) = _
        rw [if_neg c3]
      · funext j
        show (if b = H.size then _ else if _ then _ else _) = _
        rw [if_neg c1, if_neg c2]
    have kOut : mK (sA2 M H.size n.toNatClampNeg kk.toNatClampNeg) H.size = (23, n.toNatClampNeg) := if_pos rfl
    have kIn : ∀ b, H.size < b → b < H.size + (1 + n.toNatClampNeg) → mK (sA2 M H.size n.toNatClampNeg kk.toNatClampNeg) b = (20, kk.toNatClampNeg) := fun b h1 h2 => by
      show (if b = H.size then _ else if _ then _ else _) = _
      rw [if_neg (by omega), if_pos (by omega)]
    obtain ⟨t, a1, b1⟩ := k (H.size, _) out ho F.heap locs ls (hW.grow (n := 1 + n.toNatClampNeg) hz (by rw [f1]; rfl) f1' hB hold he (fun b hb => hW.lt hb) (fun b h1 h2 _ => by
        by_cases hbe : b = H.size
        · subst hbe
          rw [cE_R (by rw [kOut]), kOut]
          show F.heap[H.size]? = some (vp_cell _ _)
          rw [f2]
          refine congrArg some (congrArg (vp_cell (gA G 3)) (Prod.ext rfl (congrArg (fun z => Sum.inr (Sum.inr (Sum.inr (Sum.inr z)))) ?_)))
          funext j
          show _ = (if H.size = H.size then _ else _)
          rw [if_pos rfl]
        · rw [cE_I (by rw [kIn b (by omega) h2]), kIn b (by omega) h2]
          show F.heap[b]? = some (vp_cell _ _)
          have := hrow (b - (H.size + 1)) (by omega)
          rw [show H.size + 1 + (b - (H.size + 1)) = b by omega] at this
          rw [this]
          refine congrArg some (congrArg (vp_cell (gA G 0)) (Prod.ext rfl (congrArg Sum.inl ?_)))
          funext j
          show _ = (if _ then _ else _)
          rw [if_pos (by omega)])) (hF.grow (n := 1 + n.toNatClampNeg) hB he (fun b h1 h2 => by
        by_cases hbe : b = H.size
        · subst hbe; rw [kOut]; exact ⟨by show (23 : Nat) ≠ 25; decide, by show (23 : Nat) ≠ 24; decide⟩
        · rw [kIn b (by omega) h2]; exact ⟨by show (20 : Nat) ≠ 25; decide, by show (20 : Nat) ≠ 24; decide⟩)) ⟨by rw [f1']; have := hS.1; omega, fun x h1 h2 => (hold x (Nat.lt_of_lt_of_le h1 hS.1)).trans (hS.2.1 x h1 h2), hS.2.2⟩ hl F rfl X'
    refine ⟨t, step t ?_, b1⟩
    have e : T.heap.size = H.size := by rw [hT]
    rw [e]
    exact a1
/-! ===== statics and texts ===== -/
theorem z_gST (j : Nat) (hX : okX X cc RX8 R0 rt nL) {nm : String} (hj : j < 3) (hnm : nm = ["FIRST_SETTINGS", "LEAST_SETTINGS", "MOST_SETTINGS"].getD j "") {ix : Nat} {f : Nat → Option ρ} (hlk : Cond.fieldLink RX8 ix "ParticipatoryBudget" nm "[I" ∈ TT) (hd : decode cc pc = .ok (.getstatic ix, 3)) (k : ∀ x, Zj X Qo C S (pc + 3) lv (.ref x :: st) M (f x)) : Zj X Qo C S pc lv st M (gST M j >>= f) := by
  obtain ⟨p, l, e, R, s, m, args, below, meth, c, G, n9⟩ := X
  obtain ⟨hx, hb, hml, hown, hts, hFo, hlk2, hR, hstk, hrt, hnL⟩ := hX
  intro out ho H locs ls hW hF hS hl
  unfold gST at ho
  rw [hF.2.2.1 j hj] at ho
  have hZ : va_Z "ParticipatoryBudget" nm "[I" (.ref (gF G j)) (gAA G) s s.heap := by
    subst hnm
    match j, hj with
    | 0, _ => exact hFo.1.1
    | 1, _ => exact hFo.1.2.1
    | 2, _ => exact hFo.1.2.2.1
  exact va_gets hx hb hZ hS hown (hts _ hlk) (fun _ h => h) hd (k (gF G j) out ho H locs ls hW hF hS hl)
theorem z_ldcS (i : Nat) (hX : okX X cc RX7 R0 rt nL) (hi : i < 10) {ix : Nat} {f : Nat → Option ρ} (hix : strX.getD i 0 = ix) (hd : decode cc pc = .ok (.ldc ix, 2)) (k : ∀ x, Zj X Qo C S (pc + 2) lv (.ref x :: st) M (f x)) : Zj X Qo C S pc lv st M (gST M (10 + i) >>= f) := by
  obtain ⟨p, l, e, R, s, m, args, below, meth, c, G, n9⟩ := X
  obtain ⟨hx, hb, hml, hown, hts, hFo, hlk2, hR, hstk, hrt, hnL⟩ := hX
  intro out ho H locs ls hW hF hS hl
  unfold gST at ho
  rw [(hF.2.2.2.1 i hi).1] at ho
  subst hix
  exact va_ldcS hx hb hown (hFo.2.2.2.1 i hi) hd (k (gS G i) out ho H locs ls hW hF hS hl)
end ZN
