section ZA
variable {ρ : Type} {X : Cxt} {Qo : ρ → State → Prop} {C S pc : Nat} {lv : List (Nat × Value)} {st : List Value} {M : Mem} {cc : ByteArray} {own : String} {R0 : Room} {rt : Option FieldType} {nL : Nat}
theorem Wd.cell {G : Gx} {M : Mem} {U : State} {H : Heap} {a : Nat} {x : ClassId × vp_A} (h : Wd G M U H) (hk : ow (mK M a).1) (hx : cE G M a = .inl x) : H[a]? = some (vp_cell x.1 x.2) ∧ gB G ≤ a := by
  obtain ⟨h1, h2⟩ := h.1 a hk
  rw [hx] at h1
  exact ⟨h1, h2⟩
theorem intArr {G : Gx} {M : Mem} {U : State} {H H0 : Heap} {locs : List Loc} {a : Nat} (hW : Wd G M U H) (hF : Wf G M U H0) (hS : va_S (gAA G) H0 H locs) (hk : (mK M a).1 = 20 ∨ (mK M a).1 = 25) : ∃ scr : Cell, H[a]? = some scr ∧ U.isArrayOf scr .int ∧ scr.vm ≠ .unknown ∧ (mK M a).2 ≤ scr.slots.size ∧ scr.slots.size.toInt32 = Int32.ofNat (mK M a).2 ∧ ∀ j : Nat, j < (mK M a).2 → scr.slots[j]? = some (.int (mI M a j)) := by
  rcases hk with hk | hk
  · obtain ⟨h1, h2⟩ := hW.cell (by rw [hk]; exact Or.inr ⟨by omega, by omega⟩) (cE_I (G := G) hk)
    have hsz : (vp_cell (gA G 0) ((mK M a).2, .inl (mI M a))).slots.size = (mK M a).2 := arrV_size _ _ _
    refine ⟨_, h1, (hW.2.2.2 0 _ rfl).1 _ _, fun q => (by cases q), Nat.le_of_eq hsz.symm, by rw [hsz]; first | done | rfl, fun j hj => ?_⟩
    · show (arrV _ _ _).slots[j]? = _
      exact arrV_read _ _ hj
  · obtain ⟨⟨scr, h1, h2, h3, h4, h5, h7, h8⟩, h6⟩ := hF.1 a hk
    refine ⟨scr, ?_, h2, h3, h4, h5, h7⟩
    rw [hS.2.1 a (Nat.lt_of_lt_of_le h6 hF.2.2.2.2.2) (fun z => Nat.lt_irrefl _ (Nat.lt_of_lt_of_le h6 z))]
    exact h1
theorem z_aI (hX : okX X cc own R0 rt nL) {a : Nat} {i : Int32} {f : Int32 → Option ρ} (hd : decode cc pc = .ok (.iaload, 1)) (k : ∀ x, Zj X Qo C S (pc + 1) lv (.int x :: st) M (f x)) : Zj X Qo C S pc lv (.int i :: .ref a :: st) M (aI M a i >>= f) := by
  unfold aI
  by_cases hk : (mK M a).1 = 20 ∨ (mK M a).1 = 25
  · rw [if_pos hk]
    by_cases hi : i < 0 ∨ (mK M a).2 ≤ i.toNatClampNeg
    · rw [if_pos hi]; exact z_noneB
    · rw [if_neg hi]
      obtain ⟨p, l, e, R, s, m, args, below, meth, c, G, n9⟩ := X
      obtain ⟨hx, hb, hml, hown, hts, hFo, hlk2, hR, hstk, hrt, hnL⟩ := hX
      intro out ho H locs ls hW hF hS hl
      obtain ⟨scr, h1, h2, h3, h4, h9, h5⟩ := intArr hW hF hS hk
      have hlt : i.toNatClampNeg < (mK M a).2 := Nat.not_le.mp fun q => hi (Or.inr q)
      exact W.iald (v := .int (mI M a i.toNatClampNeg)) hx hb h1 h2 h3 (fun q => hi (q.imp (fun z => z) (fun z => Nat.le_trans h4 z))) (h5 _ hlt) rfl rfl hd (k _ out ho H locs ls hW hF hS hl)
  · rw [if_neg hk]; exact z_noneB
theorem z_aB (hX : okX X cc own R0 rt nL) {a : Nat} {i : Int32} {f : Int32 → Option ρ} (hd : decode cc pc = .ok (.baload, 1)) (k : ∀ x, Zj X Qo C S (pc + 1) lv (.int x :: st) M (f x)) : Zj X Qo C S pc lv (.int i :: .ref a :: st) M (aB M a i >>= f) := by
  unfold aB
  by_cases hk : (mK M a).1 = 21
  · rw [if_pos hk]
    by_cases hi : i < 0 ∨ (mK M a).2 ≤ i.toNatClampNeg
    · rw [if_pos hi]; exact z_noneB
    · rw [if_neg hi]
      obtain ⟨p, l, e, R, s, m, args, below, meth, c, G, n9⟩ := X
      obtain ⟨hx, hb, hml, hown, hts, hFo, hlk2, hR, hstk, hrt, hnL⟩ := hX
      intro out ho H locs ls hW hF hS hl
      obtain ⟨h1, h2⟩ := hW.cell (by rw [hk]; exact Or.inr ⟨by omega, by omega⟩) (cE_B (G := G) hk)
      have hlt : i.toNatClampNeg < (mK M a).2 := Nat.not_le.mp fun q => hi (Or.inr q)
      exact W.bald (v := .int (mI M a i.toNatClampNeg)) hx hb h1 ((hW.2.2.2 1 _ rfl).1 _ (fun j => .int (mI M a j))) (fun q => (by cases q)) (by show ¬ (i < 0 ∨ (arrV _ _ _).slots.size ≤ _); rw [arrV_size]; exact hi) (by show (arrV _ _ _).slots[_]? = _; exact arrV_read _ _ hlt) rfl rfl hd (k _ out ho H locs ls hW hF hS hl)
  · rw [if_neg hk]; exact z_noneB
theorem z_aL (hX : okX X cc own R0 rt nL) {a : Nat} {i : Int32} {f : Int64 → Option ρ} (hd : decode cc pc = .ok (.laload, 1)) (k : ∀ x, Zj X Qo C S (pc + 1) lv (.long x :: st) M (f x)) : Zj X Qo C S pc lv (.int i :: .ref a :: st) M (aL M a i >>= f) := by
  unfold aL
  by_cases hk : (mK M a).1 = 22
  · rw [if_pos hk]
    by_cases hi : i < 0 ∨ (mK M a).2 ≤ i.toNatClampNeg
    · rw [if_pos hi]; exact z_noneB
    · rw [if_neg hi]
      obtain ⟨p, l, e, R, s, m, args, below, meth, c, G, n9⟩ := X
      obtain ⟨hx, hb, hml, hown, hts, hFo, hlk2, hR, hstk, hrt, hnL⟩ := hX
      intro out ho H locs ls hW hF hS hl
      obtain ⟨h1, h2⟩ := hW.cell (by rw [hk]; exact Or.inr ⟨by omega, by omega⟩) (cE_L (G := G) hk)
      have hlt : i.toNatClampNeg < (mK M a).2 := Nat.not_le.mp fun q => hi (Or.inr q)
      exact W.lald (v := .long (mL M a i.toNatClampNeg)) hx hb h1 ((hW.2.2.2 2 _ rfl).1 _ (fun j => .long (mL M a j))) (fun q => (by cases q)) (by show ¬ (i < 0 ∨ (arrV _ _ _).slots.size ≤ _); rw [arrV_size]; exact hi) (by show (arrV _ _ _).slots[_]? = _; exact arrV_read _ _ hlt) rfl rfl hd (k _ out ho H locs ls hW hF hS hl)
  · rw [if_neg hk]; exact z_noneB
theorem z_aR (hX : okX X cc own R0 rt nL) {a : Nat} {i : Int32} {f : Nat → Option ρ} (hd : decode cc pc = .ok (.aaload, 1)) (k : ∀ x, Zj X Qo C S (pc + 1) lv (.ref x :: st) M (f x)) : Zj X Qo C S pc lv (.int i :: .ref a :: st) M (aR M a i >>= f) := by
  unfold aR
  by_cases hk : (mK M a).1 = 23
  · rw [if_pos hk]
    by_cases hi : i < 0 ∨ (mK M a).2 ≤ i.toNatClampNeg
    · rw [if_pos hi]; exact z_noneB
    · rw [if_neg hi]
      cases hr : mR M a i.toNatClampNeg with
      | none => exact z_noneB
      | some x =>
        obtain ⟨p, l, e, R, s, m, args, below, meth, c, G, n9⟩ := X
        obtain ⟨hx, hb, hml, hown, hts, hFo, hlk2, hR, hstk, hrt, hnL⟩ := hX
        intro out ho H locs ls hW hF hS hl
        obtain ⟨h1, h2⟩ := hW.cell (by rw [hk]; exact Or.inr ⟨by omega, by omega⟩) (cE_R (G := G) hk)
        have hlt : i.toNatClampNeg < (mK M a).2 := Nat.not_le.mp fun q => hi (Or.inr q)
        refine W.aald (v := .ref x) (ty := .array .int) hx hb h1 ((hW.2.2.2 3 _ rfl).1 _ (fun j => va_rf (mR M a j))) rfl (fun q => (by cases q)) (by show ¬ (i < 0 ∨ (arrV _ _ _).slots.size ≤ _); rw [arrV_size]; exact hi) ?_ rfl rfl hd (k x out ho H locs ls hW hF hS hl)
        show (arrV _ _ _).slots[_]? = _
        rw [arrV_read _ _ hlt, hr]
        rfl
  · rw [if_neg hk]; exact z_noneB
theorem z_aN (hX : okX X cc own R0 rt nL) {a : Nat} {f : Int32 → Option ρ} (hd : decode cc pc = .ok (.arraylength, 1)) (k : ∀ x, Zj X Qo C S (pc + 1) lv (.int x :: st) M (f x)) : Zj X Qo C S pc lv (.ref a :: st) M (aN M a >>= f) := by
  unfold aN
  by_cases hk : (mK M a).1 = 20 ∨ (mK M a).1 = 25
  · rw [if_pos hk]
    obtain ⟨p, l, e, R, s, m, args, below, meth, c, G, n9⟩ := X
    obtain ⟨hx, hb, hml, hown, hts, hFo, hlk2, hR, hstk, hrt, hnL⟩ := hX
    intro out ho H locs ls hW hF hS hl
    obtain ⟨scr, h1, h2, h3, h4, h9, h5⟩ := intArr hW hF hS hk
    exact W.alen (n := Int32.ofNat (mK M a).2) hx hb h1 h2 h9 rfl rfl hd (k _ out ho H locs ls hW hF hS hl)
  · rw [if_neg hk]; exact z_noneB
theorem arr_upd (cA : ClassId) (n k : Nat) (f : Nat → Int32) (x : Int32) : (vp_cell cA (n, .inl f)).setSlot k (.int x) = vp_cell cA (n, .inl (fun j => if j = k then x else f j)) := by
  rw [vp_cell_i, vp_cell_i, arrV_store]
  congr 1
  funext j
  unfold updV
  by_cases h : j = k
  · rw [if_pos h, if_pos h]
  · rw [if_neg h, if_neg h]
theorem arr_updL (cA : ClassId) (n k : Nat) (f : Nat → Int64) (x : Int64) : (vp_cell cA (n, .inr (.inl f))).setSlot k (.long x) = vp_cell cA (n, .inr (.inl (fun j => if j = k then x else f j))) := by
  rw [vp_cell_l, vp_cell_l, arrV_store]
  congr 1
  funext j
  unfold updV
  by_cases h : j = k
  · rw [if_pos h, if_pos h]
  · rw [if_neg h, if_neg h]
theorem z_wI (hX : okX X cc own R0 rt nL) {a : Nat} {i x : Int32} {f : Mem → Option ρ} (hd : decode cc pc = .ok (.iastore, 1)) (k : ∀ M' : Mem, Zj X Qo C S (pc + 1) lv st M' (f M')) : Zj X Qo C S pc lv (.int x :: .int i :: .ref a :: st) M (wI M a i x >>= f) := by
  unfold wI
  by_cases hk : (mK M a).1 = 20
  · rw [if_pos hk]
    by_cases hi : i < 0 ∨ (mK M a).2 ≤ i.toNatClampNeg
    · rw [if_pos hi]; exact z_noneB
    · rw [if_neg hi]
      obtain ⟨p, l, e, R, s, m, args, below, meth, c, G, n9⟩ := X
      obtain ⟨hx, hb, hml, hown, hts, hFo, hlk2, hR, hstk, hrt, hnL⟩ := hX
      intro out ho H locs ls hW hF hS hl
      have how : ow (mK M a).1 := by rw [hk]; exact Or.inr ⟨by omega, by omega⟩
      obtain ⟨h1, h2⟩ := hW.cell how (cE_I (G := G) hk)
      refine W.iast hx hb h1 ((hW.2.2.2 0 _ rfl).1 _ (fun j => .int (mI M a j))) (fun q => (by cases q)) (by show ¬ (i < 0 ∨ (arrV _ _ _).slots.size ≤ _); rw [arrV_size]; exact hi) rfl rfl hd fun H1 e z oq => ?_
      refine k _ out ho H1 _ ls (hW.upd (fun h => h) rfl (fun b hb => sI_eq hb) z oq (fun _ => ?_)) (hF.upd h2 rfl how (fun b hb => sI_eq hb)) (hS.put z oq h2) hl
      rw [cE_I (show (mK (sI M a i.toNatClampNeg x) a).1 = 20 from hk)]
      show H1[a]? = some (vp_cell _ _)
      rw [e]
      refine congrArg some (Eq.trans (arr_upd _ _ _ _ _) ?_)
      rw [show mI (sI M a i.toNatClampNeg x) a = fun j => if j = i.toNatClampNeg then x else mI M a j from up2_self]
      rfl
  · rw [if_neg hk]; exact z_noneB
theorem z_wB (hX : okX X cc own R0 rt nL) {a : Nat} {i x : Int32} {f : Mem → Option ρ} (hd : decode cc pc = .ok (.bastore, 1)) (k : ∀ M' : Mem, Zj X Qo C S (pc + 1) lv st M' (f M')) : Zj X Qo C S pc lv (.int x :: .int i :: .ref a :: st) M (wB M a i x >>= f) := by
  unfold wB
  by_cases hk : (mK M a).1 = 21
  · rw [if_pos hk]
    by_cases hi : i < 0 ∨ (mK M a).2 ≤ i.toNatClampNeg
    · rw [if_pos hi]; exact z_noneB
    · rw [if_neg hi]
      obtain ⟨p, l, e, R, s, m, args, below, meth, c, G, n9⟩ := X
      obtain ⟨hx, hb, hml, hown, hts, hFo, hlk2, hR, hstk, hrt, hnL⟩ := hX
      intro out ho H locs ls hW hF hS hl
      have how : ow (mK M a).1 := by rw [hk]; exact Or.inr ⟨by omega, by omega⟩
      obtain ⟨h1, h2⟩ := hW.cell how (cE_B (G := G) hk)
      refine W.bast hx hb h1 ((hW.2.2.2 1 _ rfl).1 _ (fun j => .int (mI M a j))) (fun q => (by cases q)) (by show ¬ (i < 0 ∨ (arrV _ _ _).slots.size ≤ _); rw [arrV_size]; exact hi) rfl rfl hd fun H1 e z oq => ?_
      refine k _ out ho H1 _ ls (hW.upd (fun h => h) rfl (fun b hb => sI_eq hb) z oq (fun _ => ?_)) (hF.upd h2 rfl how (fun b hb => sI_eq hb)) (hS.put z oq h2) hl
      rw [cE_B (show (mK (sI M a i.toNatClampNeg x.toInt8.toInt32) a).1 = 21 from hk)]
      show H1[a]? = some (vp_cell _ _)
      rw [e]
      refine congrArg some (Eq.trans (arr_upd _ _ _ _ _) ?_)
      rw [show mI (sI M a i.toNatClampNeg x.toInt8.toInt32) a = fun j => if j = i.toNatClampNeg then x.toInt8.toInt32 else mI M a j from up2_self]
      rfl
  · rw [if_neg hk]; exact z_noneB
theorem z_wL (hX : okX X cc own R0 rt nL) {a : Nat} {i : Int32} {x : Int64} {f : Mem → Option ρ} (hd : decode cc pc = .ok (.lastore, 1)) (k : ∀ M' : Mem, Zj X Qo C S (pc + 1) lv st M' (f M')) : Zj X Qo C S pc lv (.long x :: .int i :: .ref a :: st) M (wL M a i x >>= f) := by
  unfold wL
  by_cases hk : (mK M a).1 = 22
  · rw [if_pos hk]
    by_cases hi : i < 0 ∨ (mK M a).2 ≤ i.toNatClampNeg
    · rw [if_pos hi]; exact z_noneB
    · rw [if_neg hi]
      obtain ⟨p, l, e, R, s, m, args, below, meth, c, G, n9⟩ := X
      obtain ⟨hx, hb, hml, hown, hts, hFo, hlk2, hR, hstk, hrt, hnL⟩ := hX
      intro out ho H locs ls hW hF hS hl
      have how : ow (mK M a).1 := by rw [hk]; exact Or.inr ⟨by omega, by omega⟩
      obtain ⟨h1, h2⟩ := hW.cell how (cE_L (G := G) hk)
      refine W.last hx hb h1 ((hW.2.2.2 2 _ rfl).1 _ (fun j => .long (mL M a j))) (fun q => (by cases q)) (by show ¬ (i < 0 ∨ (arrV _ _ _).slots.size ≤ _); rw [arrV_size]; exact hi) rfl rfl hd fun H1 e z oq => ?_
      refine k _ out ho H1 _ ls (hW.upd (fun h => h) rfl (fun b hb => sL_eq hb) z oq (fun _ => ?_)) (hF.upd h2 rfl how (fun b hb => sL_eq hb)) (hS.put z oq h2) hl
      rw [cE_L (show (mK (sL M a i.toNatClampNeg x) a).1 = 22 from hk)]
      show H1[a]? = some (vp_cell _ _)
      rw [e]
      refine congrArg some (Eq.trans (arr_updL _ _ _ _ _) ?_)
      rw [show mL (sL M a i.toNatClampNeg x) a = fun j => if j = i.toNatClampNeg then x else mL M a j from up2_self]
      rfl
  · rw [if_neg hk]; exact z_noneB
/-- System.arraycopy of ints -/
theorem z_cpI (hX : okX X cc own R0 rt nL) {a b ix : Nat} {sp dp n : Int32} {f : Mem → Option ρ} (hd : decode cc pc = .ok (.invokestatic ix, 3)) (hlink : Cond.methodLink own ix arraycopyName ∈ TT) (hnat : Cond.native arraycopyName ∈ TT) (hstat : Cond.static arraycopyName ∈ TT) (hini : Cond.initialized "java/lang/System" ∈ TT)
    (hfr : 1 ≤ R0.frames) (hlo : (st.map fun v => v.category).sum + (nativeFrameWords "java/lang/System" "arraycopy" 5 + 11) ≤ R0.locals) (k : ∀ M' : Mem, Zj X Qo C S (pc + 3) lv st M' (f M')) : Zj X Qo C S pc lv (.int n :: .int dp :: .ref b :: .int sp :: .ref a :: st) M (cpI M a sp b dp n >>= f) := by
  unfold cpI
  by_cases hk : ((mK M a).1 = 20 ∨ (mK M a).1 = 25) ∧ (mK M b).1 = 20
  · rw [if_pos hk]
    by_cases hi : sp < 0 ∨ dp < 0 ∨ n < 0 ∨ (mK M a).2 < sp.toNatClampNeg + n.toNatClampNeg ∨ (mK M b).2 < dp.toNatClampNeg + n.toNatClampNeg
    · rw [if_pos hi]; exact z_noneB
    · rw [if_neg hi]
      simp only [not_or] at hi
      obtain ⟨h1, h2, h3, h4, h5⟩ := hi
      obtain ⟨p, l, e, R, s, m, args, below, meth, c, G, n9⟩ := X
      obtain ⟨hx, hb, hml, hown, hts, hFo, hlk2, hR, hstk, hrt, hnL⟩ := hX
      intro out ho H locs ls hW hF hS hl
      subst hR
      have nn : ∀ z : Int32, ¬ z < 0 → z.toInt = (z.toNatClampNeg : Int) := by
        intro z hz
        have hz0 : (0 : Int) ≤ z.toInt := by
          have := Int32.not_lt.mp hz
          simpa using Int32.le_iff_toInt_le.mp this
        show z.toInt = ((z.toInt.toNat : Nat) : Int)
        omega
      intro T hT Xs
      obtain ⟨scr, g1, g2, g3, g4, g9, g5⟩ := intArr hW hF hS hk.1
      have how : ow (mK M b).1 := by rw [hk.2]; exact Or.inr ⟨by omega, by omega⟩
      obtain ⟨hc1, hbB⟩ := hW.cell how (cE_I (G := G) hk.2)
      obtain ⟨hs6, k0, hk0, cm0, hkk0⟩ := g2
      obtain ⟨-, k1, hk1, cm1, hkk1⟩ := (hW.2.2.2 0 _ rfl).1 (mK M b).2 (fun j => .int (mI M b j))
      obtain ⟨vm', X', step⟩ := Xs.arraycopy hx hown (hts _ hlink) (hts _ hnat) (hts _ hstat) (hts _ hini) (src := a) (dst := b) (cs := scr) (cd := vp_cell (gA G 0) ((mK M b).2, .inl (mI M b))) (srcPos := sp) (destPos := dp) (n := n) (by rw [hT]; exact g1) (by rw [hT]; exact hc1)
        hs6 (fun _ h => by cases h) g3 (fun h => by cases h) hk0 hk1 hkk0 hkk1 (by simp [refKind]) h1 h2 h3
        (by rw [nn sp h1, nn n h3]; omega)
        (by rw [nn dp h2, nn n h3]; show ¬ _ > ((arrV (gA G 0) (mK M b).2 (fun j => .int (mI M b j))).slots.size : Int); rw [arrV_size]; omega)
        (fun vm₁ _ i hi => by
          have e : scr.slots.getD (sp.toNatClampNeg + i) .null = .int (mI M a (sp.toNatClampNeg + i)) := by
            rw [Array.getD_eq_getD_getElem?, g5 _ (by omega)]
            rfl
          refine ⟨?_, ?_⟩
          · rw [e]
            rfl
          · rw [e]
            exact trivial)
        (g := F0 m pc ls (.int n :: .int dp :: .ref b :: .int sp :: .ref a :: st)) rfl (by rw [hml, ← hnL]; exact hl.1) (rest := st) rfl (by rw [hb]; exact hd) hfr (by show 2 * 0 + _ + _ ≤ _; omega)
      have e1 : copied scr (vp_cell (gA G 0) ((mK M b).2, .inl (mI M b))) sp dp n = vp_cell (gA G 0) ((mK M b).2, .inl (va_cpy (mI M a) (mI M b) sp.toNatClampNeg dp.toNatClampNeg n.toNatClampNeg)) := va_copiedX (fun z => .int z) scr (gA G 0) (mI M a) (mI M b) g5 (by omega)
      rw [e1] at X' step
      have hlt : b < H.size := (Array.getElem?_eq_some_iff.mp hc1).1
      generalize hcell : vp_cell (gA G 0) ((mK M b).2, .inl (va_cpy (mI M a) (mI M b) sp.toNatClampNeg dp.toNatClampNeg n.toNatClampNeg)) = cell at X' step
      have hheap : ((T.setVm vm').setCell b cell).heap = H.setIfInBounds b cell := by rw [← hT]; rfl
      have oq : ∀ q : Nat, q ≠ b → (H.setIfInBounds b cell)[q]? = H[q]? := fun q hq => by simp [Array.getElem?_setIfInBounds, Ne.symm hq]
      obtain ⟨t, a1, b1⟩ := k _ out ho (H.setIfInBounds b cell) _ ls (hW.upd (a := b) (fun h => h) rfl (fun q hq => sC_eq hq) (by simp) oq (fun _ => by
          rw [cE_I (show (mK (sC M a sp.toNatClampNeg b dp.toNatClampNeg n.toNatClampNeg) b).1 = 20 from hk.2)]
          show (H.setIfInBounds b cell)[b]? = some (vp_cell _ _)
          rw [← hcell]
          simp only [Array.getElem?_setIfInBounds, hlt, if_true]
          refine congrArg some (congrArg (vp_cell (gA G 0)) (Prod.ext rfl (congrArg Sum.inl ?_)))
          funext q
          show va_cpy _ _ _ _ _ q = (if b = b ∧ _ ∧ _ then _ else _)
          unfold va_cpy
          by_cases hq : dp.toNatClampNeg ≤ q ∧ q < dp.toNatClampNeg + n.toNatClampNeg
          · rw [if_pos hq, if_pos ⟨rfl, hq⟩]
          · rw [if_neg hq, if_neg (fun z => hq z.2)])) (hF.upd hbB rfl how (fun q hq => sC_eq hq)) ⟨by simp; exact hS.1, fun q g1 g2 => by
          rw [oq q (fun e => g2 (by rw [e]; exact hbB))]
          exact hS.2.1 q g1 g2, fun q hq => by
          rcases List.mem_append.mp hq with h | h
          · exact hS.2.2 q h
          · obtain ⟨z, -, hz⟩ := List.mem_map.mp h
            rw [← hz]
            exact hbB⟩ hl _ hheap X'
      exact ⟨t, step t a1, b1⟩
  · rw [if_neg hk]; exact z_noneB
end ZA
