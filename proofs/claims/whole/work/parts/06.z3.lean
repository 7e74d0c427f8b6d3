/-! ===== cells and memories ===== -/
theorem ow_o {k : Nat} (h : k < 10) : ow k := Or.inl h
theorem cE_o {G : Gx} {M : Mem} {a ci : Nat} (h : (mK M a).1 = ci) (hc : ci < 10) : cE G M a = .inr (ci, fsO M ci a) := by
  unfold cE
  rw [h, if_neg (by omega), if_neg (by omega), if_neg (by omega), if_neg (by omega)]
theorem cE_I {G : Gx} {M : Mem} {a : Nat} (h : (mK M a).1 = 20) : cE G M a = .inl (gA G 0, (mK M a).2, .inl (mI M a)) := by
  unfold cE
  rw [if_pos h]
theorem cE_B {G : Gx} {M : Mem} {a : Nat} (h : (mK M a).1 = 21) : cE G M a = .inl (gA G 1, (mK M a).2, .inl (mI M a)) := by
  unfold cE
  rw [if_neg (by omega), if_pos h]
theorem cE_L {G : Gx} {M : Mem} {a : Nat} (h : (mK M a).1 = 22) : cE G M a = .inl (gA G 2, (mK M a).2, .inr (.inl (mL M a))) := by
  unfold cE
  rw [if_neg (by omega), if_neg (by omega), if_pos h]
theorem cE_R {G : Gx} {M : Mem} {a : Nat} (h : (mK M a).1 = 23) : cE G M a = .inl (gA G 3, (mK M a).2, .inr (.inr (.inr (.inr (mR M a))))) := by
  unfold cE
  rw [if_neg (by omega), if_neg (by omega), if_neg (by omega), if_pos h]
theorem fsO_at {M : Mem} {ci a j : Nat} (hj : j < nF ci) : (fsO M ci a)[j]? = some (fvl M (ft ci j) a j) := by
  unfold fsO
  rw [List.getElem?_map, List.getElem?_range hj]
  rfl
theorem fsO_len {M : Mem} {ci a : Nat} : (fsO M ci a).length = nF ci := by
  unfold fsO
  rw [List.length_map, List.length_range]
/-- two memories that say the same of a cell -/
def eqA (M M' : Mem) (b : Nat) : Prop := mK M' b = mK M b ∧ mI M' b = mI M b ∧ mL M' b = mL M b ∧ mR M' b = mR M b
theorem cE_eq {G : Gx} {M M' : Mem} {b : Nat} (h : eqA M M' b) : cE G M' b = cE G M b := by
  obtain ⟨h1, h2, h3, h4⟩ := h
  unfold cE fsO fvl
  rw [h1, h2, h3, h4]
theorem up2_z {α : Type} {f : Nat → Nat → α} {a j b : Nat} {x : α} (h : b ≠ a) : up2 f a j x b = f b := by
  funext k
  unfold up2
  rw [if_neg (fun q => h q.1)]
theorem up2_self {α : Type} {f : Nat → Nat → α} {a j : Nat} {x : α} : up2 f a j x a = fun k => if k = j then x else f a k := by
  funext k
  unfold up2
  by_cases h : k = j
  · rw [if_pos ⟨rfl, h⟩, if_pos h]
  · rw [if_neg (fun q => h q.2), if_neg h]
theorem sI_eq {M : Mem} {a j b : Nat} {x : Int32} (h : b ≠ a) : eqA M (sI M a j x) b := ⟨rfl, up2_z h, rfl, rfl⟩
theorem sL_eq {M : Mem} {a j b : Nat} {x : Int64} (h : b ≠ a) : eqA M (sL M a j x) b := ⟨rfl, rfl, up2_z h, rfl⟩
theorem sR_eq {M : Mem} {a j b : Nat} {x : Nat} (h : b ≠ a) : eqA M (sR M a j x) b := ⟨rfl, rfl, rfl, up2_z h⟩
theorem sC_eq {M : Mem} {a sp b dp n c : Nat} (h : c ≠ b) : eqA M (sC M a sp b dp n) c := by
  refine ⟨rfl, ?_, rfl, rfl⟩
  funext k
  show (if c = b ∧ dp ≤ k ∧ k < dp + n then _ else _) = _
  rw [if_neg (fun q => h q.1)]
theorem sA_eq {M : Mem} {a b : Nat} {k : Nat × Nat} (h : b ≠ a) : eqA M (sA M a k) b := by
  refine ⟨?_, ?_, ?_, ?_⟩
  · show (if b = a then _ else _) = _
    rw [if_neg h]
  all_goals
    funext j
    show (if b = a then _ else _) = _
    rw [if_neg h]
theorem Wd.upd {G : Gx} {M M' : Mem} {U : State} {H H1 : Heap} {a : Nat} (h : Wd G M U H) (hK : ow (mK M' a).1 → ow (mK M a).1) (hN : mN M' = mN M) (he : ∀ b, b ≠ a → eqA M M' b) (z : H1.size = H.size) (oq : ∀ q : Nat, q ≠ a → H1[q]? = H[q]?) (ha : ow (mK M' a).1 → va_at (gD G) vwCl (a, cE G M' a) H1) : Wd G M' U H1 := by
  refine ⟨fun b hb => ?_, fun n hn => ?_, h.2.2⟩
  · by_cases hba : b = a
    · subst hba
      exact ⟨ha hb, (h.1 b (hK hb)).2⟩
    · have he := he b hba
      rw [he.1] at hb
      obtain ⟨h1, h2⟩ := h.1 b hb
      rw [cE_eq he]
      exact ⟨h1.kept (oq b hba), h2⟩
  · rw [hN] at hn
    rw [z]
    exact h.2.1 n hn
theorem Wf.upd {G : Gx} {M M' : Mem} {U : State} {H : Heap} {a : Nat} (h : Wf G M U H) (hb : gB G ≤ a) (hK : mK M' a = mK M a) (hn : ow (mK M a).1) (he : ∀ b, b ≠ a → eqA M M' b) : Wf G M' U H := by
  have key : ∀ b, (mK M' b).1 = 25 ∨ (mK M' b).1 = 24 → b ≠ a ∧ mK M' b = mK M b := by
    intro b hb2
    by_cases hba : b = a
    · subst hba
      rw [hK] at hb2
      unfold ow at hn
      omega
    · exact ⟨hba, (he b hba).1⟩
  refine ⟨fun b hb2 => ?_, trivial, fun j hj => ?_, fun i hi => ?_, h.2.2.2.2⟩
  · obtain ⟨k1, k2⟩ := key b (Or.inl hb2)
    rw [k2] at hb2 ⊢
    rw [(he b k1).2.1]
    exact h.1 b hb2
  · have : (0 : Nat) ≠ a := by have := h.2.2.2.2.1; omega
    rw [(he 0 this).2.2.2]
    exact h.2.2.1 j hj
  · have : (0 : Nat) ≠ a := by have := h.2.2.2.2.1; omega
    rw [(he 0 this).2.2.2]
    exact h.2.2.2.1 i hi
/-- an object's field is set -/
theorem at_put {G : Gx} {M M' : Mem} {H1 : Heap} {a ci j : Nat} {q : vw_C} {v : Value} {cell : Cell} (hq : vwCl[ci]? = some q) (hN : q.2.2 = nF ci) (hc : ci < 10) (hk : (mK M' a).1 = ci) (hj : j < nF ci)
    (q2 : cell.cls = (gD G).1 ci) (q3 : cell.vm = .none) (q4 : ∀ k, k < q.2.2 → cell.slots[(gD G).2 ci k]? = some (vp_V (fsO M ci a) k)) (hap : ∀ x y, x < q.2.2 → y < q.2.2 → x ≠ y → (gD G).2 ci x ≠ (gD G).2 ci y)
    (e1 : H1[a]? = some (cell.setSlot ((gD G).2 ci j) v)) (hv : fvl M' (ft ci j) a j = v) (ho : ∀ k, k ≠ j → fvl M' (ft ci k) a k = fvl M (ft ci k) a k) : va_at (gD G) vwCl (a, cE G M' a) H1 := by
  rw [cE_o hk hc]
  refine ⟨q, hq, _, e1, q2, q3, fun k hk2 => ?_⟩
  have := t_set q4 hap (k := j) (by rw [hN]; exact hj) v k hk2
  rw [this]
  have hk3 : k < nF ci := by rw [← hN]; exact hk2
  unfold updV vp_V
  by_cases hkj : k = j
  · subst hkj
    rw [if_pos rfl, List.getD_eq_getElem?_getD, fsO_at hk3, hv]
    rfl
  · rw [if_neg hkj, List.getD_eq_getElem?_getD, List.getD_eq_getElem?_getD, fsO_at hk3, fsO_at hk3, ho k hkj]
theorem uw_ok : ∀ w, w ∈ (vwCl.map (fun q => u_ws q.1 q.2.1 q.2.2)).flatten → w ∈ TT := by
  have h : ((vwCl.map (fun q => u_ws q.1 q.2.1 q.2.2)).flatten).all (fun w => decide (w ∈ lw_tbl) && goodWord w) = true := by decide +kernel
  intro w hw
  have h1 := List.all_eq_true.mp h w hw
  rw [Bool.and_eq_true] at h1
  exact List.mem_filter.mpr ⟨of_decide_eq_true h1.1, h1.2⟩
theorem uw {ci : Nat} {q : vw_C} (h : vwCl[ci]? = some q) : ∀ w ∈ u_ws q.1 q.2.1 q.2.2, w ∈ TT := fun w hw => uw_ok w (List.mem_flatten.mpr ⟨_, List.mem_map.mpr ⟨q, List.mem_of_getElem? h, rfl⟩, hw⟩)
/-- names apart, types: for each class -/
theorem un_ok : ∀ ci, ci < 10 → ∀ q, vwCl[ci]? = some q → q.2.2 = nF ci ∧ ∀ a, a < q.2.2 → ∀ b, b < q.2.2 → a ≠ b → (q.2.1 a).2.1 ≠ (q.2.1 b).2.1 := by
  intro ci hci q hq
  match ci, hci, hq with
  | 0, _, hq => cases hq; exact ⟨rfl, nmX0⟩
  | 1, _, hq => cases hq; exact ⟨rfl, nmX1⟩
  | 2, _, hq => cases hq; exact ⟨rfl, nmX2⟩
  | 3, _, hq => cases hq; exact ⟨rfl, nmX3⟩
  | 4, _, hq => cases hq; exact ⟨rfl, nmX4⟩
  | 5, _, hq => cases hq; exact ⟨rfl, nmX5⟩
  | 6, _, hq => cases hq; exact ⟨rfl, nmX6⟩
  | 7, _, hq => cases hq; exact ⟨rfl, nmX7⟩
  | 8, _, hq => cases hq; exact ⟨rfl, nmX8⟩
  | 9, _, hq => cases hq; exact ⟨rfl, nmX9⟩
def tyA (ci : Nat) : Nat → FieldType := match ci with
  | 0 => tyX0 | 1 => tyX1 | 2 => tyX2 | 3 => tyX3 | 4 => tyX4 | 5 => tyX5 | 6 => tyX6 | 7 => tyX7 | 8 => tyX8 | _ => tyX9
theorem ut_ok : ∀ ci, ci < 10 → ∀ q, vwCl[ci]? = some q → ∀ k, k < q.2.2 → parseFieldDescriptor (q.2.1 k).2.2.1 = some (tyA ci k) := by
  intro ci hci q hq
  match ci, hci, hq with
  | 0, _, hq => cases hq; exact tyX0_ok
  | 1, _, hq => cases hq; exact tyX1_ok
  | 2, _, hq => cases hq; exact tyX2_ok
  | 3, _, hq => cases hq; exact tyX3_ok
  | 4, _, hq => cases hq; exact tyX4_ok
  | 5, _, hq => cases hq; exact tyX5_ok
  | 6, _, hq => cases hq; exact tyX6_ok
  | 7, _, hq => cases hq; exact tyX7_ok
  | 8, _, hq => cases hq; exact tyX8_ok
  | 9, _, hq => cases hq; exact tyX9_ok
section ZF
variable {ρ : Type} {X : Cxt} {Qo : ρ → State → Prop} {C S pc : Nat} {lv : List (Nat × Value)} {st : List Value} {M : Mem} {cc : ByteArray} {own : String} {R0 : Room} {rt : Option FieldType} {nL : Nat}
/-- the cell of a field's object -/
theorem Wd.obj {G : Gx} {M : Mem} {U : State} {H : Heap} {a ci : Nat} {q : vw_C} (h : Wd G M U H) (hk : (mK M a).1 = ci) (hci : ci < 10) (hq : vwCl[ci]? = some q) : va_P (gD G) vwCl [(a, .inr (ci, fsO M ci a))] H ∧ gB G ≤ a := by
  obtain ⟨h1, h2⟩ := h.1 a (by rw [hk]; exact ow_o hci)
  rw [cE_o hk hci] at h1
  refine ⟨fun k x hx => ?_, h2⟩
  have h0 : k < 1 := (List.getElem?_eq_some_iff.mp hx).1
  rw [show k = 0 by omega] at hx
  cases hx
  exact h1
theorem z_gF {q : vw_C} (ci j : Nat) (hX : okX X cc own R0 rt nL) {ix a : Nat} {v : Value} {t : Option ρ} (hci : ci < 10) (hq : vwCl[ci]? = some q) (hj : j < q.2.2) (hlk : Cond.fieldLink own ix (q.2.1 j).1 (q.2.1 j).2.1 (q.2.1 j).2.2.1 ∈ TT) (hd : decode cc pc = .ok (.getfield ix, 3))
    (hk : (mK M a).1 = ci) (hv : fvl M (ft ci j) a j = v) (k : Zj X Qo C S (pc + 3) lv (v :: st) M t) : Zj X Qo C S pc lv (.ref a :: st) M t := by
  obtain ⟨p, l, e, R, s, m, args, below, meth, c, G, n9⟩ := X
  obtain ⟨hx, hb, hml, hown, hts, hFo, hlk2, hR, hstk, hrt, hnL⟩ := hX
  intro out ho H locs ls hW hF hS hl
  obtain ⟨C0, T0, N0⟩ := q
  obtain ⟨hP, -⟩ := hW.obj hk hci hq
  refine va_get hx hb hts (uw hq) hown hW.2.2 hP 0 rfl hq j hj (hts _ hlk) (fun _ h => h) ?_ hd (k out ho H locs ls hW hF hS hl)
  rw [fsO_at (by rw [← (un_ok ci hci _ hq).1]; exact hj), hv]
theorem z_gFI {q : vw_C} (ci j : Nat) (hX : okX X cc own R0 rt nL) {ix a : Nat} {f : Int32 → Option ρ} (hci : ci < 10) (hq : vwCl[ci]? = some q) (hj : j < q.2.2) (ht : ft ci j = 0) (hlk : Cond.fieldLink own ix (q.2.1 j).1 (q.2.1 j).2.1 (q.2.1 j).2.2.1 ∈ TT) (hd : decode cc pc = .ok (.getfield ix, 3))
    (k : ∀ x, Zj X Qo C S (pc + 3) lv (.int x :: st) M (f x)) : Zj X Qo C S pc lv (.ref a :: st) M (gFI M a ci j >>= f) := by
  unfold gFI
  by_cases hk : (mK M a).1 = ci
  · rw [if_pos hk]
    exact z_gF ci j hX hci hq hj hlk hd hk (by unfold fvl; rw [if_pos ht]) (k (mI M a j))
  · rw [if_neg hk]
    exact z_noneB
theorem z_gFL {q : vw_C} (ci j : Nat) (hX : okX X cc own R0 rt nL) {ix a : Nat} {f : Int64 → Option ρ} (hci : ci < 10) (hq : vwCl[ci]? = some q) (hj : j < q.2.2) (ht : ft ci j = 1) (hlk : Cond.fieldLink own ix (q.2.1 j).1 (q.2.1 j).2.1 (q.2.1 j).2.2.1 ∈ TT) (hd : decode cc pc = .ok (.getfield ix, 3))
    (k : ∀ x, Zj X Qo C S (pc + 3) lv (.long x :: st) M (f x)) : Zj X Qo C S pc lv (.ref a :: st) M (gFL M a ci j >>= f) := by
  unfold gFL
  by_cases hk : (mK M a).1 = ci
  · rw [if_pos hk]
    exact z_gF ci j hX hci hq hj hlk hd hk (by unfold fvl; rw [if_neg (by omega), if_pos ht]) (k (mL M a j))
  · rw [if_neg hk]
    exact z_noneB
theorem z_gFR {q : vw_C} (ci j : Nat) (hX : okX X cc own R0 rt nL) {ix a : Nat} {f : Nat → Option ρ} (hci : ci < 10) (hq : vwCl[ci]? = some q) (hj : j < q.2.2) (ht : ft ci j = 2) (hlk : Cond.fieldLink own ix (q.2.1 j).1 (q.2.1 j).2.1 (q.2.1 j).2.2.1 ∈ TT) (hd : decode cc pc = .ok (.getfield ix, 3))
    (k : ∀ x, Zj X Qo C S (pc + 3) lv (.ref x :: st) M (f x)) : Zj X Qo C S pc lv (.ref a :: st) M (gFR M a ci j >>= f) := by
  unfold gFR
  by_cases hk : (mK M a).1 = ci
  · rw [if_pos hk]
    cases hr : mR M a j with
    | none => exact z_noneB
    | some x => exact z_gF ci j hX hci hq hj hlk hd hk (by unfold fvl; rw [if_neg (by omega), if_neg (by omega), hr]; rfl) (k x)
  · rw [if_neg hk]
    exact z_noneB
/-- a field that isn't final is set -/
theorem z_pF {q : vw_C} (ci j : Nat) (hX : okX X cc own R0 rt nL) {ix a : Nat} {v : Value} {M' : Mem} {ty : FieldType} {t : Option ρ} (hci : ci < 10) (hq : vwCl[ci]? = some q) (hj : j < q.2.2) (hlk : Cond.fieldLink own ix (q.2.1 j).1 (q.2.1 j).2.1 (q.2.1 j).2.2.1 ∈ TT) (hfin : (q.2.1 j).2.2.2 = false) (hty : parseFieldDescriptor (q.2.1 j).2.2.1 = some ty) (hn : narrow ty v = v) (hfit : fits ty v = true) (hd : decode cc pc = .ok (.putfield ix, 3))
    (hk : (mK M a).1 = ci) (hK : mK M' = mK M) (hN : mN M' = mN M) (he : ∀ b, b ≠ a → eqA M M' b) (hv : fvl M' (ft ci j) a j = v) (ho2 : ∀ k, k ≠ j → fvl M' (ft ci k) a k = fvl M (ft ci k) a k) (k : Zj X Qo C S (pc + 3) lv st M' t) : Zj X Qo C S pc lv (v :: .ref a :: st) M t := by
  obtain ⟨p, l, e, R, s, m, args, below, meth, c, G, n9⟩ := X
  obtain ⟨hx, hb, hml, hown, hts, hFo, hlk2, hR, hstk, hrt, hnL⟩ := hX
  intro out ho H locs ls hW hF hS hl
  obtain ⟨C0, T0, N0⟩ := q
  obtain ⟨hP, hba⟩ := hW.obj hk hci hq
  obtain ⟨hN0, hnm⟩ := un_ok ci hci _ hq
  have hap := va_apart (own := own) hts (uw hq) (tyA ci) (ut_ok ci hci _ hq) hnm hW.2.2 hq
  obtain ⟨r, h1, cell, q1, q2, q3, q4⟩ := hP 0 _ rfl
  have hr : r = (C0, T0, N0) := Option.some.inj (h1.symm.trans hq)
  subst hr
  obtain ⟨hSl, hfc, kC, hkC, hkind⟩ := hW.2.2.1 ci _ hq
  obtain ⟨cf, kf, fi, f, hi, hsl⟩ := hSl j hj
  have hlay := hts _ (uw hq _ (u_in_lay hj))
  unfold u_lay at hlay
  rw [if_neg (by rw [hfin]; decide)] at hlay
  have hst := (u_facts hfc hkC (u_lays hts (uw hq) hj) hi).1
  have h6 := u_store hfc hkC hkind hlay hi hty hn hfit
  have hba : gB G ≤ a := hba
  refine W.putK hx hb (f := f) ⟨hown, hts _ hlk, ⟨_, _, _, hi⟩, hst⟩ (by rw [q2]; exact h6) q1 q3 (by rw [hsl]; exact k2_hasslot (q4 j hj)) rfl rfl hd fun H' e1 e2 e3 => ?_
  rw [hsl] at e1 ⊢
  have hka : mK M' a = mK M a := by rw [hK]
  exact k out ho H' _ ls (hW.upd (fun h => by rw [← hka]; exact h) hN he e2 e3 (fun _ => at_put hq hN0 hci (by rw [hka]; exact hk) (by rw [← hN0]; exact hj) q2 q3 q4 hap e1 hv ho2)) (hF.upd hba hka (by rw [hk]; exact ow_o hci) he) (hS.put e2 e3 hba) hl
/-- a final field is set, in a constructor -/
theorem z_pFin {q : vw_C} (ci j : Nat) (hX : okX X cc own R0 rt nL) (hin : ∀ p l e R s m args below meth c G n9, X = (p, l, e, R, s, m, args, below, meth, c, G, n9) → meth.name = "<init>") {ix a : Nat} {v : Value} {M' : Mem} {ty : FieldType} {t : Option ρ} (hci : ci < 10) (hq : vwCl[ci]? = some q) (hj : j < q.2.2) (hlk : Cond.fieldLink own ix (q.2.1 j).1 (q.2.1 j).2.1 (q.2.1 j).2.2.1 ∈ TT) (hfin : (q.2.1 j).2.2.2 = true) (hdecl : (q.2.1 j).1 = own) (hty : parseFieldDescriptor (q.2.1 j).2.2.1 = some ty) (hn : narrow ty v = v) (hfit : fits ty v = true) (hd : decode cc pc = .ok (.putfield ix, 3))
    (hk : (mK M a).1 = ci) (hK : mK M' = mK M) (hN : mN M' = mN M) (he : ∀ b, b ≠ a → eqA M M' b) (hv : fvl M' (ft ci j) a j = v) (ho2 : ∀ k, k ≠ j → fvl M' (ft ci k) a k = fvl M (ft ci k) a k) (k : Zj X Qo C S (pc + 3) lv st M' t) : Zj X Qo C S pc lv (v :: .ref a :: st) M t := by
  obtain ⟨p, l, e, R, s, m, args, below, meth, c, G, n9⟩ := X
  obtain ⟨hx, hb, hml, hown, hts, hFo, hlk2, hR, hstk, hrt, hnL⟩ := hX
  intro out ho H locs ls hW hF hS hl
  obtain ⟨C0, T0, N0⟩ := q
  obtain ⟨hP, hba⟩ := hW.obj hk hci hq
  obtain ⟨hN0, hnm⟩ := un_ok ci hci _ hq
  have hap := va_apart (own := own) hts (uw hq) (tyA ci) (ut_ok ci hci _ hq) hnm hW.2.2 hq
  obtain ⟨r, h1, cell, q1, q2, q3, q4⟩ := hP 0 _ rfl
  have hr : r = (C0, T0, N0) := Option.some.inj (h1.symm.trans hq)
  subst hr
  obtain ⟨hSl, hfc, kC, hkC, hkind⟩ := hW.2.2.1 ci _ hq
  obtain ⟨cf, kf, fi, f, hi, hsl⟩ := hSl j hj
  have hlay := hts _ (uw hq _ (u_in_lay hj))
  unfold u_lay at hlay
  rw [if_pos hfin] at hlay
  have hst := (u_facts hfc hkC (u_lays hts (uw hq) hj) hi).1
  have hcf : m.cls = cf := by
    obtain ⟨_, _, c', _, _, _, -, -, hf', -, -, -, hown2, -⟩ := Cond.laysFinal_spec hlay
    have e1 : c' = cf := by have := hi.symm.trans hf'; simp at this; exact this.1.symm
    rw [hdecl] at hown2
    rw [← e1]; exact Option.some.inj (hown.symm.trans hown2)
  have h6 := u_fits hfc hkC hkind (Or.inr hlay) hi hty hn hfit
  refine W.putFinK hx hb hown (hts _ hlk) hi hst hcf (hin _ _ _ _ _ _ _ _ _ _ _ _ rfl) (by rw [q2]; exact h6) q1 q3 (by rw [hsl]; exact k2_hasslot (q4 j hj)) rfl rfl hd fun H' e1 e2 e3 => ?_
  rw [hsl] at e1 ⊢
  have hka : mK M' a = mK M a := by rw [hK]
  exact k out ho H' _ ls (hW.upd (fun h => by rw [← hka]; exact h) hN he e2 e3 (fun _ => at_put hq hN0 hci (by rw [hka]; exact hk) (by rw [← hN0]; exact hj) q2 q3 q4 hap e1 hv ho2)) (hF.upd hba hka (by rw [hk]; exact ow_o hci) he) (hS.put e2 e3 hba) hl
theorem up2_at {α : Type} {f : Nat → Nat → α} {a j : Nat} {x : α} : up2 f a j x a j = x := by
  unfold up2
  rw [if_pos ⟨rfl, rfl⟩]
theorem up2_nk {α : Type} {f : Nat → Nat → α} {a j k : Nat} {x : α} (h : k ≠ j) : up2 f a j x a k = f a k := by
  unfold up2
  rw [if_neg (fun q => h q.2)]
theorem fvl_sI {M : Mem} {a j t : Nat} {x : Int32} (h : t = 0) : fvl (sI M a j x) t a j = .int x := by
  unfold fvl
  rw [if_pos h]
  exact congrArg Value.int up2_at
theorem fvl_sI_ne {M : Mem} {a j t k : Nat} {x : Int32} (h : k ≠ j) : fvl (sI M a j x) t a k = fvl M t a k := by
  unfold fvl
  rw [show mI (sI M a j x) a k = mI M a k from up2_nk h]
  rfl
theorem fvl_sL {M : Mem} {a j t : Nat} {x : Int64} (h : t = 1) : fvl (sL M a j x) t a j = .long x := by
  unfold fvl
  rw [if_neg (by omega), if_pos h]
  exact congrArg Value.long up2_at
theorem fvl_sL_ne {M : Mem} {a j t k : Nat} {x : Int64} (h : k ≠ j) : fvl (sL M a j x) t a k = fvl M t a k := by
  unfold fvl
  rw [show mL (sL M a j x) a k = mL M a k from up2_nk h]
  rfl
theorem fvl_sR {M : Mem} {a j t : Nat} {x : Nat} (h : t = 2) : fvl (sR M a j x) t a j = .ref x := by
  unfold fvl
  rw [if_neg (by omega), if_neg (by omega)]
  exact congrArg va_rf up2_at
theorem fvl_sR_ne {M : Mem} {a j t k : Nat} {x : Nat} (h : k ≠ j) : fvl (sR M a j x) t a k = fvl M t a k := by
  unfold fvl
  rw [show mR (sR M a j x) a k = mR M a k from up2_nk h]
  rfl
theorem z_pFI {q : vw_C} (ci j : Nat) (hX : okX X cc own R0 rt nL) {ix a : Nat} {x : Int32} {ty : FieldType} {f : Mem → Option ρ} (hci : ci < 10) (hq : vwCl[ci]? = some q) (hj : j < q.2.2) (ht : ft ci j = 0) (hlk : Cond.fieldLink own ix (q.2.1 j).1 (q.2.1 j).2.1 (q.2.1 j).2.2.1 ∈ TT) (hfin : (q.2.1 j).2.2.2 = false) (hty : parseFieldDescriptor (q.2.1 j).2.2.1 = some ty) (hn : narrow ty (.int x) = .int x) (hfit : fits ty (.int x) = true) (hd : decode cc pc = .ok (.putfield ix, 3))
    (k : ∀ M' : Mem, Zj X Qo C S (pc + 3) lv st M' (f M')) : Zj X Qo C S pc lv (.int x :: .ref a :: st) M (pFI M a ci j x >>= f) := by
  unfold pFI
  by_cases hk : (mK M a).1 = ci
  · rw [if_pos hk]
    exact z_pF ci j hX hci hq hj hlk (M' := sI M a j x) hfin hty hn hfit hd hk rfl rfl (fun b hb => sI_eq hb) (fvl_sI ht) (fun k hk => fvl_sI_ne hk) (k _)
  · rw [if_neg hk]
    exact z_noneB
theorem z_pFL {q : vw_C} (ci j : Nat) (hX : okX X cc own R0 rt nL) {ix a : Nat} {x : Int64} {f : Mem → Option ρ} (hci : ci < 10) (hq : vwCl[ci]? = some q) (hj : j < q.2.2) (ht : ft ci j = 1) (hlk : Cond.fieldLink own ix (q.2.1 j).1 (q.2.1 j).2.1 (q.2.1 j).2.2.1 ∈ TT) (hfin : (q.2.1 j).2.2.2 = false) (hty : parseFieldDescriptor (q.2.1 j).2.2.1 = some .long) (hd : decode cc pc = .ok (.putfield ix, 3))
    (k : ∀ M' : Mem, Zj X Qo C S (pc + 3) lv st M' (f M')) : Zj X Qo C S pc lv (.long x :: .ref a :: st) M (pFL M a ci j x >>= f) := by
  unfold pFL
  by_cases hk : (mK M a).1 = ci
  · rw [if_pos hk]
    exact z_pF ci j hX hci hq hj hlk (M' := sL M a j x) hfin hty rfl rfl hd hk rfl rfl (fun b hb => sL_eq hb) (fvl_sL ht) (fun k hk => fvl_sL_ne hk) (k _)
  · rw [if_neg hk]
    exact z_noneB
theorem z_pFR {q : vw_C} (ci j : Nat) (hX : okX X cc own R0 rt nL) {ix a : Nat} {x : Nat} {ty : FieldType} {f : Mem → Option ρ} (hci : ci < 10) (hq : vwCl[ci]? = some q) (hj : j < q.2.2) (ht : ft ci j = 2) (hlk : Cond.fieldLink own ix (q.2.1 j).1 (q.2.1 j).2.1 (q.2.1 j).2.2.1 ∈ TT) (hfin : (q.2.1 j).2.2.2 = false) (hty : parseFieldDescriptor (q.2.1 j).2.2.1 = some ty) (hn : narrow ty (.ref x) = .ref x) (hfit : fits ty (.ref x) = true) (hd : decode cc pc = .ok (.putfield ix, 3))
    (k : ∀ M' : Mem, Zj X Qo C S (pc + 3) lv st M' (f M')) : Zj X Qo C S pc lv (.ref x :: .ref a :: st) M (pFR M a ci j x >>= f) := by
  unfold pFR
  by_cases hk : (mK M a).1 = ci
  · rw [if_pos hk]
    exact z_pF ci j hX hci hq hj hlk (M' := sR M a j x) hfin hty hn hfit hd hk rfl rfl (fun b hb => sR_eq hb) (fvl_sR ht) (fun k hk => fvl_sR_ne hk) (k _)
  · rw [if_neg hk]
    exact z_noneB
/-- in a constructor: of a final field -/
def inX (X : Cxt) : Prop := ∀ p l e R s m args below meth c G n9, X = (p, l, e, R, s, m, args, below, meth, c, G, n9) → meth.name = "<init>"
theorem z_pFRf {q : vw_C} (ci j : Nat) (hX : okX X cc own R0 rt nL) (hin : inX X) {ix a : Nat} {x : Nat} {ty : FieldType} {f : Mem → Option ρ} (hci : ci < 10) (hq : vwCl[ci]? = some q) (hj : j < q.2.2) (ht : ft ci j = 2) (hlk : Cond.fieldLink own ix (q.2.1 j).1 (q.2.1 j).2.1 (q.2.1 j).2.2.1 ∈ TT) (hfin : (q.2.1 j).2.2.2 = true) (hdecl : (q.2.1 j).1 = own) (hty : parseFieldDescriptor (q.2.1 j).2.2.1 = some ty) (hn : narrow ty (.ref x) = .ref x) (hfit : fits ty (.ref x) = true) (hd : decode cc pc = .ok (.putfield ix, 3))
    (k : ∀ M' : Mem, Zj X Qo C S (pc + 3) lv st M' (f M')) : Zj X Qo C S pc lv (.ref x :: .ref a :: st) M (pFR M a ci j x >>= f) := by
  unfold pFR
  by_cases hk : (mK M a).1 = ci
  · rw [if_pos hk]
    exact z_pFin ci j hX hin hci hq hj hlk (M' := sR M a j x) hfin hdecl hty hn hfit hd hk rfl rfl (fun b hb => sR_eq hb) (fvl_sR ht) (fun k hk => fvl_sR_ne hk) (k _)
  · rw [if_neg hk]
    exact z_noneB
end ZF
