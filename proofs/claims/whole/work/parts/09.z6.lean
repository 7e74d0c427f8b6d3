/-! ===== ends, contracts, calls ===== -/
def qcR (G : Gx) (v : Option Value) (M' : Mem) : Array Value → State → Outcome → State → Prop := fun _ st oc t => oc = .returned v ∧ Be G M' t ∧ va_F (gAA G) st t
def Qr : Cxt → Nat → Nat → Option Value → Mem → State → Prop
  | (p, l, e, R, s, m, args, below, meth, c, G, n9), mc, ms, v, M' => MQ below (qcR G v M') args s mc ms (gAA G)
/-- an end by a return (some) or by an IndexOutOfBoundsException (none) -/
def Qx : Cxt → Nat → Nat → Option (Option Value) → Mem → State → Prop
  | (p, l, e, R, s, m, args, below, meth, c, G, n9), mc, ms, r, M' => vx_MQ below (fun _ st oc t => (∃ v, r = some v ∧ oc = .returned v) ∧ Be G M' t ∧ va_F (gAA G) st t) (fun E st t => r = none ∧ E = ioob ∧ Be G M' t ∧ va_F (gAA G) st t) args s mc ms (gAA G)
def noT : Cxt → Prop
  | (p, l, e, R, s, m, args, below, meth, c, G, n9) => ∀ x ∈ c.exceptionTable.toList, False
/-- a method's contract: from every state that holds M it returns v, and M' is held -/
def Ct (l : Launch) (y : MethodName) (b : ByteArray) (n : Nat) (ret : Option FieldType) (rm : Room) (vs : List Value) (M : Mem) (v : Option Value) (M' : Mem) : Prop :=
  ∀ G : Gx, Met l y (.code y b n ret :: TT) rm (va_Pc vs (Bw G M)) (qcR G v M') rm.cells rm.slots (gAA G)
def Cx (l : Launch) (y : MethodName) (b : ByteArray) (n : Nat) (ret : Option FieldType) (rm : Room) (vs : List Value) (M : Mem) (r : Option (Option Value)) (M' : Mem) : Prop :=
  ∀ G : Gx, vx_Met l y (.code y b n ret :: TT) rm (va_Pc vs (Bw G M)) (fun _ st oc t => (∃ v, r = some v ∧ oc = .returned v) ∧ Be G M' t ∧ va_F (gAA G) st t) (fun E st t => r = none ∧ E = ioob ∧ Be G M' t ∧ va_F (gAA G) st t) rm.cells rm.slots (gAA G)
theorem Wf.back {G : Gx} {M : Mem} {s t : State} {H H0 : Heap} {locs : List Loc} (hvm : t.vm.Alike s.vm) (hB : gB G ≤ H0.size) (hS : va_S (gAA G) H0 H locs) (h : Wf G M t H) : Wf G M s H0 :=
  ⟨fun a ha => ⟨((h.1 a ha).1.moved hvm).kept (fun q _ z => (hS.2.1 q (Nat.lt_of_lt_of_le (Nat.not_le.mp z) hB) z).symm), (h.1 a ha).2⟩, h.2.1, h.2.2.1, h.2.2.2.1, h.2.2.2.2.1, hB⟩
theorem Wf.fore {G : Gx} {M : Mem} {s t : State} {H H0 : Heap} {locs : List Loc} (hvm : s.vm.Alike t.vm) (hS : va_S (gAA G) H0 H locs) (h : Wf G M s H0) : Wf G M t H :=
  (h.kept (H1 := H) hS.1 hS.2.1).moved hvm
theorem Ct.of {l : Launch} {y : MethodName} {b : ByteArray} {n : Nat} {ret : Option FieldType} {rm : Room} {vs : List Value} {M M' : Mem} {v : Option Value} {lv : List (Nat × Value)} (hl : l.stackTraces = false) (hy : plainName y.cls = true) (hn : (lg_sl vs).length ≤ n) (hlv : lv_args 0 vs = lv)
    (h : ∀ X, okX X b y.cls rm ret n → (y.name = "<init>" → inX X) → Yj X (Qr X rm.cells rm.slots v M') 0 0 0 lv [] M) : Ct l y b n ret rm vs M v M' := by
  intro G
  refine Met.ofW (cc := b) (maxL := n) (ret := ret) hy rfl ?_
  intro p e s m args below meth c s₁ B hml hv
  obtain ⟨rfl, hW, hF, hFo⟩ := hv
  have hts := atoms_spec (ws := .code y b n ret :: TT) B.pre
  rw [lg_entry_eq]
  exact h (p, l, e, (headSpec (.code y b n ret :: TT) rm).room, s, m, vs.toArray, below, meth, c, G, n) ⟨B.exec, B.bytes, hml, findClass_of_methodNamed B.named, fun w hw => hts w (List.mem_cons_of_mem _ hw), hFo, B.notSynchronized, rfl, hl, B.returns, rfl⟩
    (fun hi p' l' e' R' s' m' args' below' meth' c' G' n' hX => by cases hX; exact ((name_of_methodNamed B.named B.method).1).trans hi) s.heap [] _ hW hF va_S.rf (by rw [← hlv]; exact lv_entry vs hn)
theorem Cx.of {l : Launch} {y : MethodName} {b : ByteArray} {n : Nat} {ret : Option FieldType} {rm : Room} {vs : List Value} {M M' : Mem} {r : Option (Option Value)} {lv : List (Nat × Value)} (hl : l.stackTraces = false) (hy : plainName y.cls = true) (hn : (lg_sl vs).length ≤ n) (hlv : lv_args 0 vs = lv)
    (h : ∀ X, okX X b y.cls rm ret n → noT X → Yj X (Qx X rm.cells rm.slots r M') 0 0 0 lv [] M) : Cx l y b n ret rm vs M r M' := by
  intro G
  refine vx_ofW (cc := b) (maxL := n) (ret := ret) hy rfl ?_
  intro p e s m args below meth c s₁ B hml hT hv
  obtain ⟨rfl, hW, hF, hFo⟩ := hv
  have hts := atoms_spec (ws := .code y b n ret :: TT) B.pre
  rw [lg_entry_eq]
  exact h (p, l, e, (headSpec (.code y b n ret :: TT) rm).room, s, m, vs.toArray, below, meth, c, G, n) ⟨B.exec, B.bytes, hml, findClass_of_methodNamed B.named, fun w hw => hts w (List.mem_cons_of_mem _ hw), hFo, B.notSynchronized, rfl, hl, B.returns, rfl⟩ hT s.heap [] _ hW hF va_S.rf (by rw [← hlv]; exact lv_entry vs hn)
section ZE
variable {ρ : Type} {X : Cxt} {Qo : ρ → State → Prop} {C S pc : Nat} {lv : List (Nat × Value)} {st : List Value} {M : Mem} {t : Option ρ} {cc : ByteArray} {own : String} {R0 : Room} {rt : Option FieldType} {nL mc ms : Nat}
theorem y_iret (hX : okX X cc own R0 (some .int) nL) {x : Int32} (hd : decode cc pc = .ok (.ireturn, 1)) (hC : C ≤ mc) (hS2 : S ≤ ms) : Yj X (Qr X mc ms (some (.int x)) M) C S pc lv [.int x] M := by
  obtain ⟨p, l, e, R, s, m, args, below, meth, c, G, n9⟩ := X
  obtain ⟨hx, hb, hml, hown, hts, hFo, hlk, hR, hstk, hrt, hnL⟩ := hX
  intro H locs ls hW hF hS hl
  refine W.widen hC hS2 ?_
  show W p l e R s m args below meth c H locs mc ms (MQ below (qcR G (some (.int x)) M) args s mc ms (gAA G)) _
  exact W.iret hx hb hrt (fun t ht hw => ⟨rfl, ⟨by rw [ht]; exact hW.moved hw.alike, by rw [ht]; exact hF.fore hw.alike hS⟩, hS.F ht⟩) hS.2.2 hd hlk
theorem y_zret (hX : okX X cc own R0 (some .boolean) nL) {x : Int32} (h01 : x = 0 ∨ x = 1) (hd : decode cc pc = .ok (.ireturn, 1)) (hC : C ≤ mc) (hS2 : S ≤ ms) : Yj X (Qr X mc ms (some (.int x)) M) C S pc lv [.int x] M := by
  obtain ⟨p, l, e, R, s, m, args, below, meth, c, G, n9⟩ := X
  obtain ⟨hx, hb, hml, hown, hts, hFo, hlk, hR, hstk, hrt, hnL⟩ := hX
  intro H locs ls hW hF hS hl
  refine W.widen hC hS2 ?_
  show W p l e R s m args below meth c H locs mc ms (MQ below (qcR G (some (.int x)) M) args s mc ms (gAA G)) _
  exact W.zret hx hb hrt (by rcases h01 with h | h <;> (rw [h]; rfl)) (fun t ht hw => ⟨rfl, ⟨by rw [ht]; exact hW.moved hw.alike, by rw [ht]; exact hF.fore hw.alike hS⟩, hS.F ht⟩) hS.2.2 hd hlk
theorem y_lret (hX : okX X cc own R0 (some .long) nL) {x : Int64} (hd : decode cc pc = .ok (.lreturn, 1)) (hC : C ≤ mc) (hS2 : S ≤ ms) : Yj X (Qr X mc ms (some (.long x)) M) C S pc lv [.long x] M := by
  obtain ⟨p, l, e, R, s, m, args, below, meth, c, G, n9⟩ := X
  obtain ⟨hx, hb, hml, hown, hts, hFo, hlk, hR, hstk, hrt, hnL⟩ := hX
  intro H locs ls hW hF hS hl
  refine W.widen hC hS2 ?_
  show W p l e R s m args below meth c H locs mc ms (MQ below (qcR G (some (.long x)) M) args s mc ms (gAA G)) _
  exact W.lret hx hb hrt (fun t ht hw => ⟨rfl, ⟨by rw [ht]; exact hW.moved hw.alike, by rw [ht]; exact hF.fore hw.alike hS⟩, hS.F ht⟩) hS.2.2 hd hlk
theorem y_vret (hX : okX X cc own R0 none nL) (hd : decode cc pc = .ok (.return_, 1)) (hC : C ≤ mc) (hS2 : S ≤ ms) : Yj X (Qr X mc ms none M) C S pc lv [] M := by
  obtain ⟨p, l, e, R, s, m, args, below, meth, c, G, n9⟩ := X
  obtain ⟨hx, hb, hml, hown, hts, hFo, hlk, hR, hstk, hrt, hnL⟩ := hX
  intro H locs ls hW hF hS hl
  refine W.widen hC hS2 ?_
  show W p l e R s m args below meth c H locs mc ms (MQ below (qcR G (none) M) args s mc ms (gAA G)) _
  exact W.vret hx hb hrt (fun t ht hw => ⟨rfl, ⟨by rw [ht]; exact hW.moved hw.alike, by rw [ht]; exact hF.fore hw.alike hS⟩, hS.F ht⟩) hS.2.2 hd hlk
theorem y_aret {ty : FieldType} (hX : okX X cc own R0 (some ty) nL) (hty : (∃ n, ty = .object n) ∨ ∃ t, ty = .array t) {x : Nat} (hd : decode cc pc = .ok (.areturn, 1)) (hC : C ≤ mc) (hS2 : S ≤ ms) : Yj X (Qr X mc ms (some (.ref x)) M) C S pc lv [.ref x] M := by
  obtain ⟨p, l, e, R, s, m, args, below, meth, c, G, n9⟩ := X
  obtain ⟨hx, hb, hml, hown, hts, hFo, hlk, hR, hstk, hrt, hnL⟩ := hX
  intro H locs ls hW hF hS hl
  refine W.widen hC hS2 ?_
  show W p l e R s m args below meth c H locs mc ms (MQ below (qcR G (some (.ref x)) M) args s mc ms (gAA G)) _
  exact W.aret hx hb hrt hty (Or.inr ⟨x, rfl⟩) (fun t ht hw => ⟨rfl, ⟨by rw [ht]; exact hW.moved hw.alike, by rw [ht]; exact hF.fore hw.alike hS⟩, hS.F ht⟩) hS.2.2 hd hlk
/-- a return in a method that may throw -/
theorem Qx.of {v : Option Value} {M' : Mem} {pc : Nat} (h : Yj X (Qr X mc ms v M') C S pc lv st M) : Yj X (Qx X mc ms (some v) M') C S pc lv st M := by
  obtain ⟨p, l, e, R, s, m, args, below, meth, c, G, n9⟩ := X
  intro H locs ls hW hF hS hl
  refine vx_ret ?_
  intro T hT Xs
  obtain ⟨t, a1, o, b1, b2, b3, b4⟩ := h H locs ls hW hF hS hl T hT Xs
  exact ⟨t, a1, o, b1, b2, ⟨⟨v, rfl, b3.1⟩, b3.2⟩, b4⟩
/-! of a method that returns an int and may change the memory (M), changes nothing (P), may throw (X); likewise long, nothing, a reference -/
theorem z_iretM (hX : okX X cc own R0 (some .int) nL) {x : Int32} (hd : decode cc pc = .ok (.ireturn, 1)) (hC : C ≤ mc) (hS2 : S ≤ ms) : Zj X (fun o : Int32 × Mem => Qr X mc ms (some (.int o.1)) o.2) C S pc lv [.int x] M (some (x, M)) := fun out ho => by cases ho; exact y_iret hX hd hC hS2
theorem z_iretP (hX : okX X cc own R0 (some .int) nL) {x : Int32} (hd : decode cc pc = .ok (.ireturn, 1)) (hC : C ≤ mc) (hS2 : S ≤ ms) : Zj X (fun o : Int32 => Qr X mc ms (some (.int o)) M) C S pc lv [.int x] M (some x) := fun out ho => by cases ho; exact y_iret hX hd hC hS2
theorem z_iretX (hX : okX X cc own R0 (some .int) nL) {x : Int32} (hd : decode cc pc = .ok (.ireturn, 1)) (hC : C ≤ mc) (hS2 : S ≤ ms) : Zj X (fun o : Option Int32 × Mem => Qx X mc ms (o.1.map fun v => some (.int v)) o.2) C S pc lv [.int x] M (some (some x, M)) := fun out ho => by cases ho; exact Qx.of (y_iret hX hd hC hS2)
theorem isB_spec {x z : Int32} (h : isB x = some z) : z = x ∧ (x = 0 ∨ x = 1) := by
  unfold isB at h
  by_cases h1 : x = 0 ∨ x = 1
  · rw [if_pos h1] at h; cases h; exact ⟨rfl, h1⟩
  · rw [if_neg h1] at h; cases h
theorem z_zretM (hX : okX X cc own R0 (some .boolean) nL) {x : Int32} (hd : decode cc pc = .ok (.ireturn, 1)) (hC : C ≤ mc) (hS2 : S ≤ ms) : Zj X (fun o : Int32 × Mem => Qr X mc ms (some (.int o.1)) o.2) C S pc lv [.int x] M (isB x >>= fun z => some (z, M)) := fun out ho => by
  obtain ⟨z, h1, h2⟩ := Option.bind_eq_some_iff.mp ho
  obtain ⟨rfl, h3⟩ := isB_spec h1
  cases h2; exact y_zret hX h3 hd hC hS2
theorem z_zretP (hX : okX X cc own R0 (some .boolean) nL) {x : Int32} (hd : decode cc pc = .ok (.ireturn, 1)) (hC : C ≤ mc) (hS2 : S ≤ ms) : Zj X (fun o : Int32 => Qr X mc ms (some (.int o)) M) C S pc lv [.int x] M (isB x) := fun out ho => by
  obtain ⟨rfl, h3⟩ := isB_spec ho
  exact y_zret hX h3 hd hC hS2
theorem z_lretM (hX : okX X cc own R0 (some .long) nL) {x : Int64} (hd : decode cc pc = .ok (.lreturn, 1)) (hC : C ≤ mc) (hS2 : S ≤ ms) : Zj X (fun o : Int64 × Mem => Qr X mc ms (some (.long o.1)) o.2) C S pc lv [.long x] M (some (x, M)) := fun out ho => by cases ho; exact y_lret hX hd hC hS2
theorem z_lretP (hX : okX X cc own R0 (some .long) nL) {x : Int64} (hd : decode cc pc = .ok (.lreturn, 1)) (hC : C ≤ mc) (hS2 : S ≤ ms) : Zj X (fun o : Int64 => Qr X mc ms (some (.long o)) M) C S pc lv [.long x] M (some x) := fun out ho => by cases ho; exact y_lret hX hd hC hS2
theorem z_lretX (hX : okX X cc own R0 (some .long) nL) {x : Int64} (hd : decode cc pc = .ok (.lreturn, 1)) (hC : C ≤ mc) (hS2 : S ≤ ms) : Zj X (fun o : Option Int64 × Mem => Qx X mc ms (o.1.map fun v => some (.long v)) o.2) C S pc lv [.long x] M (some (some x, M)) := fun out ho => by cases ho; exact Qx.of (y_lret hX hd hC hS2)
theorem z_vretM (hX : okX X cc own R0 none nL) (hd : decode cc pc = .ok (.return_, 1)) (hC : C ≤ mc) (hS2 : S ≤ ms) : Zj X (fun o : Mem => Qr X mc ms none o) C S pc lv [] M (some M) := fun out ho => by cases ho; exact y_vret hX hd hC hS2
theorem z_vretX (hX : okX X cc own R0 none nL) (hd : decode cc pc = .ok (.return_, 1)) (hC : C ≤ mc) (hS2 : S ≤ ms) : Zj X (fun o : Option Unit × Mem => Qx X mc ms (o.1.map fun _ => none) o.2) C S pc lv [] M (some (some (), M)) := fun out ho => by cases ho; exact Qx.of (y_vret hX hd hC hS2)
theorem z_aretM {ty : FieldType} (hX : okX X cc own R0 (some ty) nL) (hty : (∃ n, ty = .object n) ∨ ∃ t, ty = .array t) {x : Nat} (hd : decode cc pc = .ok (.areturn, 1)) (hC : C ≤ mc) (hS2 : S ≤ ms) : Zj X (fun o : Nat × Mem => Qr X mc ms (some (.ref o.1)) o.2) C S pc lv [.ref x] M (some (x, M)) := fun out ho => by cases ho; exact y_aret hX hty hd hC hS2
theorem z_aretP {ty : FieldType} (hX : okX X cc own R0 (some ty) nL) (hty : (∃ n, ty = .object n) ∨ ∃ t, ty = .array t) {x : Nat} (hd : decode cc pc = .ok (.areturn, 1)) (hC : C ≤ mc) (hS2 : S ≤ ms) : Zj X (fun o : Nat => Qr X mc ms (some (.ref o)) M) C S pc lv [.ref x] M (some x) := fun out ho => by cases ho; exact y_aret hX hty hd hC hS2
end ZE
