section ZC
variable {ρ : Type} {X : Cxt} {Qo : ρ → State → Prop} {C S pc : Nat} {lv : List (Nat × Value)} {st stk : List Value} {M : Mem} {t : Option ρ} {cc : ByteArray} {own : String} {R0 : Room} {rt : Option FieldType} {nL mc ms : Nat}
/-- what a callee must be, and the room for it -/
def okY (y : MethodName) (k : Nat) : Prop := y.cls ≠ "java/lang/invoke/MethodHandle" ∧ y.cls ≠ "java/lang/invoke/VarHandle" ∧ (parseMethodDescriptor y.desc).map (fun d => d.parameters.length) = some k
theorem pay_tt {args : Array Value} {s : State} {y : MethodName} {b : ByteArray} {n : Nat} {ret : Option FieldType} (hts : ∀ w ∈ TT, w.before args s = true) (hc : Cond.code y b n ret ∈ TT) : ∀ w ∈ (.code y b n ret :: TT : List Cond), ∀ (a' : Array Value) (U : State), s.WarmedH U.vm → w.before a' U = true := by
  intro w hw a' U hW
  have h : w ∈ TT := by
    rcases List.mem_cons.mp hw with rfl | h
    · exact hc
    · exact h
  exact word_at hW (good_of_word (tt_good h)) (hts w h)
theorem cb_tt {args : Array Value} {s : State} {own : String} {ix : Nat} {y : MethodName} {b : ByteArray} {n k : Nat} {ret : Option FieldType} {rm R : Room} (hts : ∀ w ∈ TT, w.before args s = true) (h1 : Cond.methodLink own ix y ∈ TT) (h4 : Cond.initialized y.cls ∈ TT) (h5 : Cond.code y b n ret ∈ TT) (hy : okY y k) (hR : rm.frames + 1 ≤ R.frames ∧ 8 + (n + 11) + rm.locals ≤ R.locals) : CallB R s args own ix y b n ret (.code y b n ret :: TT) rm rm.cells rm.slots k :=
  ⟨rfl, rfl, hR.1, hR.2, pay_tt hts h5, List.mem_cons_self, hts _ h5, hts _ h4, ⟨hy.1, hy.2.1⟩, fun sig h => by
    have h2 := hy.2.2
    rw [h] at h2
    exact (Option.some.inj h2).symm, hts _ h1⟩
/-- behind a call: the caller goes on over the callee's memory -/
theorem z_back {p : Program} {l : Launch} {e : Env} {R : Room} {s : State} {m : MethodId} {args : Array Value} {below : List Frame} {meth : Method} {c : Code} {G : Gx} {H : Heap} {locs : List Loc} {ls : Array Slot} {Q : State → Prop} {a : Array Value} {v : Option Value} {M' : Mem} {st0 : List Value} {cells slots : Nat}
    (hr : va_Run p l e R s m args below meth c H locs cells slots mc ms (F0 m pc ls st0) st (qcR G v M' a) (gAA G)) (hF : Wf G M s s.heap) (hS : va_S (gAA G) s.heap H locs)
    (kk : ∀ (H1 : Heap) (locs1 : List Loc), Wd G M' s H1 → Wf G M' s s.heap → va_S (gAA G) s.heap H1 locs1 → W p l e R s m args below meth c H1 locs1 (cells + mc) (slots + ms) Q (F0 m (pc + 3) ls (v.toList ++ st))) : W p l e R s m args below meth c H locs cells slots Q (F0 m pc ls st0) := by
  intro T hT X
  obtain ⟨v', st₀, t, T', L, h0, X', hL, e1, e2, ⟨hv, ⟨hW', hF'⟩, hz, hk⟩, stp⟩ := hr T hT X
  cases hv
  rw [h0] at hz hk
  have hvm : t.vm.Alike s.vm := by rw [← e2]; exact X'.warmed.alike.symm
  have hS1 : va_S (gAA G) s.heap T'.heap (locs ++ L) := ⟨Nat.le_trans hS.1 (by rw [e1]; exact hz), fun q h1 h2 => by
      rw [e1, hk q (Nat.lt_of_lt_of_le h1 hS.1) h2]
      exact hS.2.1 q h1 h2, fun q hq => by
      rcases List.mem_append.mp hq with h | h
      · exact hS.2.2 q h
      · exact hL q h⟩
  rw [← e1] at hW' hF'
  obtain ⟨t2, a1, b1⟩ := kk T'.heap (locs ++ L) (hW'.moved hvm) (hF'.back hvm hF.2.2.2.2.2 hS1) hS1 T' rfl X'
  exact ⟨t2, stp t2 a1, b1⟩
theorem z_start {G : Gx} {s U : State} {H : Heap} {locs : List Loc} (hW : Wd G M s H) (hF : Wf G M s s.heap) (hFo : Fo G s s.heap) (hS : va_S (gAA G) s.heap H locs) (hU : U.heap = H) (hw : s.WarmedH U.vm) : Bw G M U :=
  ⟨by rw [hU]; exact hW.moved hw.alike, by rw [hU]; exact hF.fore hw.alike hS, by rw [hU]; exact (hFo.kept hS.2.1).warm hw⟩
/-- invokevirtual -/
theorem z_cV {σ : Type} {f : Option σ} {g : σ → Option ρ} {y : MethodName} {b : ByteArray} {n k ix a : Nat} {ret : Option FieldType} {rm : Room} {C' S' : Nat} {q : vw_C} (ci : Nat) (val : σ → Option Value) (mem : σ → Mem) (As : List Value) (hX : okX X cc own R0 rt nL) (hct : ∀ l : Launch, l.stackTraces = false → ∀ o, f = some o → Ct l y b n ret rm (.ref a :: As) M (val o) (mem o))
    (hd : decode cc pc = .ok (.invokevirtual ix, 3)) (hci : ci < 10) (hq : vwCl[ci]? = some q) (hyc : y.cls = q.1) (h1 : Cond.methodLink own ix y ∈ TT) (h2 : Cond.instanceMethod y ∈ TT) (h3 : Cond.selects y.cls y y ∈ TT) (h4 : Cond.initialized y.cls ∈ TT) (h5 : Cond.code y b n ret ∈ TT) (hy : okY y k) (hAs : As.length = k) (hR : rm.frames + 1 ≤ R0.frames ∧ 8 + (n + 11) + rm.locals ≤ R0.locals)
    (hst : stk = As.reverse ++ .ref a :: st) (hcat : (st.map fun v => v.category).sum ≤ 8) (hC : C + rm.cells = C') (hS2 : S + rm.slots = S') (hCR : C' ≤ R0.cells ∧ S' ≤ R0.slots)
    (kk : ∀ o, Zj X Qo C' S' (pc + 3) lv ((val o).toList ++ st) (mem o) (g o)) : Zj X Qo C S pc lv stk M (ck M a ci >>= fun _ => f >>= g) := by
  unfold ck
  by_cases hk : (mK M a).1 = ci
  · rw [if_pos hk]
    obtain ⟨p, l, e, R, s, m, args, below, meth, c, G, n9⟩ := X
    obtain ⟨hx, hb, hml, hown, hts, hFo, hlk, hR9, hstk, hrt, hnL⟩ := hX
    intro out ho H locs ls hW hF hS hl
    obtain ⟨o, ho1, ho2⟩ := Option.bind_eq_some_iff.mp (show f >>= g = some out from ho)
    subst hR9; subst hst; subst hC; subst hS2
    obtain ⟨hP, -⟩ := hW.obj hk hci hq
    obtain ⟨cell, hc1, hc2, hc3⟩ := va_recv (q0 := 0) (fs := fsO M ci a) hW.2.2 hP hq rfl
    refine z_back (v := val o) (M' := mem o) (va_runV (As := As) (rest := st) (n := k) (C := y.cls) (b := a) (g := F0 m pc ls (As.reverse ++ .ref a :: st)) (index := ix) ⟨hx, hb, hml, hown, hts⟩ (hct l hstk o ho1 G) ⟨cb_tt hts h1 h4 h5 hy hR, hts _ h2, hts _ h3⟩ ⟨pc_blind, ⟨cell, hc1, hc2, by rw [hyc]; exact hc3⟩, fun U hU hw => ⟨rfl, z_start hW hF hFo hS hU hw⟩⟩ rfl hAs (by rw [← hnL] at *; first | exact hl.1 | (rw [hml] at *; exact hl.1)) rfl (lv_room hcat) hd hCR) hF hS ?_
    intro H1 locs1 hW1 hF1 hS1
    exact kk o out ho2 H1 locs1 ls hW1 hF1 hS1 hl
  · rw [if_neg hk]; exact z_noneB
/-- invokestatic -/
theorem z_cS {σ : Type} {f : Option σ} {g : σ → Option ρ} {y : MethodName} {b : ByteArray} {n k ix : Nat} {ret : Option FieldType} {rm : Room} {C' S' : Nat} (val : σ → Option Value) (mem : σ → Mem) (As : List Value) (hX : okX X cc own R0 rt nL) (hct : ∀ l : Launch, l.stackTraces = false → ∀ o, f = some o → Ct l y b n ret rm As M (val o) (mem o))
    (hd : decode cc pc = .ok (.invokestatic ix, 3)) (h1 : Cond.methodLink own ix y ∈ TT) (h2 : Cond.static y ∈ TT) (h4 : Cond.initialized y.cls ∈ TT) (h5 : Cond.code y b n ret ∈ TT) (hy : okY y k) (hAs : As.length = k) (hR : rm.frames + 1 ≤ R0.frames ∧ 8 + (n + 11) + rm.locals ≤ R0.locals)
    (hst : stk = As.reverse ++ st) (hcat : (st.map fun v => v.category).sum ≤ 8) (hC : C + rm.cells = C') (hS2 : S + rm.slots = S') (hCR : C' ≤ R0.cells ∧ S' ≤ R0.slots)
    (kk : ∀ o, Zj X Qo C' S' (pc + 3) lv ((val o).toList ++ st) (mem o) (g o)) : Zj X Qo C S pc lv stk M (f >>= g) := by
  obtain ⟨p, l, e, R, s, m, args, below, meth, c, G, n9⟩ := X
  obtain ⟨hx, hb, hml, hown, hts, hFo, hlk, hR9, hstk, hrt, hnL⟩ := hX
  intro out ho H locs ls hW hF hS hl
  obtain ⟨o, ho1, ho2⟩ := Option.bind_eq_some_iff.mp ho
  subst hR9; subst hst; subst hC; subst hS2
  refine z_back (v := val o) (M' := mem o) (va_runS (As := As) (rest := st) (n := k) (g := F0 m pc ls (As.reverse ++ st)) (index := ix) ⟨hx, hb, hml, hown, hts⟩ (hct l hstk o ho1 G) ⟨cb_tt hts h1 h4 h5 hy hR, hts _ h2⟩ ⟨pc_blind, fun U hU hw => ⟨rfl, z_start hW hF hFo hS hU hw⟩⟩ rfl hAs (by rw [hnL] at hl; exact hl.1) rfl (lv_room hcat) hd hCR) hF hS ?_
  intro H1 locs1 hW1 hF1 hS1
  exact kk o out ho2 H1 locs1 ls hW1 hF1 hS1 hl
/-- a constructor -/
theorem z_cI {σ : Type} {f : Option σ} {g : σ → Option ρ} {y : MethodName} {b : ByteArray} {n k ix a : Nat} {rm : Room} {C' S' : Nat} (mem : σ → Mem) (As : List Value) (hX : okX X cc own R0 rt nL) (hct : ∀ l : Launch, l.stackTraces = false → ∀ o, f = some o → Ct l y b n none rm (.ref a :: As) M none (mem o))
    (hd : decode cc pc = .ok (.invokespecial ix, 3)) (hyn : y.name = "<init>") (h1 : Cond.methodLink own ix y ∈ TT) (h2 : Cond.instanceMethod y ∈ TT) (h4 : Cond.initialized y.cls ∈ TT) (h5 : Cond.code y b n none ∈ TT) (hy : okY y k) (hAs : As.length = k) (hR : rm.frames + 1 ≤ R0.frames ∧ 8 + (n + 11) + rm.locals ≤ R0.locals)
    (hst : stk = As.reverse ++ .ref a :: st) (hcat : (st.map fun v => v.category).sum ≤ 8) (hC : C + rm.cells = C') (hS2 : S + rm.slots = S') (hCR : C' ≤ R0.cells ∧ S' ≤ R0.slots)
    (kk : ∀ o, Zj X Qo C' S' (pc + 3) lv st (mem o) (g o)) : Zj X Qo C S pc lv stk M (f >>= g) := by
  obtain ⟨p, l, e, R, s, m, args, below, meth, c, G, n9⟩ := X
  obtain ⟨hx, hb, hml, hown, hts, hFo, hlk, hR9, hstk, hrt, hnL⟩ := hX
  intro out ho H locs ls hW hF hS hl
  obtain ⟨o, ho1, ho2⟩ := Option.bind_eq_some_iff.mp ho
  subst hR9; subst hst; subst hC; subst hS2
  refine z_back (v := none) (M' := mem o) (va_runI (As := As) (rest := st) (n := k) (b := a) (g := F0 m pc ls (As.reverse ++ .ref a :: st)) (index := ix) ⟨hx, hb, hml, hown, hts⟩ (hct l hstk o ho1 G) ⟨cb_tt hts h1 h4 h5 hy hR, hyn, hts _ h2⟩ ⟨pc_blind, fun U hU hw => ⟨rfl, z_start hW hF hFo hS hU hw⟩⟩ rfl hAs (by rw [hnL] at hl; exact hl.1) rfl (lv_room hcat) hd hCR) hF hS ?_
  intro H1 locs1 hW1 hF1 hS1
  exact kk o out ho2 H1 locs1 ls hW1 hF1 hS1 hl
/-- Object's own constructor -/
theorem z_oI {ix a : Nat} (hX : okX X cc own R0 rt nL) (hd : decode cc pc = .ok (.invokespecial ix, 3)) (h1 : Cond.methodLink own ix objectInit ∈ TT) (h2 : Cond.instanceMethod objectInit ∈ TT) (h3 : Cond.code objectInit ⟨#[0xb1]⟩ 1 none ∈ TT) (hf : 1 ≤ R0.frames) (hlo : (st.map fun v => v.category).sum + 12 ≤ R0.locals) (k : Zj X Qo C S (pc + 3) lv st M t) : Zj X Qo C S pc lv (.ref a :: st) M t := by
  obtain ⟨p, l, e, R, s, m, args, below, meth, c, G, n9⟩ := X
  obtain ⟨hx, hb, hml, hown, hts, hFo, hlk, hR9, hstk, hrt, hnL⟩ := hX
  intro out ho H locs ls hW hF hS hl
  subst hR9
  exact W.objInit hx hb hown (hts _ h1) (hts _ h2) (hts _ h3) rfl (by rw [hml, ← hnL]; exact hl.1) rfl hd hf (by show 2 * 0 + _ + 12 ≤ _; omega) (k out ho H locs ls hW hF hS hl)
/-- Math.min, Math.max -/
theorem z_min {ix : Nat} {x y : Int32} (hX : okX X cc own R0 rt nL) (hd : decode cc pc = .ok (.invokestatic ix, 3)) (h1 : Cond.methodLink own ix Lib.Math.min.name ∈ TT) (h2 : Cond.static Lib.Math.min.name ∈ TT) (h3 : Cond.initialized "java/lang/Math" ∈ TT) (h4 : Cond.code Lib.Math.min.name Lib.Math.min.code 2 (some .int) ∈ TT) (hf : 1 ≤ R0.frames) (hlo : (st.map fun v => v.category).sum + 13 ≤ R0.locals) (hC : C ≤ R0.cells ∧ S ≤ R0.slots) (k : Zj X Qo C S (pc + 3) lv (.int (if y < x then y else x) :: st) M t) : Zj X Qo C S pc lv (.int y :: .int x :: st) M t := by
  obtain ⟨p, l, e, R, s, m, args, below, meth, c, G, n9⟩ := X
  obtain ⟨hx, hb, hml, hown, hts, hFo, hlk, hR9, hstk, hrt, hnL⟩ := hX
  intro out ho H locs ls hW hF hS hl
  subst hR9
  exact va_mmin hx hb (by rw [hml, ← hnL]; exact hl.1.symm) hown (hts _ h1) (hts _ h2) (hts _ h3) (hts _ h4) hf hlo hC.1 hC.2 hd (k out ho H locs ls hW hF hS hl)
theorem z_max {ix : Nat} {x y : Int32} (hX : okX X cc own R0 rt nL) (hd : decode cc pc = .ok (.invokestatic ix, 3)) (h1 : Cond.methodLink own ix Lib.Math.max.name ∈ TT) (h2 : Cond.static Lib.Math.max.name ∈ TT) (h3 : Cond.initialized "java/lang/Math" ∈ TT) (h4 : Cond.code Lib.Math.max.name Lib.Math.max.code 2 (some .int) ∈ TT) (hf : 1 ≤ R0.frames) (hlo : (st.map fun v => v.category).sum + 13 ≤ R0.locals) (hC : C ≤ R0.cells ∧ S ≤ R0.slots) (k : Zj X Qo C S (pc + 3) lv (.int (if x < y then y else x) :: st) M t) : Zj X Qo C S pc lv (.int y :: .int x :: st) M t := by
  obtain ⟨p, l, e, R, s, m, args, below, meth, c, G, n9⟩ := X
  obtain ⟨hx, hb, hml, hown, hts, hFo, hlk, hR9, hstk, hrt, hnL⟩ := hX
  intro out ho H locs ls hW hF hS hl
  subst hR9
  exact va_mmax hx hb (by rw [hml, ← hnL]; exact hl.1.symm) hown (hts _ h1) (hts _ h2) (hts _ h3) (hts _ h4) hf hlo hC.1 hC.2 hd (k out ho H locs ls hW hF hS hl)
/-- a callee's words -/
def okS (y : MethodName) (b : ByteArray) (n : Nat) (ret : Option FieldType) (k : Nat) : Prop := Cond.static y ∈ TT ∧ Cond.initialized y.cls ∈ TT ∧ Cond.code y b n ret ∈ TT ∧ okY y k
def okV (y : MethodName) (b : ByteArray) (n : Nat) (ret : Option FieldType) (k : Nat) : Prop := Cond.instanceMethod y ∈ TT ∧ Cond.selects y.cls y y ∈ TT ∧ Cond.initialized y.cls ∈ TT ∧ Cond.code y b n ret ∈ TT ∧ okY y k
def okI (y : MethodName) (b : ByteArray) (n : Nat) (k : Nat) : Prop := y.name = "<init>" ∧ Cond.instanceMethod y ∈ TT ∧ Cond.initialized y.cls ∈ TT ∧ Cond.code y b n none ∈ TT ∧ okY y k
theorem z_cSIp {f : Option (Int32)} {g : Int32 → Option ρ} {y : MethodName} {b : ByteArray} {n k ix : Nat} {ret : Option FieldType} {rm : Room} {C' S' : Nat} (As : List Value) (hX : okX X cc own R0 rt nL) (hct : ∀ l : Launch, l.stackTraces = false → ∀ o, f = some o → Ct l y b n ret rm As M (some (.int o)) (M))
    (hd : decode cc pc = .ok (.invokestatic ix, 3)) (h1 : Cond.methodLink own ix y ∈ TT) (h2 : okS y b n ret k) (hAs : As.length = k) (hR : rm.frames + 1 ≤ R0.frames ∧ 8 + (n + 11) + rm.locals ≤ R0.locals)
    (hst : stk = As.reverse ++ st) (hcat : (st.map fun v => v.category).sum ≤ 8) (hC : C + rm.cells = C') (hS2 : S + rm.slots = S') (hCR : C' ≤ R0.cells ∧ S' ≤ R0.slots)
    (kk : ∀ o : Int32, Zj X Qo C' S' (pc + 3) lv (.int o :: st) (M) (g o)) : Zj X Qo C S pc lv stk M (f >>= g) :=
  z_cS (fun o => some (.int o)) (fun o => M) As hX hct hd h1 h2.1 h2.2.1 h2.2.2.1 h2.2.2.2 hAs hR hst hcat hC hS2 hCR kk
theorem z_cVIp {f : Option (Int32)} {g : Int32 → Option ρ} {y : MethodName} {b : ByteArray} {n k ix a : Nat} {ret : Option FieldType} {rm : Room} {C' S' : Nat} {q : vw_C} (ci : Nat) (As : List Value) (hX : okX X cc own R0 rt nL) (hct : ∀ l : Launch, l.stackTraces = false → ∀ o, f = some o → Ct l y b n ret rm (.ref a :: As) M (some (.int o)) (M))
    (hd : decode cc pc = .ok (.invokevirtual ix, 3)) (hci : ci < 10) (hq : vwCl[ci]? = some q) (hyc : y.cls = q.1) (h1 : Cond.methodLink own ix y ∈ TT) (h2 : okV y b n ret k) (hAs : As.length = k) (hR : rm.frames + 1 ≤ R0.frames ∧ 8 + (n + 11) + rm.locals ≤ R0.locals)
    (hst : stk = As.reverse ++ .ref a :: st) (hcat : (st.map fun v => v.category).sum ≤ 8) (hC : C + rm.cells = C') (hS2 : S + rm.slots = S') (hCR : C' ≤ R0.cells ∧ S' ≤ R0.slots)
    (kk : ∀ o : Int32, Zj X Qo C' S' (pc + 3) lv (.int o :: st) (M) (g o)) : Zj X Qo C S pc lv stk M (ck M a ci >>= fun _ => f >>= g) :=
  z_cV ci (fun o => some (.int o)) (fun o => M) As hX hct hd hci hq hyc h1 h2.1 h2.2.1 h2.2.2.1 h2.2.2.2.1 h2.2.2.2.2 hAs hR hst hcat hC hS2 hCR kk
theorem z_cSIm {f : Option (Int32 × Mem)} {g : Int32 × Mem → Option ρ} {y : MethodName} {b : ByteArray} {n k ix : Nat} {ret : Option FieldType} {rm : Room} {C' S' : Nat} (As : List Value) (hX : okX X cc own R0 rt nL) (hct : ∀ l : Launch, l.stackTraces = false → ∀ o, f = some o → Ct l y b n ret rm As M (some (.int o.1)) (o.2))
    (hd : decode cc pc = .ok (.invokestatic ix, 3)) (h1 : Cond.methodLink own ix y ∈ TT) (h2 : okS y b n ret k) (hAs : As.length = k) (hR : rm.frames + 1 ≤ R0.frames ∧ 8 + (n + 11) + rm.locals ≤ R0.locals)
    (hst : stk = As.reverse ++ st) (hcat : (st.map fun v => v.category).sum ≤ 8) (hC : C + rm.cells = C') (hS2 : S + rm.slots = S') (hCR : C' ≤ R0.cells ∧ S' ≤ R0.slots)
    (kk : ∀ o : Int32 × Mem, Zj X Qo C' S' (pc + 3) lv (.int o.1 :: st) (o.2) (g o)) : Zj X Qo C S pc lv stk M (f >>= g) :=
  z_cS (fun o => some (.int o.1)) (fun o => o.2) As hX hct hd h1 h2.1 h2.2.1 h2.2.2.1 h2.2.2.2 hAs hR hst hcat hC hS2 hCR kk
theorem z_cVIm {f : Option (Int32 × Mem)} {g : Int32 × Mem → Option ρ} {y : MethodName} {b : ByteArray} {n k ix a : Nat} {ret : Option FieldType} {rm : Room} {C' S' : Nat} {q : vw_C} (ci : Nat) (As : List Value) (hX : okX X cc own R0 rt nL) (hct : ∀ l : Launch, l.stackTraces = false → ∀ o, f = some o → Ct l y b n ret rm (.ref a :: As) M (some (.int o.1)) (o.2))
    (hd : decode cc pc = .ok (.invokevirtual ix, 3)) (hci : ci < 10) (hq : vwCl[ci]? = some q) (hyc : y.cls = q.1) (h1 : Cond.methodLink own ix y ∈ TT) (h2 : okV y b n ret k) (hAs : As.length = k) (hR : rm.frames + 1 ≤ R0.frames ∧ 8 + (n + 11) + rm.locals ≤ R0.locals)
    (hst : stk = As.reverse ++ .ref a :: st) (hcat : (st.map fun v => v.category).sum ≤ 8) (hC : C + rm.cells = C') (hS2 : S + rm.slots = S') (hCR : C' ≤ R0.cells ∧ S' ≤ R0.slots)
    (kk : ∀ o : Int32 × Mem, Zj X Qo C' S' (pc + 3) lv (.int o.1 :: st) (o.2) (g o)) : Zj X Qo C S pc lv stk M (ck M a ci >>= fun _ => f >>= g) :=
  z_cV ci (fun o => some (.int o.1)) (fun o => o.2) As hX hct hd hci hq hyc h1 h2.1 h2.2.1 h2.2.2.1 h2.2.2.2.1 h2.2.2.2.2 hAs hR hst hcat hC hS2 hCR kk
theorem z_cSJp {f : Option (Int64)} {g : Int64 → Option ρ} {y : MethodName} {b : ByteArray} {n k ix : Nat} {ret : Option FieldType} {rm : Room} {C' S' : Nat} (As : List Value) (hX : okX X cc own R0 rt nL) (hct : ∀ l : Launch, l.stackTraces = false → ∀ o, f = some o → Ct l y b n ret rm As M (some (.long o)) (M))
    (hd : decode cc pc = .ok (.invokestatic ix, 3)) (h1 : Cond.methodLink own ix y ∈ TT) (h2 : okS y b n ret k) (hAs : As.length = k) (hR : rm.frames + 1 ≤ R0.frames ∧ 8 + (n + 11) + rm.locals ≤ R0.locals)
    (hst : stk = As.reverse ++ st) (hcat : (st.map fun v => v.category).sum ≤ 8) (hC : C + rm.cells = C') (hS2 : S + rm.slots = S') (hCR : C' ≤ R0.cells ∧ S' ≤ R0.slots)
    (kk : ∀ o : Int64, Zj X Qo C' S' (pc + 3) lv (.long o :: st) (M) (g o)) : Zj X Qo C S pc lv stk M (f >>= g) :=
  z_cS (fun o => some (.long o)) (fun o => M) As hX hct hd h1 h2.1 h2.2.1 h2.2.2.1 h2.2.2.2 hAs hR hst hcat hC hS2 hCR kk
theorem z_cVJp {f : Option (Int64)} {g : Int64 → Option ρ} {y : MethodName} {b : ByteArray} {n k ix a : Nat} {ret : Option FieldType} {rm : Room} {C' S' : Nat} {q : vw_C} (ci : Nat) (As : List Value) (hX : okX X cc own R0 rt nL) (hct : ∀ l : Launch, l.stackTraces = false → ∀ o, f = some o → Ct l y b n ret rm (.ref a :: As) M (some (.long o)) (M))
    (hd : decode cc pc = .ok (.invokevirtual ix, 3)) (hci : ci < 10) (hq : vwCl[ci]? = some q) (hyc : y.cls = q.1) (h1 : Cond.methodLink own ix y ∈ TT) (h2 : okV y b n ret k) (hAs : As.length = k) (hR : rm.frames + 1 ≤ R0.frames ∧ 8 + (n + 11) + rm.locals ≤ R0.locals)
    (hst : stk = As.reverse ++ .ref a :: st) (hcat : (st.map fun v => v.category).sum ≤ 8) (hC : C + rm.cells = C') (hS2 : S + rm.slots = S') (hCR : C' ≤ R0.cells ∧ S' ≤ R0.slots)
    (kk : ∀ o : Int64, Zj X Qo C' S' (pc + 3) lv (.long o :: st) (M) (g o)) : Zj X Qo C S pc lv stk M (ck M a ci >>= fun _ => f >>= g) :=
  z_cV ci (fun o => some (.long o)) (fun o => M) As hX hct hd hci hq hyc h1 h2.1 h2.2.1 h2.2.2.1 h2.2.2.2.1 h2.2.2.2.2 hAs hR hst hcat hC hS2 hCR kk
theorem z_cSJm {f : Option (Int64 × Mem)} {g : Int64 × Mem → Option ρ} {y : MethodName} {b : ByteArray} {n k ix : Nat} {ret : Option FieldType} {rm : Room} {C' S' : Nat} (As : List Value) (hX : okX X cc own R0 rt nL) (hct : ∀ l : Launch, l.stackTraces = false → ∀ o, f = some o → Ct l y b n ret rm As M (some (.long o.1)) (o.2))
    (hd : decode cc pc = .ok (.invokestatic ix, 3)) (h1 : Cond.methodLink own ix y ∈ TT) (h2 : okS y b n ret k) (hAs : As.length = k) (hR : rm.frames + 1 ≤ R0.frames ∧ 8 + (n + 11) + rm.locals ≤ R0.locals)
    (hst : stk = As.reverse ++ st) (hcat : (st.map fun v => v.category).sum ≤ 8) (hC : C + rm.cells = C') (hS2 : S + rm.slots = S') (hCR : C' ≤ R0.cells ∧ S' ≤ R0.slots)
    (kk : ∀ o : Int64 × Mem, Zj X Qo C' S' (pc + 3) lv (.long o.1 :: st) (o.2) (g o)) : Zj X Qo C S pc lv stk M (f >>= g) :=
  z_cS (fun o => some (.long o.1)) (fun o => o.2) As hX hct hd h1 h2.1 h2.2.1 h2.2.2.1 h2.2.2.2 hAs hR hst hcat hC hS2 hCR kk
theorem z_cVJm {f : Option (Int64 × Mem)} {g : Int64 × Mem → Option ρ} {y : MethodName} {b : ByteArray} {n k ix a : Nat} {ret : Option FieldType} {rm : Room} {C' S' : Nat} {q : vw_C} (ci : Nat) (As : List Value) (hX : okX X cc own R0 rt nL) (hct : ∀ l : Launch, l.stackTraces = false → ∀ o, f = some o → Ct l y b n ret rm (.ref a :: As) M (some (.long o.1)) (o.2))
    (hd : decode cc pc = .ok (.invokevirtual ix, 3)) (hci : ci < 10) (hq : vwCl[ci]? = some q) (hyc : y.cls = q.1) (h1 : Cond.methodLink own ix y ∈ TT) (h2 : okV y b n ret k) (hAs : As.length = k) (hR : rm.frames + 1 ≤ R0.frames ∧ 8 + (n + 11) + rm.locals ≤ R0.locals)
    (hst : stk = As.reverse ++ .ref a :: st) (hcat : (st.map fun v => v.category).sum ≤ 8) (hC : C + rm.cells = C') (hS2 : S + rm.slots = S') (hCR : C' ≤ R0.cells ∧ S' ≤ R0.slots)
    (kk : ∀ o : Int64 × Mem, Zj X Qo C' S' (pc + 3) lv (.long o.1 :: st) (o.2) (g o)) : Zj X Qo C S pc lv stk M (ck M a ci >>= fun _ => f >>= g) :=
  z_cV ci (fun o => some (.long o.1)) (fun o => o.2) As hX hct hd hci hq hyc h1 h2.1 h2.2.1 h2.2.2.1 h2.2.2.2.1 h2.2.2.2.2 hAs hR hst hcat hC hS2 hCR kk
theorem z_cSAp {f : Option (Nat)} {g : Nat → Option ρ} {y : MethodName} {b : ByteArray} {n k ix : Nat} {ret : Option FieldType} {rm : Room} {C' S' : Nat} (As : List Value) (hX : okX X cc own R0 rt nL) (hct : ∀ l : Launch, l.stackTraces = false → ∀ o, f = some o → Ct l y b n ret rm As M (some (.ref o)) (M))
    (hd : decode cc pc = .ok (.invokestatic ix, 3)) (h1 : Cond.methodLink own ix y ∈ TT) (h2 : okS y b n ret k) (hAs : As.length = k) (hR : rm.frames + 1 ≤ R0.frames ∧ 8 + (n + 11) + rm.locals ≤ R0.locals)
    (hst : stk = As.reverse ++ st) (hcat : (st.map fun v => v.category).sum ≤ 8) (hC : C + rm.cells = C') (hS2 : S + rm.slots = S') (hCR : C' ≤ R0.cells ∧ S' ≤ R0.slots)
    (kk : ∀ o : Nat, Zj X Qo C' S' (pc + 3) lv (.ref o :: st) (M) (g o)) : Zj X Qo C S pc lv stk M (f >>= g) :=
  z_cS (fun o => some (.ref o)) (fun o => M) As hX hct hd h1 h2.1 h2.2.1 h2.2.2.1 h2.2.2.2 hAs hR hst hcat hC hS2 hCR kk
theorem z_cVAp {f : Option (Nat)} {g : Nat → Option ρ} {y : MethodName} {b : ByteArray} {n k ix a : Nat} {ret : Option FieldType} {rm : Room} {C' S' : Nat} {q : vw_C} (ci : Nat) (As : List Value) (hX : okX X cc own R0 rt nL) (hct : ∀ l : Launch, l.stackTraces = false → ∀ o, f = some o → Ct l y b n ret rm (.ref a :: As) M (some (.ref o)) (M))
    (hd : decode cc pc = .ok (.invokevirtual ix, 3)) (hci : ci < 10) (hq : vwCl[ci]? = some q) (hyc : y.cls = q.1) (h1 : Cond.methodLink own ix y ∈ TT) (h2 : okV y b n ret k) (hAs : As.length = k) (hR : rm.frames + 1 ≤ R0.frames ∧ 8 + (n + 11) + rm.locals ≤ R0.locals)
    (hst : stk = As.reverse ++ .ref a :: st) (hcat : (st.map fun v => v.category).sum ≤ 8) (hC : C + rm.cells = C') (hS2 : S + rm.slots = S') (hCR : C' ≤ R0.cells ∧ S' ≤ R0.slots)
    (kk : ∀ o : Nat, Zj X Qo C' S' (pc + 3) lv (.ref o :: st) (M) (g o)) : Zj X Qo C S pc lv stk M (ck M a ci >>= fun _ => f >>= g) :=
  z_cV ci (fun o => some (.ref o)) (fun o => M) As hX hct hd hci hq hyc h1 h2.1 h2.2.1 h2.2.2.1 h2.2.2.2.1 h2.2.2.2.2 hAs hR hst hcat hC hS2 hCR kk
theorem z_cSAm {f : Option (Nat × Mem)} {g : Nat × Mem → Option ρ} {y : MethodName} {b : ByteArray} {n k ix : Nat} {ret : Option FieldType} {rm : Room} {C' S' : Nat} (As : List Value) (hX : okX X cc own R0 rt nL) (hct : ∀ l : Launch, l.stackTraces = false → ∀ o, f = some o → Ct l y b n ret rm As M (some (.ref o.1)) (o.2))
    (hd : decode cc pc = .ok (.invokestatic ix, 3)) (h1 : Cond.methodLink own ix y ∈ TT) (h2 : okS y b n ret k) (hAs : As.length = k) (hR : rm.frames + 1 ≤ R0.frames ∧ 8 + (n + 11) + rm.locals ≤ R0.locals)
    (hst : stk = As.reverse ++ st) (hcat : (st.map fun v => v.category).sum ≤ 8) (hC : C + rm.cells = C') (hS2 : S + rm.slots = S') (hCR : C' ≤ R0.cells ∧ S' ≤ R0.slots)
    (kk : ∀ o : Nat × Mem, Zj X Qo C' S' (pc + 3) lv (.ref o.1 :: st) (o.2) (g o)) : Zj X Qo C S pc lv stk M (f >>= g) :=
  z_cS (fun o => some (.ref o.1)) (fun o => o.2) As hX hct hd h1 h2.1 h2.2.1 h2.2.2.1 h2.2.2.2 hAs hR hst hcat hC hS2 hCR kk
theorem z_cVAm {f : Option (Nat × Mem)} {g : Nat × Mem → Option ρ} {y : MethodName} {b : ByteArray} {n k ix a : Nat} {ret : Option FieldType} {rm : Room} {C' S' : Nat} {q : vw_C} (ci : Nat) (As : List Value) (hX : okX X cc own R0 rt nL) (hct : ∀ l : Launch, l.stackTraces = false → ∀ o, f = some o → Ct l y b n ret rm (.ref a :: As) M (some (.ref o.1)) (o.2))
    (hd : decode cc pc = .ok (.invokevirtual ix, 3)) (hci : ci < 10) (hq : vwCl[ci]? = some q) (hyc : y.cls = q.1) (h1 : Cond.methodLink own ix y ∈ TT) (h2 : okV y b n ret k) (hAs : As.length = k) (hR : rm.frames + 1 ≤ R0.frames ∧ 8 + (n + 11) + rm.locals ≤ R0.locals)
    (hst : stk = As.reverse ++ .ref a :: st) (hcat : (st.map fun v => v.category).sum ≤ 8) (hC : C + rm.cells = C') (hS2 : S + rm.slots = S') (hCR : C' ≤ R0.cells ∧ S' ≤ R0.slots)
    (kk : ∀ o : Nat × Mem, Zj X Qo C' S' (pc + 3) lv (.ref o.1 :: st) (o.2) (g o)) : Zj X Qo C S pc lv stk M (ck M a ci >>= fun _ => f >>= g) :=
  z_cV ci (fun o => some (.ref o.1)) (fun o => o.2) As hX hct hd hci hq hyc h1 h2.1 h2.2.1 h2.2.2.1 h2.2.2.2.1 h2.2.2.2.2 hAs hR hst hcat hC hS2 hCR kk
theorem z_cSVm {f : Option (Mem)} {g : Mem → Option ρ} {y : MethodName} {b : ByteArray} {n k ix : Nat} {ret : Option FieldType} {rm : Room} {C' S' : Nat} (As : List Value) (hX : okX X cc own R0 rt nL) (hct : ∀ l : Launch, l.stackTraces = false → ∀ o, f = some o → Ct l y b n ret rm As M (none) (o))
    (hd : decode cc pc = .ok (.invokestatic ix, 3)) (h1 : Cond.methodLink own ix y ∈ TT) (h2 : okS y b n ret k) (hAs : As.length = k) (hR : rm.frames + 1 ≤ R0.frames ∧ 8 + (n + 11) + rm.locals ≤ R0.locals)
    (hst : stk = As.reverse ++ st) (hcat : (st.map fun v => v.category).sum ≤ 8) (hC : C + rm.cells = C') (hS2 : S + rm.slots = S') (hCR : C' ≤ R0.cells ∧ S' ≤ R0.slots)
    (kk : ∀ o : Mem, Zj X Qo C' S' (pc + 3) lv (st) (o) (g o)) : Zj X Qo C S pc lv stk M (f >>= g) :=
  z_cS (fun o => none) (fun o => o) As hX hct hd h1 h2.1 h2.2.1 h2.2.2.1 h2.2.2.2 hAs hR hst hcat hC hS2 hCR kk
theorem z_cVVm {f : Option (Mem)} {g : Mem → Option ρ} {y : MethodName} {b : ByteArray} {n k ix a : Nat} {ret : Option FieldType} {rm : Room} {C' S' : Nat} {q : vw_C} (ci : Nat) (As : List Value) (hX : okX X cc own R0 rt nL) (hct : ∀ l : Launch, l.stackTraces = false → ∀ o, f = some o → Ct l y b n ret rm (.ref a :: As) M (none) (o))
    (hd : decode cc pc = .ok (.invokevirtual ix, 3)) (hci : ci < 10) (hq : vwCl[ci]? = some q) (hyc : y.cls = q.1) (h1 : Cond.methodLink own ix y ∈ TT) (h2 : okV y b n ret k) (hAs : As.length = k) (hR : rm.frames + 1 ≤ R0.frames ∧ 8 + (n + 11) + rm.locals ≤ R0.locals)
    (hst : stk = As.reverse ++ .ref a :: st) (hcat : (st.map fun v => v.category).sum ≤ 8) (hC : C + rm.cells = C') (hS2 : S + rm.slots = S') (hCR : C' ≤ R0.cells ∧ S' ≤ R0.slots)
    (kk : ∀ o : Mem, Zj X Qo C' S' (pc + 3) lv (st) (o) (g o)) : Zj X Qo C S pc lv stk M (ck M a ci >>= fun _ => f >>= g) :=
  z_cV ci (fun o => none) (fun o => o) As hX hct hd hci hq hyc h1 h2.1 h2.2.1 h2.2.2.1 h2.2.2.2.1 h2.2.2.2.2 hAs hR hst hcat hC hS2 hCR kk
theorem z_cIm {f : Option Mem} {g : Mem → Option ρ} {y : MethodName} {b : ByteArray} {n k ix a : Nat} {rm : Room} {C' S' : Nat} (As : List Value) (hX : okX X cc own R0 rt nL) (hct : ∀ l : Launch, l.stackTraces = false → ∀ o, f = some o → Ct l y b n none rm (.ref a :: As) M none o)
    (hd : decode cc pc = .ok (.invokespecial ix, 3)) (h1 : Cond.methodLink own ix y ∈ TT) (h2 : okI y b n k) (hAs : As.length = k) (hR : rm.frames + 1 ≤ R0.frames ∧ 8 + (n + 11) + rm.locals ≤ R0.locals)
    (hst : stk = As.reverse ++ .ref a :: st) (hcat : (st.map fun v => v.category).sum ≤ 8) (hC : C + rm.cells = C') (hS2 : S + rm.slots = S') (hCR : C' ≤ R0.cells ∧ S' ≤ R0.slots)
    (kk : ∀ o, Zj X Qo C' S' (pc + 3) lv st o (g o)) : Zj X Qo C S pc lv stk M (f >>= g) :=
  z_cI (fun o => o) As hX hct hd h2.1 h1 h2.2.1 h2.2.2.1 h2.2.2.2.1 h2.2.2.2.2 hAs hR hst hcat hC hS2 hCR kk
/-! nest mates -/
theorem cn_tt {args : Array Value} {s : State} {own host : String} {ix : Nat} {y : MethodName} {b : ByteArray} {n k : Nat} {ret : Option FieldType} {rm R : Room} (hts : ∀ w ∈ TT, w.before args s = true) (h1 : (Cond.methodLinkNest own ix y host).before args s = true) (h4 : Cond.initialized y.cls ∈ TT) (h5 : Cond.code y b n ret ∈ TT) (hy : okY y k) (hR : rm.frames + 1 ≤ R.frames ∧ 8 + (n + 11) + rm.locals ≤ R.locals) : va_CN R s args own ix y host b n ret (.code y b n ret :: TT) rm rm.cells rm.slots k :=
  ⟨⟨rfl, rfl, hR.1, hR.2, pay_tt hts h5, List.mem_cons_self⟩, hts _ h5, hts _ h4, ⟨hy.1, hy.2.1⟩, fun sig h => by
    have h2 := hy.2.2
    rw [h] at h2
    exact (Option.some.inj h2).symm, h1⟩
theorem z_cSN {σ : Type} {f : Option σ} {g : σ → Option ρ} {y : MethodName} {b : ByteArray} {n k ix : Nat} {ret : Option FieldType} {rm : Room} {C' S' : Nat} {host : String} (val : σ → Option Value) (mem : σ → Mem) (As : List Value) (hX : okX X cc own R0 rt nL) (hct : ∀ l : Launch, l.stackTraces = false → ∀ o, f = some o → Ct l y b n ret rm As M (val o) (mem o))
    (hd : decode cc pc = .ok (.invokestatic ix, 3)) (h1 : Cond.methodLinkNest own ix y host ∈ xNW) (h2 : okS y b n ret k) (hAs : As.length = k) (hR : rm.frames + 1 ≤ R0.frames ∧ 8 + (n + 11) + rm.locals ≤ R0.locals)
    (hst : stk = As.reverse ++ st) (hcat : (st.map fun v => v.category).sum ≤ 8) (hC : C + rm.cells = C') (hS2 : S + rm.slots = S') (hCR : C' ≤ R0.cells ∧ S' ≤ R0.slots)
    (kk : ∀ o, Zj X Qo C' S' (pc + 3) lv ((val o).toList ++ st) (mem o) (g o)) : Zj X Qo C S pc lv stk M (f >>= g) := by
  obtain ⟨p, l, e, R, s, m, args, below, meth, c, G, n9⟩ := X
  obtain ⟨hx, hb, hml, hown, hts, hFo, hlk, hR9, hstk, hrt, hnL⟩ := hX
  intro out ho H locs ls hW hF hS hl
  obtain ⟨o, ho1, ho2⟩ := Option.bind_eq_some_iff.mp ho
  subst hR9; subst hst; subst hC; subst hS2
  refine z_back (v := val o) (M' := mem o) (va_runSN (As := As) (rest := st) (n := k) (g := F0 m pc ls (As.reverse ++ st)) (index := ix) (host := host) ⟨hx, hb, hml, hown, hts⟩ (hct l hstk o ho1 G) ⟨cn_tt hts (hFo.2.2.2.2.2.2.use h1) h2.2.1 h2.2.2.1 h2.2.2.2 hR, hts _ h2.1, trivial⟩ ⟨pc_blind, fun U hU hw => ⟨rfl, z_start hW hF hFo hS hU hw⟩⟩ rfl hAs (by rw [hnL] at hl; exact hl.1) rfl (lv_room hcat) hd hCR) hF hS ?_
  intro H1 locs1 hW1 hF1 hS1
  exact kk o out ho2 H1 locs1 ls hW1 hF1 hS1 hl
theorem z_cSNIp {f : Option (Int32)} {g : Int32 → Option ρ} {y : MethodName} {b : ByteArray} {n k ix : Nat} {ret : Option FieldType} {rm : Room} {C' S' : Nat} {host : String} (As : List Value) (hX : okX X cc own R0 rt nL) (hct : ∀ l : Launch, l.stackTraces = false → ∀ o, f = some o → Ct l y b n ret rm As M (some (.int o)) M)
    (hd : decode cc pc = .ok (.invokestatic ix, 3)) (h1 : Cond.methodLinkNest own ix y host ∈ xNW) (h2 : okS y b n ret k) (hAs : As.length = k) (hR : rm.frames + 1 ≤ R0.frames ∧ 8 + (n + 11) + rm.locals ≤ R0.locals)
    (hst : stk = As.reverse ++ st) (hcat : (st.map fun v => v.category).sum ≤ 8) (hC : C + rm.cells = C') (hS2 : S + rm.slots = S') (hCR : C' ≤ R0.cells ∧ S' ≤ R0.slots)
    (kk : ∀ o : Int32, Zj X Qo C' S' (pc + 3) lv (.int o :: st) M (g o)) : Zj X Qo C S pc lv stk M (f >>= g) :=
  z_cSN (fun o => some (.int o)) (fun _ => M) As hX hct hd h1 h2 hAs hR hst hcat hC hS2 hCR kk
theorem z_cINm {f : Option Mem} {g : Mem → Option ρ} {y : MethodName} {b : ByteArray} {n k ix a : Nat} {rm : Room} {C' S' : Nat} {host : String} (As : List Value) (hX : okX X cc own R0 rt nL) (hct : ∀ l : Launch, l.stackTraces = false → ∀ o, f = some o → Ct l y b n none rm (.ref a :: As) M none o)
    (hd : decode cc pc = .ok (.invokespecial ix, 3)) (h1 : Cond.methodLinkNest own ix y host ∈ xNW) (h2 : okI y b n k) (hAs : As.length = k) (hR : rm.frames + 1 ≤ R0.frames ∧ 8 + (n + 11) + rm.locals ≤ R0.locals)
    (hst : stk = As.reverse ++ .ref a :: st) (hcat : (st.map fun v => v.category).sum ≤ 8) (hC : C + rm.cells = C') (hS2 : S + rm.slots = S') (hCR : C' ≤ R0.cells ∧ S' ≤ R0.slots)
    (kk : ∀ o, Zj X Qo C' S' (pc + 3) lv st o (g o)) : Zj X Qo C S pc lv stk M (f >>= g) := by
  obtain ⟨p, l, e, R, s, m, args, below, meth, c, G, n9⟩ := X
  obtain ⟨hx, hb, hml, hown, hts, hFo, hlk, hR9, hstk, hrt, hnL⟩ := hX
  intro out ho H locs ls hW hF hS hl
  obtain ⟨o, ho1, ho2⟩ := Option.bind_eq_some_iff.mp ho
  subst hR9; subst hst; subst hC; subst hS2
  refine z_back (v := none) (M' := o) (va_runIN (As := As) (rest := st) (n := k) (b := a) (g := F0 m pc ls (As.reverse ++ .ref a :: st)) (index := ix) (host := host) ⟨hx, hb, hml, hown, hts⟩ (hct l hstk o ho1 G) ⟨cn_tt hts (hFo.2.2.2.2.2.2.use h1) h2.2.2.1 h2.2.2.2.1 h2.2.2.2.2 hR, h2.1, hts _ h2.2.1⟩ ⟨pc_blind, fun U hU hw => ⟨rfl, z_start hW hF hFo hS hU hw⟩⟩ rfl hAs (by rw [hnL] at hl; exact hl.1) rfl (lv_room hcat) hd hCR) hF hS ?_
  intro H1 locs1 hW1 hF1 hS1
  exact kk o out ho2 H1 locs1 ls hW1 hF1 hS1 hl
theorem z_gSTN (j : Nat) (hX : okX X cc own R0 rt nL) {nm host : String} (hj : j < 3) (hnm : nm = ["FIRST_SETTINGS", "LEAST_SETTINGS", "MOST_SETTINGS"].getD j "") {ix : Nat} {f : Nat → Option ρ} (hlk : Cond.fieldLinkNest own ix "ParticipatoryBudget" nm "[I" host ∈ xNW) (hd : decode cc pc = .ok (.getstatic ix, 3)) (k : ∀ x, Zj X Qo C S (pc + 3) lv (.ref x :: st) M (f x)) : Zj X Qo C S pc lv st M (gST M j >>= f) := by
  obtain ⟨p, l, e, R, s, m, args, below, meth, c, G, n9⟩ := X
  obtain ⟨hx, hb, hml, hown, hts, hFo, hlk2, hR, hstk, hrt, hnL⟩ := hX
  intro out ho H locs ls hW hF hS hl
  unfold gST at ho
  rw [hF.2.2.1 j hj] at ho
  have hZ : va_Z "ParticipatoryBudget" nm "[I" (.ref (gF G j)) (gAA G) s s.heap := by
    subst hnm
    match j, hj with
    | 0, _ => exact hFo.1.1
    | 1, _ => exact hFo.1.2.1
    | 2, _ => exact hFo.1.2.2.1
  exact va_getsN hx hb hZ hS hown (hFo.2.2.2.2.2.2.use hlk) (fun _ h => h) hd (k (gF G j) out ho H locs ls hW hF hS hl)
/-! ===== parts that meet again; loops ===== -/
theorem z_jn {τ : Type} {a : Option τ} {g : τ → Option ρ} {C' S' : Nat} (j : Nat) (lvf : τ → List (Nat × Value)) (stf : τ → List Value) (Mf : τ → Mem) (h1 : ∀ x, Zj X Qo C' S' j (lvf x) (stf x) (Mf x) (g x)) (h2 : (∀ x, Zj X Qo C' S' j (lvf x) (stf x) (Mf x) (g x)) → Zj X Qo C S pc lv st M (a >>= g)) : Zj X Qo C S pc lv st M (a >>= g) := h2 h1
theorem z_jl {τ : Type} {g : τ → Option ρ} {f : (τ → Option ρ) → Option ρ} {C' S' : Nat} (j : Nat) (lvf : τ → List (Nat × Value)) (stf : τ → List Value) (Mf : τ → Mem) (h1 : ∀ x, Zj X Qo C' S' j (lvf x) (stf x) (Mf x) (g x)) (h2 : ∀ kj : τ → Option ρ, (∀ x, Zj X Qo C' S' j (lvf x) (stf x) (Mf x) (kj x)) → Zj X Qo C S pc lv st M (f kj)) : Zj X Qo C S pc lv st M (jn_ g f) := h2 g h1
theorem z_jlB {τ β : Type} {g : τ → Option β} {f : (τ → Option β) → Option β} {K : β → Option ρ} {C' S' : Nat} (j : Nat) (lvf : τ → List (Nat × Value)) (stf : τ → List Value) (Mf : τ → Mem) (h1 : ∀ x, Zj X Qo C' S' j (lvf x) (stf x) (Mf x) (g x >>= K)) (h2 : ∀ kj : τ → Option β, (∀ x, Zj X Qo C' S' j (lvf x) (stf x) (Mf x) (kj x >>= K)) → Zj X Qo C S pc lv st M (f kj >>= K)) : Zj X Qo C S pc lv st M (jn_ g f >>= K) := h2 g h1
theorem z_lp {σ : Type} {k : σ → Option ρ} {n : Nat} {x0 : σ} (F : (σ → Option ρ) → (σ → Option ρ) → σ → Option ρ) (hd ex : Nat) (lvf lve : σ → List (Nat × Value)) (Mf : σ → Mem) (hk : ∀ y, Zj X Qo C S ex (lve y) [] (Mf y) (k y))
    (hb : ∀ k rec : σ → Option ρ, (∀ y, Zj X Qo C S ex (lve y) [] (Mf y) (k y)) → (∀ y, Zj X Qo C S hd (lvf y) [] (Mf y) (rec y)) → ∀ y, Zj X Qo C S hd (lvf y) [] (Mf y) (F k rec y)) : Zj X Qo C S hd (lvf x0) [] (Mf x0) (it_ (F k) n x0) := by
  have h : ∀ n y, Zj X Qo C S hd (lvf y) [] (Mf y) (it_ (F k) n y) := by
    intro n
    induction n with
    | zero => intro y; exact z_none
    | succ n ih => intro y; exact hb k _ hk ih y
  exact h n x0
theorem z_lpB {σ β : Type} {k : σ → Option β} {K : β → Option ρ} {n : Nat} {x0 : σ} (F : (σ → Option β) → (σ → Option β) → σ → Option β) (hd ex : Nat) (lvf lve : σ → List (Nat × Value)) (Mf : σ → Mem) (hk : ∀ y, Zj X Qo C S ex (lve y) [] (Mf y) (k y >>= K))
    (hb : ∀ k rec : σ → Option β, (∀ y, Zj X Qo C S ex (lve y) [] (Mf y) (k y >>= K)) → (∀ y, Zj X Qo C S hd (lvf y) [] (Mf y) (rec y >>= K)) → ∀ y, Zj X Qo C S hd (lvf y) [] (Mf y) (F k rec y >>= K)) : Zj X Qo C S hd (lvf x0) [] (Mf x0) (it_ (F k) n x0 >>= K) := by
  have h : ∀ n y, Zj X Qo C S hd (lvf y) [] (Mf y) (it_ (F k) n y >>= K) := by
    intro n
    induction n with
    | zero => intro y; exact z_noneB
    | succ n ih => intro y; exact hb k _ hk ih y
  exact h n x0
/-- a loop without an end of its own (it ends by a return) -/
theorem z_lp0 {σ : Type} {n : Nat} {x0 : σ} (F : (σ → Option ρ) → σ → Option ρ) (hd : Nat) (lvf : σ → List (Nat × Value)) (Mf : σ → Mem)
    (hb : ∀ rec : σ → Option ρ, (∀ y, Zj X Qo C S hd (lvf y) [] (Mf y) (rec y)) → ∀ y, Zj X Qo C S hd (lvf y) [] (Mf y) (F rec y)) : Zj X Qo C S hd (lvf x0) [] (Mf x0) (it_ F n x0) := by
  have h : ∀ n y, Zj X Qo C S hd (lvf y) [] (Mf y) (it_ F n y) := by
    intro n
    induction n with
    | zero => intro y; exact z_none
    | succ n ih => intro y; exact hb _ ih y
  exact h n x0
end ZC
