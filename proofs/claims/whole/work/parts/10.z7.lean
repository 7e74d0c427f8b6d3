section ZC
variable {ρ : Type} {X : Cxt} {Qo : ρ → State → Prop} {C S pc : Nat} {lv : List (Nat × Value)} {st stk : List Value} {M : Mem} {t : Option ρ} {cc : ByteArray} {own : String} {R0 : Room} {rt : Option FieldType} {nL mc ms : Nat}
/-- what a callee must be, and the room for it -/
def okY (y : MethodName) (k : Nat) : Prop := y.cls ≠ "java/lang/invoke/MethodHandle" ∧ y.cls ≠ "java/lang/invoke/VarHandle" ∧ (parseMethodDescriptor y.desc).map (fun d => d.parameters.length) = some k
theorem pay_tt {args : Array Value} {s : State} {y : MethodName} {b : ByteArray} {n : Nat} {ret : Option FieldType} (hts : ∀ w ∈ TT, w.before args s = true) (hc : Cond.code y b n ret ∈ TT) : ∀ w ∈ (.code y b n ret :: TT : List Cond), ∀ (a' : Array Value) (U : State), s.WarmedH U.vm → w.before a' U = true := by
  intro w hw a' U hW
  have h : w ∈ TT := by
    rcases List.mem_cons.mp hw with rfl | h
    · exact hc
    · exact h
  exact word_at hW (good_of_word (tt_good h)) (hts w h)
theorem cb_tt {args : Array Value} {s : State} {own : String} {ix : Nat} {y : MethodName} {b : ByteArray} {n k : Nat} {ret : Option FieldType} {rm R : Room} (hts : ∀ w ∈ TT, w.before args s = true) (h1 : Cond.methodLink own ix y ∈ TT) (h4 : Cond.initialized y.cls ∈ TT) (h5 : Cond.code y b n ret ∈ TT) (hy : okY y k) (hR : rm.frames + 1 ≤ R.frames ∧ 8 + (n + 11) + rm.locals ≤ R.locals) : CallB R s args own ix y b n ret (.code y b n ret :: TT) rm rm.cells rm.slots k :=
  ⟨rfl, rfl, hR.1, hR.2, pay_tt hts h5, List.mem_cons_self, hts _ h5, hts _ h4, ⟨hy.1, hy.2.1⟩, fun sig h => by
    have h2 := hy.2.2
    rw [h] at h2
    exact (Option.some.inj h2).symm, hts _ h1⟩
/-- behind a call: the caller goes on over the callee's memory -/
theorem z_back {p : Program} {l : Launch} {e : Env} {R : Room} {s : State} {m : MethodId} {args : Array Value} {below : List Frame} {meth : Method} {c : Code} {G : Gx} {H : Heap} {locs : List Loc} {ls : Array Slot} {Q : State → Prop} {a : Array Value} {v : Option Value} {M' : Mem} {st0 : List Value} {cells slots : Nat}
    (hr : va_Run p l e R s m args below meth c H locs cells slots mc ms (F0 m pc ls st0) st (qcR G v M' a) (gAA G)) (hF : Wf G M s s.heap) (hS : va_S (gAA G) s.heap H locs)
    (kk : ∀ (H1 : Heap) (locs1 : List Loc), Wd G M' s H1 → Wf G M' s s.heap → va_S (gAA G) s.heap H1 locs1 → W p l e R s m args below meth c H1 locs1 (cells + mc) (slots + ms) Q (F0 m (pc + 3) ls (v.toList ++ st))) : W p l e R s m args below meth c H locs cells slots Q (F0 m pc ls st0) := by
  intro T hT X
  obtain ⟨v', st₀, t, T', L, h0, X', hL, e1, e2, ⟨hv, ⟨hW', hF'⟩, hz, hk⟩, stp⟩ := hr T hT X
  cases hv
  rw [h0] at hz hk
  have hvm : t.vm.Alike s.vm := by rw [← e2]; exact X'.warmed.alike.symm
  have hS1 : va_S (gAA G) s.heap T'.heap (locs ++ L) := ⟨Nat.le_trans hS.1 (by rw [e1]; exact hz), fun q h1 h2 => by
      rw [e1, hk q (Nat.lt_of_lt_of_le h1 hS.1) h2]
      exact hS.2.1 q h1 h2, fun q hq => by
      rcases List.mem_append.mp hq with h | h
      · exact hS.2.2 q h
      · exact hL q h⟩
  rw [← e1] at hW' hF'
  obtain ⟨t2, a1, b1⟩ := kk T'.heap (locs ++ L) (hW'.moved hvm) (hF'.back hvm hF.2.2.2.2.2 hS1) hS1 T' rfl X'
  exact ⟨t2, stp t2 a1, b1⟩
theorem z_start {G : Gx} {s U : State} {H : Heap} {locs : List Loc} (hW : Wd G M s H) (hF : Wf G M s s.heap) (hFo : Fo G s s.heap) (hS : va_S (gAA G) s.heap H locs) (hU : U.heap = H) (hw : s.WarmedH U.vm) : Bw G M U :=
  ⟨by rw [hU]; exact hW.moved hw.alike, by rw [hU]; exact hF.fore hw.alike hS, by rw [hU]; exact (hFo.kept hS.2.1).warm hw⟩
/-- invokevirtual -/
theorem z_cV {σ : Type} {f : Option σ} {g : σ → Option ρ} {y : MethodName} {b : ByteArray} {n k ix a : Nat} {ret : Option FieldType} {rm : Room} {C' S' : Nat} {q : vw_C} (ci : Nat) (val : σ → Option Value) (mem : σ → Mem) (As : List Value) (hX : okX X cc own R0 rt nL) (hct : ∀ l : Launch, l.stackTraces = false → ∀ o, f = some o → Ct l y b n ret rm (.ref a :: As) M (val o) (mem o))
    (hd : decode cc pc = .ok (.invokevirtual ix, 3)) (hci : ci < 10) (hq : vwCl[ci]? = some q) (hyc : y.cls = q.1) (h1 : Cond.methodLink own ix y ∈ TT) (h2 : Cond.instanceMethod y ∈ TT) (h3 : Cond.selects y.cls y y ∈ TT) (h4 : Cond.initialized y.cls ∈ TT) (h5 : Cond.code y b n ret ∈ TT) (hy : okY y k) (hAs : As.length = k) (hR : rm.frames + 1 ≤ R0.frames ∧ 8 + (n + 11) + rm.locals ≤ R0.locals)
    (hst : stk = As.reverse ++ .ref a :: st) (hcat : (st.map fun v => v.category).sum ≤ 8) (hC : C + rm.cells = C') (hS2 : S + rm.slots = S') (hCR : C' ≤ R0.cells ∧ S' ≤ R0.slots)
    (kk : ∀ o, Zj X Qo C' S' (pc + 3) lv ((val o).toList ++ st) (mem o) (g o)) : Zj X Qo C S pc lv stk M (ck M a ci >>= fun _ => f >>= g) := by
  unfold ck
  by_cases hk : (mK M a).1 = ci
  · rw [if_pos hk]
    obtain ⟨p, l, e, R, s, m, args, below, meth, c, G, n9⟩ := X
    obtain ⟨hx, hb, hml, hown, hts, hFo, hlk, hR9, hstk, hrt, hnL⟩ := hX
    intro out ho H locs ls hW hF hS hl
    obtain ⟨o, ho1, ho2⟩ := Option.bind_eq_some_iff.mp (show f >>= g = some out from ho)
    subst hR9; subst hst; subst hC; subst hS2
    obtain ⟨hP, -⟩ := hW.obj hk hci hq
    obtain ⟨cell, hc1, hc2, hc3⟩ := va_recv (q0 := 0) (fs := fsO M ci a) hW.2.2 hP hq rfl
    refine z_back (v := val o) (M' := mem o) (va_runV (As := As) (rest := st) (n := k) (C := y.cls) (b := a) (g := F0 m pc ls (As.reverse ++ .ref a :: st)) (index := ix) ⟨hx, hb, hml, hown, hts⟩ (hct l hstk o ho1 G) ⟨cb_tt hts h1 h4 h5 hy hR, hts _ h2, hts _ h3⟩ ⟨pc_blind, ⟨cell, hc1, hc2, by rw [hyc]; exact hc3⟩, fun U hU hw => ⟨rfl, z_start hW hF hFo hS hU hw⟩⟩ rfl hAs (by rw [← hnL] at *; first | exact hl.1 | (rw [hml] at *; exact hl.1)) rfl (lv_room hcat) hd hCR) hF hS ?_
    intro H1 locs1 hW1 hF1 hS1
    exact kk o out ho2 H1 locs1 ls hW1 hF1 hS1 hl
  · rw [if_neg hk]; exact z_noneB
/-- invokestatic -/
theorem z_cS {σ : Type} {f : Option σ} {g : σ → Option ρ} {y : MethodName} {b : ByteArray} {n k ix : Nat} {ret : Option FieldType} {rm : Room} {C' S' : Nat} (val : σ → Option Value) (mem : σ → Mem) (As : List Value) (hX : okX X cc own R0 rt nL) (hct : ∀ l : Launch, l.stackTraces = false → ∀ o, f = some o → Ct l y b n ret rm As M (val o) (mem o))
    (hd : decode cc pc = .ok (.invokestatic ix, 3)) (h1 : Cond.methodLink own ix y ∈ TT) (h2 : Cond.static y ∈ TT) (h4 : Cond.initialized y.cls ∈ TT) (h5 : Cond.code y b n ret ∈ TT) (hy : okY y k) (hAs : As.length = k) (hR : rm.frames + 1 ≤ R0.frames ∧ 8 + (n + 11) + rm.locals ≤ R0.locals)
    (hst : stk = As.reverse ++ st) (hcat : (st.map fun v => v.category).sum ≤ 8) (hC : C + rm.cells = C') (hS2 : S + rm.slots = S') (hCR : C' ≤ R0.cells ∧ S' ≤ R0.slots)
    (kk : ∀ o, Zj X Qo C' S' (pc + 3) lv ((val o).toList ++ st) (mem o) (g o)) : Zj X Qo C S pc lv stk M (f >>= g) := by
  obtain ⟨p, l, e, R, s, m, args, below, meth, c, G, n9⟩ := X
  obtain ⟨hx, hb, hml, hown, hts, hFo, hlk, hR9, hstk, hrt, hnL⟩ := hX
  intro out ho H locs ls hW hF hS hl
  obtain ⟨o, ho1, ho2⟩ := Option.bind_eq_some_iff.mp ho
  subst hR9; subst hst; subst hC; subst hS2
  refine z_back (v := val o) (M' := mem o) (va_runS (As := As) (rest := st) (n := k) (g := F0 m pc ls (As.reverse ++ st)) (index := ix) ⟨hx, hb, hml, hown, hts⟩ (hct l hstk o ho1 G) ⟨cb_tt hts h1 h4 h5 hy hR, hts _ h2⟩ ⟨pc_blind, fun U hU hw => ⟨rfl, z_start hW hF hFo hS hU hw⟩⟩ rfl hAs (by rw [hnL] at hl; exact hl.1) rfl (lv_room hcat) hd hCR) hF hS ?_
  intro H1 locs1 hW1 hF1 hS1
  exact kk o out ho2 H1 locs1 ls hW1 hF1 hS1 hl
/-- a constructor -/
theorem z_cI {σ : Type} {f : Option σ} {g : σ → Option ρ} {y : MethodName} {b : ByteArray} {n k ix a : Nat} {rm : Room} {C' S' : Nat} (mem : σ → Mem) (As : List Value) (hX : okX X cc own R0 rt nL) (hct : ∀ l : Launch, l.stackTraces = false → ∀ o, f = some o → Ct l y b n none rm (.ref a :: As) M none (mem o))
    (hd : decode cc pc = .ok (.invokespecial ix, 3)) (hyn : y.name = "<init>") (h1 : Cond.methodLink own ix y ∈ TT) (h2 : Cond.instanceMethod y ∈ TT) (h4 : Cond.initialized y.cls ∈ TT) (h5 : Cond.code y b n none ∈ TT) (hy : okY y k) (hAs : As.length = k) (hR : rm.frames + 1 ≤ R0.frames ∧ 8 + (n + 11) + rm.locals ≤ R0.locals)
    (hst : stk = As.reverse ++ .ref a :: st) (hcat : (st.map fun v => v.category).sum ≤ 8) (hC : C + rm.cells = C') (hS2 : S + rm.slots = S') (hCR : C' ≤ R0.cells ∧ S' ≤ R0.slots)
    (kk : ∀ o, Zj X Qo C' S' (pc + 3) lv st (mem o) (g o)) : Zj X Qo C S pc lv stk M (f >>= g) := by
  obtain ⟨p, l, e, R, s, m, args, below, meth, c, G, n9⟩ := X
  obtain ⟨hx, hb, hml, hown, hts, hFo, hlk, hR9, hstk, hrt, hnL⟩ := hX
  intro out ho H locs ls hW hF hS hl
  obtain ⟨o, ho1, ho2⟩ := Option.bind_eq_some_iff.mp ho
  subst hR9; subst hst; subst hC; subst hS2
  refine z_back (v := none) (M' := mem o) (va_runI (As := As) (rest := st) (n := k) (b := a) (g := F0 m pc ls (As.reverse ++ .ref a :: st)) (index := ix) ⟨hx, hb, hml, hown, hts⟩ (hct l hstk o ho1 G) ⟨cb_tt hts h1 h4 h5 hy hR, hyn, hts _ h2⟩ ⟨pc_blind, fun U hU hw => ⟨rfl, z_start hW hF hFo hS hU hw⟩⟩ rfl hAs (by rw [hnL] at hl; exact hl.1) rfl (lv_room hcat) hd hCR) hF hS ?_
  intro H1 locs1 hW1 hF1 hS1
  exact kk o out ho2 H1 locs1 ls hW1 hF1 hS1 hl
/-- Object's own constructor -/
theorem z_oI {ix a : Nat} (hX : okX X cc own R0 rt nL) (hd : decode cc pc = .ok (.invokespecial ix, 3)) (h1 : Cond.methodLink own ix objectInit ∈ TT) (h2 : Cond.instanceMethod objectInit ∈ TT) (h3 : Cond.code objectInit ⟨#[0xb1]⟩ 1 none ∈ TT) (hf : 1 ≤ R0.frames) (hlo : (st.map fun v => v.category).sum + 12 ≤ R0.locals) (k : Zj X Qo C S (pc + 3) lv st M t) : Zj X Qo C S pc lv (.ref a :: st) M t := by
  obtain ⟨p, l, e, R, s, m, args, below, meth, c, G, n9⟩ := X
  obtain ⟨hx, hb, hml, hown, hts, hFo, hlk, hR9, hstk, hrt, hnL⟩ := hX
  intro out ho H locs ls hW hF hS hl
  subst hR9
  exact W.objInit hx hb hown (hts _ h1) (hts _ h2) (hts _ h3) rfl (by rw [hml, ← hnL]; exact hl.1) rfl hd hf (by show 2 * 0 + _ + 12 ≤ _; omega) (k out ho H locs ls hW hF hS hl)
/-- Math.min, Math.max -/
theorem z_min {ix : Nat} {x y : Int32} (hX : okX X cc own R0 rt nL) (hd : decode cc pc = .ok (.invokestatic ix, 3)) (h1 : Cond.methodLink own ix Lib.Math.min.name ∈ TT) (h2 : Cond.static Lib.Math.min.name ∈ TT) (h3 : Cond.initialized "java/lang/Math" ∈ TT) (h4 : Cond.code Lib.Math.min.name Lib.Math.min.code 2 (some .int) ∈ TT) (hf : 1 ≤ R0.frames) (hlo : (st.map fun v => v.category).sum + 13 ≤ R0.locals) (hC : C ≤ R0.cells ∧ S ≤ R0.slots) (k : Zj X Qo C S (pc + 3) lv (.int (if y < x then y else x) :: st) M t) : Zj X Qo C S pc lv (.int y :: .int x :: st) M t := by
  obtain ⟨p, l, e, R, s, m, args, below, meth, c, G, n9⟩ := X
  obtain ⟨hx, hb, hml, hown, hts, hFo, hlk, hR9, hstk, hrt, hnL⟩ := hX
  intro out ho H locs ls hW hF hS hl
  subst hR9
  exact va_mmin hx hb (by rw [hml, ← hnL]; exact hl.1.symm) hown (hts _ h1) (hts _ h2) (hts _ h3) (hts _ h4) hf hlo hC.1 hC.2 hd (k out ho H locs ls hW hF hS hl)
theorem z_max {ix : Nat} {x y : Int32} (hX : okX X cc own R0 rt nL) (hd : decode cc pc = .ok (.invokestatic ix, 3)) (h1 : Cond.methodLink own ix Lib.Math.max.name ∈ TT) (h2 : Cond.static Lib.Math.max.name ∈ TT) (h3 : Cond.initialized "java/lang/Math" ∈ TT) (h4 : Cond.code Lib.Math.max.name Lib.Math.max.code 2 (some .int) ∈ TT) (hf : 1 ≤ R0.frames) (hlo : (st.map fun v => v.category).sum + 13 ≤ R0.locals) (hC : C ≤ R0.cells ∧ S ≤ R0.slots) (k : Zj X Qo C S (pc + 3) lv (.int (if x < y then y else x) :: st) M t) : Zj X Qo C S pc lv (.int y :: .int x :: st) M t := by
  obtain ⟨p, l, e, R, s, m, args, below, meth, c, G, n9⟩ := X
  obtain ⟨hx, hb, hml, hown, hts, hFo, hlk, hR9, hstk, hrt, hnL⟩ := hX
  intro out ho H locs ls hW hF hS hl
  subst hR9
  exact va_mmax hx hb (by rw [hml, ← hnL]; exact hl.1.symm) hown (hts _ h1) (hts _ h2) (hts _ h3) (hts _ h4) hf hlo hC.1 hC.2 hd (k out ho H locs ls hW hF hS hl)
end ZC
