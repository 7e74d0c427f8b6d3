/-! ===== the law: methods with a handler, calls that are caught, the loop with a budget ===== -/
section ZL
variable {ρ : Type} {X : Cxt} {Qo : ρ → State → Prop} {C S pc : Nat} {lv : List (Nat × Value)} {st stk : List Value} {M : Mem} {t : Option ρ} {cc : ByteArray} {own : String} {R0 : Room} {rt : Option FieldType} {nL mc ms : Nat}
/-- the table of a method with one handler -/
def tb : Cxt → List (Nat × Nat × Nat × Nat) → Prop
  | (p, l, e, R, s, m, args, below, meth, c, G, n9), hh => c.exceptionTable.toList = tableOf hh
def Cw (l : Launch) (y : MethodName) (b : ByteArray) (n : Nat) (ret : Option FieldType) (hh : List (Nat × Nat × Nat × Nat)) (rm : Room) (vs : List Value) (M : Mem) (v : Option Value) (M' : Mem) : Prop :=
  ∀ G : Gx, Met l y (.codeWith y b n ret hh :: TT) rm (va_Pc vs (Bw G M)) (qcR G v M') rm.cells rm.slots (gAA G)
theorem Cw.of {l : Launch} {y : MethodName} {b : ByteArray} {n : Nat} {ret : Option FieldType} {hh : List (Nat × Nat × Nat × Nat)} {rm : Room} {vs : List Value} {M M' : Mem} {v : Option Value} {lv : List (Nat × Value)} (hl : l.stackTraces = false) (hy : plainName y.cls = true) (hn : (lg_sl vs).length ≤ n) (hlv : lv_args 0 vs = lv)
    (h : ∀ X, okX X b y.cls rm ret n → tb X hh → Yj X (Qr X rm.cells rm.slots v M') 0 0 0 lv [] M) : Cw l y b n ret hh rm vs M v M' := by
  intro G
  refine va_MetW (cc := b) (maxL := n) (ret := ret) (hh := hh) hy rfl ?_
  intro p e s m args below meth c s₁ B hml hv
  obtain ⟨rfl, hW, hF, hFo⟩ := hv
  have hts := atoms_spec (ws := .codeWith y b n ret hh :: TT) B.pre
  rw [lg_entry_eq]
  exact h (p, l, e, (headSpec (.codeWith y b n ret hh :: TT) rm).room, s, m, vs.toArray, below, meth, c, G, n) ⟨B.exec, B.bytes, hml, findClass_of_methodNamed B.named, fun w hw => hts w (List.mem_cons_of_mem _ hw), hFo, B.notSynchronized, rfl, hl, B.returns, rfl⟩ (vx_table (x := y) B (hts _ List.mem_cons_self)) s.heap [] _ hW hF va_S.rf (by rw [← hlv]; exact lv_entry vs hn)
theorem z_cVc {σ : Type} {f : Option (Option σ × Mem)} {h : σ → Mem → Option ρ} {e' : Mem → Option ρ} {y : MethodName} {b : ByteArray} {n k ix a : Nat} {ret : Option FieldType} {rm : Room} {C' S' h1 h2 h3 h4 : Nat} {q : vw_C} (ci : Nat) (val : σ → Option Value) (As : List Value) (hX : okX X cc own R0 rt nL) (htb : tb X [(h1, h2, h3, h4)]) (hct : ∀ l : Launch, l.stackTraces = false → ∀ o, f = some o → Cx l y b n ret rm (.ref a :: As) M (o.1.map val) o.2)
    (hd : decode cc pc = .ok (.invokevirtual ix, 3)) (hci : ci < 10) (hq : vwCl[ci]? = some q) (hyc : y.cls = q.1) (w1 : Cond.methodLink own ix y ∈ TT) (w2 : okV y b n ret k) (hAs : As.length = k) (hR : rm.frames + 1 ≤ R0.frames ∧ 8 + (n + 11) + rm.locals ≤ R0.locals)
    (hst : stk = As.reverse ++ .ref a :: st) (hcat : (st.map fun v => v.category).sum ≤ 8) (hC : C + rm.cells = C') (hS2 : S + rm.slots = S') (hCR : C' ≤ R0.cells ∧ S' ≤ R0.slots) (hcov : h1 ≤ pc ∧ pc < h2) (h0 : h4 ≠ 0) (hlk : Cond.classLink own h4 ioob ∈ TT)
    (kk : ∀ v M', Zj X Qo C' S' (pc + 3) lv ((val v).toList ++ st) M' (h v M')) (kx : ∀ r M', Zj X Qo C' S' h3 lv [.ref r] M' (e' M')) : Zj X Qo C S pc lv stk M (ck M a ci >>= fun _ => f >>= fun o => thC o h e') := by
  unfold ck
  by_cases hk : (mK M a).1 = ci
  · rw [if_pos hk]
    obtain ⟨p, l, e, R, s, m, args, below, meth, c, G, n9⟩ := X
    obtain ⟨hx, hb, hml, hown, hts, hFo, hlk2, hR9, hstk, hrt, hnL⟩ := hX
    intro out ho H locs ls hW hF hS hl
    obtain ⟨⟨o1, M'⟩, ho1, ho2⟩ := Option.bind_eq_some_iff.mp (show f >>= (fun o => thC o h e') = some out from ho)
    subst hR9; subst hst; subst hC; subst hS2
    obtain ⟨hP, -⟩ := hW.obj hk hci hq
    obtain ⟨cell, hc1, hc2, hc3⟩ := va_recv (q0 := 0) (fs := fsO M ci a) hW.2.2 hP hq rfl
    have hrun := vx_runV (As := As) (rest := st) (n := k) (C := y.cls) (b := a) (g := F0 m pc ls (As.reverse ++ .ref a :: st)) (index := ix) ⟨hx, hb, hml, hown, hts⟩ (hct l hstk _ ho1 G) (cells := C) (slots := S) (l := l) (e := e) (below := below) (meth := meth) (locs := locs) (H := H) ⟨cb_tt hts w1 w2.2.2.1 w2.2.2.2.1 w2.2.2.2.2 hR, hts _ w2.1, hts _ w2.2.1⟩ ⟨pc_blind, ⟨cell, hc1, hc2, by rw [hyc]; exact hc3⟩, fun U hU hw => ⟨rfl, z_start hW hF hFo hS hU hw⟩⟩ rfl hAs (by rw [hnL] at hl; exact hl.1) rfl (lv_room hcat) hd hCR
    refine vx_bk (M' := M') hrun hF hS ?_ ?_
    · intro H1 locs1 v hv hW1 hF1 hS1
      cases o1 with
      | none => cases hv
      | some u => cases hv; exact kk u M' out ho2 H1 locs1 ls hW1 hF1 hS1 hl
    · intro H1 locs1 q ce hv hW1 hF1 hS1 g1 g2 g3
      cases o1 with
      | some u => cases hv
      | none =>
        have hcast := hFo.2.2.2.2.2.1.use (A := args) (.castable ioob ioob) (List.mem_append_right _ (List.mem_singleton.mpr rfl))
        exact vx_catch (E := ioob) hown [] ⟨h1, h2, h3, h4⟩ [] htb (fun z hz => absurd hz List.not_mem_nil) (by simp [covers, hcov.1, hcov.2]) h0 (hts _ hlk) hcast g1 g2 g3 (kx q M' out ho2 H1 locs1 ls hW1 hF1 hS1 hl)
  · rw [if_neg hk]; exact z_noneB
/-- a static call of a method with a handler -/
def okW (y : MethodName) (b : ByteArray) (n : Nat) (ret : Option FieldType) (hh : List (Nat × Nat × Nat × Nat)) (k : Nat) : Prop := Cond.static y ∈ TT ∧ Cond.initialized y.cls ∈ TT ∧ Cond.codeWith y b n ret hh ∈ TT ∧ okY y k
theorem z_cSw {f : Option (Int32 × Mem)} {g : Int32 × Mem → Option ρ} {y : MethodName} {b : ByteArray} {n k ix : Nat} {ret : Option FieldType} {hh : List (Nat × Nat × Nat × Nat)} {rm : Room} {C' S' : Nat} (As : List Value) (hX : okX X cc own R0 rt nL) (hct : ∀ l : Launch, l.stackTraces = false → ∀ o, f = some o → Cw l y b n ret hh rm As M (some (.int o.1)) o.2)
    (hd : decode cc pc = .ok (.invokestatic ix, 3)) (h1 : Cond.methodLink own ix y ∈ TT) (h2 : okW y b n ret hh k) (hAs : As.length = k) (hR : rm.frames + 1 ≤ R0.frames ∧ 8 + (n + 11) + rm.locals ≤ R0.locals)
    (hst : stk = As.reverse ++ st) (hcat : (st.map fun v => v.category).sum ≤ 8) (hC : C + rm.cells = C') (hS2 : S + rm.slots = S') (hCR : C' ≤ R0.cells ∧ S' ≤ R0.slots)
    (kk : ∀ o : Int32 × Mem, Zj X Qo C' S' (pc + 3) lv (.int o.1 :: st) o.2 (g o)) : Zj X Qo C S pc lv stk M (f >>= g) := by
  obtain ⟨p, l, e, R, s, m, args, below, meth, c, G, n9⟩ := X
  obtain ⟨hx, hb, hml, hown, hts, hFo, hlk, hR9, hstk, hrt, hnL⟩ := hX
  intro out ho H locs ls hW hF hS hl
  obtain ⟨o, ho1, ho2⟩ := Option.bind_eq_some_iff.mp ho
  subst hR9; subst hst; subst hC; subst hS2
  have pay : ∀ w ∈ (.codeWith y b n ret hh :: TT : List Cond), ∀ (a' : Array Value) (U : State), s.WarmedH U.vm → w.before a' U = true := by
    intro w hw a' U hW
    have h : w ∈ TT := by
      rcases List.mem_cons.mp hw with rfl | h
      · exact h2.2.2.1
      · exact h
    exact word_at hW (good_of_word (tt_good h)) (hts w h)
  refine z_back (v := some (.int o.1)) (M' := o.2) (vx_runSW (As := As) (rest := st) (n := k) (hh := hh) (g := F0 m pc ls (As.reverse ++ st)) (index := ix) ⟨hx, hb, hml, hown, hts⟩ (hct l hstk o ho1 G) ⟨⟨rfl, rfl, hR.1, hR.2, pay, List.mem_cons_self⟩, hts _ h2.2.2.1, hts _ h2.2.1, ⟨h2.2.2.2.1, h2.2.2.2.2.1⟩, fun sig h => by
    have h3 := h2.2.2.2.2.2
    rw [h] at h3
    exact (Option.some.inj h3).symm, hts _ h1, hts _ h2.1⟩ ⟨pc_blind, fun U hU hw => ⟨rfl, z_start hW hF hFo hS hU hw⟩⟩ rfl hAs (by rw [hnL] at hl; exact hl.1) rfl (lv_room hcat) hd hCR) hF hS ?_
  intro H1 locs1 hW1 hF1 hS1
  exact kk o out ho2 H1 locs1 ls hW1 hF1 hS1 hl
/-- an end that nobody asks for -/
theorem z_any {r : ρ} (hq : ∀ st, Qo r st) : Zj X Qo C S pc lv st M (some r) := by
  obtain ⟨p, l, e, R, s, m, args, below, meth, c, G, n9⟩ := X
  intro out ho H locs ls hW hF hS hl T hT XX
  cases ho
  exact ⟨_, Steps.refl _, hq _⟩
/-- a loop whose turns may take c cells and d slots each -/
theorem z_lpC {σ : Type} {x0 : σ} (F : (σ → Option ρ) → σ → Option ρ) (N c d : Nat) (hd : Nat) (lvf : σ → List (Nat × Value)) (Mf : σ → Mem) {Cm Sm : Nat} (hCm : C + N * c ≤ Cm) (hSm : S + N * d ≤ Sm)
    (hb : ∀ (rec : σ → Option ρ) (C1 S1 : Nat), C1 + c ≤ Cm → S1 + d ≤ Sm → (∀ y, Zj X Qo (C1 + c) (S1 + d) hd (lvf y) [] (Mf y) (rec y)) → ∀ y, Zj X Qo C1 S1 hd (lvf y) [] (Mf y) (F rec y)) : Zj X Qo C S hd (lvf x0) [] (Mf x0) (it_ F N x0) := by
  have h : ∀ n, n ≤ N → ∀ y, Zj X Qo (C + (N - n) * c) (S + (N - n) * d) hd (lvf y) [] (Mf y) (it_ F n y) := by
    intro n
    induction n with
    | zero => intro _ y; exact z_none
    | succ n ih =>
      intro hn y
      have e : N - n = N - (n + 1) + 1 := by omega
      have e1 : C + (N - n) * c = C + (N - (n + 1)) * c + c := by rw [e, Nat.add_mul, Nat.one_mul, Nat.add_assoc]
      have e2 : S + (N - n) * d = S + (N - (n + 1)) * d + d := by rw [e, Nat.add_mul, Nat.one_mul, Nat.add_assoc]
      have m1 : (N - n) * c ≤ N * c := Nat.mul_le_mul_right c (by omega)
      have m2 : (N - n) * d ≤ N * d := Nat.mul_le_mul_right d (by omega)
      refine hb _ _ _ (by rw [← e1]; omega) (by rw [← e2]; omega) (fun y => ?_) y
      have := ih (by omega) y
      rw [e1, e2] at this
      exact this
  have := h N (Nat.le_refl _) x0
  rw [Nat.sub_self, Nat.zero_mul, Nat.zero_mul] at this
  exact this
end ZL
