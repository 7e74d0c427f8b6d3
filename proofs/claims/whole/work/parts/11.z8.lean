section ZX
variable {ρ : Type} {X : Cxt} {Qo : ρ → State → Prop} {C S pc : Nat} {lv : List (Nat × Value)} {st stk : List Value} {M : Mem} {t : Option ρ} {cc : ByteArray} {own : String} {R0 : Room} {rt : Option FieldType} {nL mc ms : Nat}
/-! ===== throwing, and what a caller does with it ===== -/
theorem xat_tt : ∀ w ∈ (vx_at0 RX8 336 ioob xnm).filter goodWord, w ∈ TT := by decide +kernel
theorem xat_ot : (Cond.classLink RX8 334 ioob :: Cond.initialized ioob :: vx_at0 RX8 336 ioob xnm).all vx_ot = true := by decide +kernel
theorem xat_ln : Cond.classLink RX8 334 ioob ∈ TT := by decide +kernel
theorem xat_in : Cond.initialized ioob ∈ TT := by decide +kernel
/-- throw new IndexOutOfBoundsException() -/
theorem z_thr {α : Type} {val : α → Option Value} (hX : okX X cc RX8 R0 rt nL) (hT : noT X) (d0 : decode cc pc = .ok (.new 334, 3)) (d3 : decode cc (pc + 3) = .ok (.dup, 1)) (d4 : decode cc (pc + 4) = .ok (.invokespecial 336, 3)) (d7 : decode cc (pc + 7) = .ok (.athrow, 1))
    (hf : 5 < R0.frames) (hlo : (st.map fun v => v.category).sum + 81 ≤ R0.locals) (hC : C + 1 ≤ mc) (hS2 : S + 6 ≤ ms) (hCR : C + 1 ≤ R0.cells ∧ S + 6 ≤ R0.slots) : Zj X (fun o : Option α × Mem => Qx X mc ms (o.1.map val) o.2) C S pc lv st M (some (none, sF M)) := by
  obtain ⟨p, l, e, R, s, m, args, below, meth, c, G, n9⟩ := X
  obtain ⟨hx, hb, hml, hown, hts, hFo, hlk, hR9, hstk, hrt, hnL⟩ := hX
  intro out ho H locs ls hW hF hS hl
  cases ho
  subst hR9
  have hat : ∀ w ∈ vx_at0 RX8 336 ioob xnm, w.before args s = true := vx_hat (B := xCB) (fun w hw => hts _ (xat_tt w hw)) (fun w hw => List.mem_append_left _ hw) hFo.2.2.2.2.2.1.use
  exact vx_throw0 (A := gAA G) (names := xnm) hx hb hstk hown (by decide +kernel) (by decide +kernel) (hts _ xat_ln) (hts _ xat_in) hat (List.all_eq_true.mp xat_ot) hFo.2.2.1.1 hFo.2.2.1.2 hS (by rw [hml, ← hnL]; exact hl.1) d0 d3 d4 d7 (fun x hx => absurd (hT x hx) id) hf hlo hCR.1 hCR.2 hlk
    (fun t hvm hz hq => ⟨rfl, rfl, ⟨⟨fun a ha => ⟨(hW.1 a ha).1.kept (hq a (hW.lt ha)), (hW.1 a ha).2⟩, fun n hn => (by cases hn), hW.2.2.moved hvm⟩, (hF.fore (M := M) hvm hS).kept hz (fun a ha _ => hq a ha)⟩, Nat.le_trans hS.1 hz, fun q h1 h2 => by
      rw [hq q (Nat.lt_of_lt_of_le h1 hS.1)]
      exact hS.2.1 q h1 h2⟩) hS.2.2 hC hS2
theorem vx_bk {p : Program} {l : Launch} {e : Env} {R : Room} {s : State} {m : MethodId} {args : Array Value} {below : List Frame} {meth : Method} {c : Code} {G : Gx} {H : Heap} {locs : List Loc} {ls : Array Slot} {Q : State → Prop} {r : Option (Option Value)} {M' : Mem} {st0 : List Value} {cells slots : Nat}
    (hr : vx_Run p l e R s m args below meth c H locs cells slots mc ms (F0 m pc ls st0) st (fun st oc t => (∃ v, r = some v ∧ oc = .returned v) ∧ Be G M' t ∧ va_F (gAA G) st t) (fun E st t => r = none ∧ E = ioob ∧ Be G M' t ∧ va_F (gAA G) st t) (gAA G)) (hF : Wf G M s s.heap) (hS : va_S (gAA G) s.heap H locs)
    (kk : ∀ (H1 : Heap) (locs1 : List Loc) (v : Option Value), r = some v → Wd G M' s H1 → Wf G M' s s.heap → va_S (gAA G) s.heap H1 locs1 → W p l e R s m args below meth c H1 locs1 (cells + mc) (slots + ms) Q (F0 m (pc + 3) ls (v.toList ++ st)))
    (kx : ∀ (H1 : Heap) (locs1 : List Loc) (q : Addr) (ce : Cell), r = none → Wd G M' s H1 → Wf G M' s s.heap → va_S (gAA G) s.heap H1 locs1 → H1[q]? = some ce → ce.vm = .none → s.vm.findClass ioob = some ce.cls → vx_W p l e R s m args below meth c H1 locs1 (cells + mc) (slots + ms) Q (F0 m pc ls st) q) : W p l e R s m args below meth c H locs cells slots Q (F0 m pc ls st0) := by
  intro T hT X
  rcases hr T hT X with ⟨v', st₀, t, T', L, h0, X', hL, e1, e2, ⟨⟨v, hrv, hv⟩, ⟨hW', hF'⟩, hz, hk⟩, stp⟩ | ⟨q, st₀, t, T', L, E, ce, h0, X', hL, e1, e2, ⟨hr0, hE, ⟨hW', hF'⟩, hz, hk⟩, hce, hcv, hcl, stp⟩
  · have hv2 : v' = v := Outcome.returned.inj hv
    subst hv2
    rw [h0] at hz hk
    have hvm : t.vm.Alike s.vm := by rw [← e2]; exact X'.warmed.alike.symm
    have hS1 : va_S (gAA G) s.heap T'.heap (locs ++ L) := ⟨Nat.le_trans hS.1 (by rw [e1]; exact hz), fun q h1 h2 => by
        rw [e1, hk q (Nat.lt_of_lt_of_le h1 hS.1) h2]
        exact hS.2.1 q h1 h2, fun q hq => by
        rcases List.mem_append.mp hq with h | h
        · exact hS.2.2 q h
        · exact hL q h⟩
    rw [← e1] at hW' hF'
    obtain ⟨t2, a1, b1⟩ := kk T'.heap (locs ++ L) _ hrv (hW'.moved hvm) (hF'.back hvm hF.2.2.2.2.2 hS1) hS1 T' rfl X'
    exact ⟨t2, stp t2 a1, b1⟩
  · subst hE
    rw [h0] at hz hk
    have hvm : t.vm.Alike s.vm := by rw [← e2]; exact X'.warmed.alike.symm
    have hS1 : va_S (gAA G) s.heap T'.heap (locs ++ L) := ⟨Nat.le_trans hS.1 (by rw [e1]; exact hz), fun q h1 h2 => by
        rw [e1, hk q (Nat.lt_of_lt_of_le h1 hS.1) h2]
        exact hS.2.1 q h1 h2, fun q hq => by
        rcases List.mem_append.mp hq with h | h
        · exact hS.2.2 q h
        · exact hL q h⟩
    rw [← e1] at hW' hF' hce
    obtain ⟨t2, a1, b1⟩ := kx T'.heap (locs ++ L) q ce hr0 (hW'.moved hvm) (hF'.back hvm hF.2.2.2.2.2 hS1) hS1 hce hcv hcl T' rfl X'
    exact ⟨t2, stp.trans a1, b1⟩
/-- a static call that may throw, in a method that lets it pass -/
theorem z_cSx {α : Type} {val : α → Option Value} {f : Option (Option Unit × Mem)} {g : Unit → Mem → Option (Option α × Mem)} {y : MethodName} {b : ByteArray} {n k ix : Nat} {ret : Option FieldType} {rm : Room} {C' S' : Nat} (As : List Value) (hX : okX X cc own R0 rt nL) (hT : noT X) (hct : ∀ l : Launch, l.stackTraces = false → ∀ o, f = some o → Cx l y b n ret rm As M (o.1.map fun _ => none) o.2)
    (hd : decode cc pc = .ok (.invokestatic ix, 3)) (h1 : Cond.methodLink own ix y ∈ TT) (h2 : Cond.static y ∈ TT) (h4 : Cond.initialized y.cls ∈ TT) (h5 : Cond.code y b n ret ∈ TT) (hy : okY y k) (hAs : As.length = k) (hR : rm.frames + 1 ≤ R0.frames ∧ 8 + (n + 11) + rm.locals ≤ R0.locals)
    (hst : stk = As.reverse ++ st) (hcat : (st.map fun v => v.category).sum ≤ 8) (hC : C + rm.cells = C') (hS2 : S + rm.slots = S') (hCR : C' ≤ R0.cells ∧ S' ≤ R0.slots) (hm : C' ≤ mc) (hm2 : S' ≤ ms)
    (kk : ∀ M', Zj X (fun o : Option α × Mem => Qx X mc ms (o.1.map val) o.2) C' S' (pc + 3) lv st M' (g () M')) : Zj X (fun o : Option α × Mem => Qx X mc ms (o.1.map val) o.2) C S pc lv stk M (thB f g) := by
  obtain ⟨p, l, e, R, s, m, args, below, meth, c, G, n9⟩ := X
  obtain ⟨hx, hb, hml, hown, hts, hFo, hlk, hR9, hstk, hrt, hnL⟩ := hX
  intro out ho H locs ls hW hF hS hl
  obtain ⟨⟨o1, M'⟩, ho1, ho2⟩ := Option.bind_eq_some_iff.mp ho
  subst hR9; subst hst; subst hC; subst hS2
  have hrun := vx_runS (As := As) (rest := st) (n := k) (g := F0 m pc ls (As.reverse ++ st)) (index := ix) ⟨hx, hb, hml, hown, hts⟩ (hct l hstk _ ho1 G) (cells := C) (slots := S) (l := l) (e := e) (below := below) (meth := meth) (locs := locs) (H := H) ⟨cb_tt hts h1 h4 h5 hy hR, hts _ h2⟩ ⟨pc_blind, fun U hU hw => ⟨rfl, z_start hW hF hFo hS hU hw⟩⟩ rfl hAs (by rw [hnL] at hl; exact hl.1) rfl (lv_room hcat) hd hCR
  refine vx_bk (M' := M') hrun hF hS ?_ ?_
  · intro H1 locs1 v hv hW1 hF1 hS1
    cases o1 with
    | none => cases hv
    | some u => cases hv; exact kk M' out ho2 H1 locs1 ls hW1 hF1 hS1 hl
  · intro H1 locs1 q ce hv hW1 hF1 hS1 g1 g2 g3
    cases o1 with
    | some u => cases hv
    | none =>
      cases ho2
      exact vx_out (E := ioob) (fun x hx => absurd (hT x hx) id) hlk g1 g2 g3 (fun t ht hvm => ⟨rfl, rfl, ⟨by rw [ht]; exact hW1.moved hvm, by rw [ht]; exact hF1.fore hvm hS1⟩, hS1.F ht⟩) hS1.2.2 hm hm2
/-- tableswitch, case after case -/
def zsw (x : Int32) (k : Nat) : Prop := ∀ j : Nat, j < k → ¬ x = Int32.ofNat j
theorem z_tsw0 {x : Int32} (k : zsw x 0 → Zj X Qo C S pc lv (.int x :: st) M t) : Zj X Qo C S pc lv (.int x :: st) M t := k (fun j h => absurd h (Nat.not_lt_zero j))
theorem z_tswC {x : Int32} {t1 t2 : Option ρ} {dflt hi : Int} {offs : Array Int} {len : Nat} {off : Int} (hX : okX X cc own R0 rt nL) (k tgt : Nat) (hz : zsw x k) (hd : decode cc pc = .ok (.tableswitch dflt 0 hi offs, len)) (hk : (k : Int) ≤ hi) (hk2 : k < 1000) (ho2 : offs[k]? = some off) (ht : (pc : Int) + off = (tgt : Int))
    (k1 : Zj X Qo C S tgt lv st M t1) (k2 : zsw x (k + 1) → Zj X Qo C S pc lv (.int x :: st) M t2) : Zj X Qo C S pc lv (.int x :: st) M (if x = Int32.ofNat k then t1 else t2) := by
  by_cases h : x = Int32.ofNat k
  · rw [if_pos h]
    subst h
    obtain ⟨p, l, e, R, s, m, args, below, meth, c, G, n9⟩ := X
    obtain ⟨hx, hb, hml, hown, hts, hFo, hlk, hR9, hstk, hrt, hnL⟩ := hX
    intro out ho H locs ls hW hF hS hl
    have hi2 : (Int32.ofNat k).toInt = (k : Int) := nI_toInt (n := k) (by omega)
    exact lv_tableIn hx hb hd (by rw [hi2]; omega) (by rw [hi2]; omega) (by rw [hi2, show ((k : Int) - 0).toNat = k by omega]; exact ho2) ht (k1 out ho H locs ls hW hF hS hl)
  · rw [if_neg h]
    refine k2 (fun j hj => ?_)
    rcases Nat.lt_or_ge j k with q | q
    · exact hz j q
    · rw [show j = k by omega]; exact h
theorem z_tswD {x : Int32} {dflt hi : Int} {offs : Array Int} {len : Nat} (hX : okX X cc own R0 rt nL) (k tgt : Nat) (hz : zsw x k) (hd : decode cc pc = .ok (.tableswitch dflt 0 hi offs, len)) (hk : (k : Int) = hi + 1) (hk2 : k < 1000) (ht : (pc : Int) + dflt = (tgt : Int)) (k1 : Zj X Qo C S tgt lv st M t) : Zj X Qo C S pc lv (.int x :: st) M t := by
  obtain ⟨p, l, e, R, s, m, args, below, meth, c, G, n9⟩ := X
  obtain ⟨hx, hb, hml, hown, hts, hFo, hlk, hR9, hstk, hrt, hnL⟩ := hX
  intro out ho H locs ls hW hF hS hl
  refine lv_tableOut hx hb hd ?_ ht (k1 out ho H locs ls hW hF hS hl)
  by_cases h : x.toInt < 0
  · exact Or.inl h
  · refine Or.inr (Int.not_le.mp fun q => hz x.toInt.toNat (by omega) ?_)
    refine Int32.toInt_inj.mp ?_
    rw [show (Int32.ofNat x.toInt.toNat).toInt = (x.toInt.toNat : Int) from nI_toInt (n := x.toInt.toNat) (by omega)]
    omega
end ZX
