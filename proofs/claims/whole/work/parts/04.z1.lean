/-! ===== the world: what the heap holds of a memory ===== -/
abbrev Gx : Type := va_G × (Nat → ClassId) × Nat × (Nat → Nat) × (Nat → Nat) × (Nat → Nat)
def gD (G : Gx) : va_G := G.1
def gA (G : Gx) : Nat → ClassId := G.2.1
def gB (G : Gx) : Nat := G.2.2.1
def gF (G : Gx) : Nat → Nat := G.2.2.2.1
def gS (G : Gx) : Nat → Nat := G.2.2.2.2.1
def gV (G : Gx) : Nat → Nat := G.2.2.2.2.2
def gT (G : Gx) : List (ClassId × FieldType) := [(gA G 0, .int), (gA G 1, .byte), (gA G 2, .long), (gA G 3, .array .int)]
def gAA (G : Gx) : Nat → Prop := fun q => gB G ≤ q
def ow (k : Nat) : Prop := k < 10 ∨ (20 ≤ k ∧ k < 24)
def cE (G : Gx) (M : Mem) (a : Nat) : va_E :=
  if (mK M a).1 = 20 then .inl (gA G 0, (mK M a).2, .inl (mI M a)) else
  if (mK M a).1 = 21 then .inl (gA G 1, (mK M a).2, .inl (mI M a)) else
  if (mK M a).1 = 22 then .inl (gA G 2, (mK M a).2, .inr (.inl (mL M a))) else
  if (mK M a).1 = 23 then .inl (gA G 3, (mK M a).2, .inr (.inr (.inr (.inr (mR M a))))) else
  .inr ((mK M a).1, fsO M (mK M a).1 a)
/-- the cells of the system -/
def Wd (G : Gx) (M : Mem) (U : State) (H : Heap) : Prop :=
  (∀ a, ow (mK M a).1 → va_at (gD G) vwCl (a, cE G M a) H ∧ gB G ≤ a) ∧ (∀ n, mN M = some n → H.size = n) ∧ va_K (gD G) vwCl (gT G) U
/-- what of a memory isn't the system's: constant arrays, the script, texts -/
def Wf (G : Gx) (M : Mem) (U : State) (H : Heap) : Prop :=
  (∀ a, (mK M a).1 = 25 → va_T .int a (mK M a).2 (fun j => .int (mI M a j)) (gAA G) U H ∧ a < gB G) ∧ True ∧ (∀ j, j < 3 → mR M 0 j = some (gF G j)) ∧ (∀ i, i < 10 → mR M 0 (10 + i) = some (gS G i) ∧ mR M 0 (20 + i) = some (gV G i)) ∧ 0 < gB G ∧ gB G ≤ H.size
def strL : List Nat := strB.map List.length
def strI : List (List Int32) := strB.map fun l => l.map Int32.ofNat
/-- the statics -/
def strX : List Nat := [48, 54, 56, 58, 60, 62, 64, 66, 68, 70]
def strT : List String := ["district", "project", "voter", "in", "for", "set", "worth", "completion", "step", "order"]
def fAO (U : State) : Prop := (Cond.arrayOver (.array .int)).before #[] U = true
theorem fAO.moved {u U : State} (hvm : u.vm.Alike U.vm) (h : fAO u) : fAO U := by
  have h' := h
  unfold fAO Cond.before Cond.holds at h' ⊢
  simp only [Cond.value] at h' ⊢
  rw [hvm.findClass]
  cases hc : u.vm.findClass (FieldType.array FieldType.int).toString with
  | none => rw [hc] at h'; simp at h'
  | some comp =>
    rw [hc] at h'
    simp only [Option.bind_some, beq_iff_eq] at h' ⊢
    obtain ⟨c, hi, hk⟩ := Option.bind_eq_some_iff.mp h'
    obtain ⟨k, hk, hb⟩ := Option.map_eq_some_iff.mp hk
    obtain ⟨k', hk', he⟩ := hvm.2.2 _ _ hk
    have hbe : U.vm.bare = u.vm.bare := by first | exact hvm.bare_eq | exact hvm.bare_eq.symm
    have hi2 := (va_idx_bare u.vm comp).trans hi
    rw [← hbe] at hi2
    have hi' := (va_idx_bare U.vm comp).symm.trans hi2
    refine Option.bind_eq_some_iff.mpr ⟨c, hi', Option.map_eq_some_iff.mpr ⟨k', hk', ?_⟩⟩
    have hkk : k'.kind = k.kind := by rw [he]
    rw [hkk, hvm.findClass]
    exact hb
/-! the words of a throw that no callee may be told: they stand in the start -/
def xnm : List String := ["java/lang/RuntimeException", "java/lang/Exception"]
def ioob : String := "java/lang/IndexOutOfBoundsException"
def xCB : List Cond := (vx_at0 RX8 336 ioob xnm).filter (fun w => !goodWord w) ++ [.castable ioob ioob]
def xcd (w : Cond) : Bool := match w with | .castable _ _ => true | .declares _ => true | _ => false
theorem xCB_k : xCB.all xcd = true := by decide +kernel
theorem cast_moved {a b : String} {A A' : Array Value} {u U : State} (hvm : u.vm.Alike U.vm) (h : (Cond.castable a b).before A u = true) : (Cond.castable a b).before A' U = true := by
  simp only [Cond.before, Cond.holds, Cond.value] at h ⊢
  simp only [hvm.findClass, hvm.assignable]
  exact h
theorem decl_moved {x : MethodName} {A A' : Array Value} {u U : State} (hvm : u.vm.Alike U.vm) (h : (Cond.declares x).before A u = true) : (Cond.declares x).before A' U = true := by
  have h1 : (Cond.declares x).before A (u.setVm U.vm) = true := by
    rw [Cond.declares_setVm hvm]
    exact h
  have e := Cond.onTables_vm (A := A) (A' := A') (U := u) (U' := U) U.vm (Cond.declares x) rfl
  have hU : U.setVm U.vm = U := rfl
  rw [hU] at e
  rw [← e]
  exact h1
theorem xcd_moved {w : Cond} (hw : xcd w = true) {A A' : Array Value} {u U : State} (hvm : u.vm.Alike U.vm) (h : w.before A u = true) : w.before A' U = true := by
  cases w with
  | castable a b => exact cast_moved hvm h
  | declares x => exact decl_moved hvm h
  | _ => cases hw
def fCB (U : State) : Prop := ∀ w ∈ xCB, w.before #[] U = true
theorem fCB.moved {u U : State} (hvm : u.vm.Alike U.vm) (h : fCB u) : fCB U := fun w hw => xcd_moved (List.all_eq_true.mp xCB_k w hw) hvm (h w hw)
theorem fCB.use {U : State} {A : Array Value} (h : fCB U) : ∀ w ∈ xCB, w.before A U = true := fun w hw => xcd_moved (List.all_eq_true.mp xCB_k w hw) (Vm.Alike.refl _) (h w hw)
/-! the words on nest mates: they stand in the start -/
def xNW : List Cond := [
  .methodLinkNest RX8 9 yX7_init "ParticipatoryBudget",
  .methodLinkNest RX8 18 yX5_init "ParticipatoryBudget",
  .methodLinkNest RX8 25 yX3_init "ParticipatoryBudget",
  .methodLinkNest RX8 32 yX1_init "ParticipatoryBudget",
  .methodLinkNest RX1 11 yX6_init "ParticipatoryBudget",
  .methodLinkNest RX1 23 yX2_init "ParticipatoryBudget",
  .methodLinkNest RX8 42 yX2_init "ParticipatoryBudget",
  .methodLinkNest RX8 52 yX4_init "ParticipatoryBudget",
  .fieldLinkNest RX0 45 "ParticipatoryBudget" "FIRST_SETTINGS" "[I" "ParticipatoryBudget",
  .methodLinkNest RX5 106 yX8_place "ParticipatoryBudget",
  .methodLinkNest RX5 90 yX8_has "ParticipatoryBudget",
  .methodLinkNest RX7 80 yX8_isIndex "ParticipatoryBudget",
  .fieldLinkNest RX5 94 "ParticipatoryBudget" "LEAST_SETTINGS" "[I" "ParticipatoryBudget",
  .fieldLinkNest RX5 97 "ParticipatoryBudget" "MOST_SETTINGS" "[I" "ParticipatoryBudget",
  .methodLinkNest RX0 64 yX8_has "ParticipatoryBudget",
  .methodLinkNest RX6 81 yX8_has "ParticipatoryBudget",
  .methodLinkNest RX2 80 yX8_has "ParticipatoryBudget",
  .methodLinkNest RX1 93 yX8_isIndex "ParticipatoryBudget",
  .methodLinkNest RX2 93 yX8_isIndex "ParticipatoryBudget"]
def xnw (w : Cond) : Bool := match w with | .fieldLinkNest .. => true | .methodLinkNest .. => true | _ => false
theorem xNW_k : xNW.all xnw = true := by decide +kernel
theorem xnw_moved {w : Cond} (hw : xnw w = true) {s U : State} (hW : s.WarmedH U.vm) (h : va_Nw w s) : va_Nw w U := by
  cases w with
  | fieldLinkNest a b c d e f => exact h.warmF hW
  | methodLinkNest a b c d => exact h.warmM hW
  | _ => cases hw
theorem xnw_on {w : Cond} (hw : xnw w = true) : w.onTables = true := by
  cases w with
  | fieldLinkNest a b c d e f => rfl
  | methodLinkNest a b c d => rfl
  | _ => cases hw
def fNW (U : State) : Prop := ∀ w ∈ xNW, va_Nw w U
theorem fNW.moved {u U : State} (hW : u.WarmedH U.vm) (h : fNW u) : fNW U := fun w hw => xnw_moved (List.all_eq_true.mp xNW_k w hw) hW (h w hw)
theorem fNW.same {u U : State} (hv : u.vm = U.vm) (h : fNW u) : fNW U := fun w hw => (h w hw).same (xnw_on (List.all_eq_true.mp xNW_k w hw)) hv
theorem fNW.use {U : State} {A : Array Value} (h : fNW U) {w : Cond} (hw : w ∈ xNW) : w.before A U = true := (h w hw).use (xnw_on (List.all_eq_true.mp xNW_k w hw))
def Fo (G : Gx) (U : State) (H : Heap) : Prop :=
  (va_Z "ParticipatoryBudget" "FIRST_SETTINGS" "[I" (.ref (gF G 0)) (gAA G) U H ∧ va_Z "ParticipatoryBudget" "LEAST_SETTINGS" "[I" (.ref (gF G 1)) (gAA G) U H ∧ va_Z "ParticipatoryBudget" "MOST_SETTINGS" "[I" (.ref (gF G 2)) (gAA G) U H ∧ va_Z "java/lang/String" "COMPACT_STRINGS" "Z" (.int 1) (gAA G) U H ∧ va_Zq "jdk/internal/util/Preconditions" "SIOOBE_FORMATTER" "Ljava/util/function/BiFunction;" (gAA G) U H) ∧
  vk_S 10 strL strI (gS G) (gV G) (gAA G) U H ∧ (vx_Zq Bundle.tN "UNASSIGNED_STACK" Bundle.steD (gAA G) U H ∧ vx_Zq Bundle.tN "SUPPRESSED_SENTINEL" Bundle.listD (gAA G) U H) ∧ (∀ i, i < 10 → vk_R RX7 (strX.getD i 0) (strT.getD i "") (gS G i) U) ∧ fAO U ∧ fCB U ∧ fNW U
/-- a method's start and end -/
def Bw (G : Gx) (M : Mem) (U : State) : Prop := Wd G M U U.heap ∧ Wf G M U U.heap ∧ Fo G U U.heap
def Be (G : Gx) (M : Mem) (U : State) : Prop := Wd G M U U.heap ∧ Wf G M U U.heap
/-- the tables' words that a callee may be told -/
def TT : List Cond := lw_tbl.filter goodWord
theorem tt_of {w : Cond} (i : Nat) (h : lw_tbl[i]? = some w) (g : goodWord w = true) : w ∈ TT := List.mem_filter.mpr ⟨List.mem_of_getElem? h, g⟩
theorem tt_tbl {w : Cond} (h : w ∈ TT) : w ∈ lw_tbl := (List.mem_filter.mp h).1
theorem tt_good {w : Cond} (h : w ∈ TT) : goodWord w = true := (List.mem_filter.mp h).2
theorem Wd.moved {G : Gx} {M : Mem} {u U : State} {H : Heap} (hvm : u.vm.Alike U.vm) (h : Wd G M u H) : Wd G M U H := ⟨h.1, h.2.1, h.2.2.moved hvm⟩
theorem Wf.moved {G : Gx} {M : Mem} {u U : State} {H : Heap} (hvm : u.vm.Alike U.vm) (h : Wf G M u H) : Wf G M U H := ⟨fun a ha => ⟨(h.1 a ha).1.moved hvm, (h.1 a ha).2⟩, h.2⟩
theorem Wf.kept {G : Gx} {M : Mem} {U : State} {H H1 : Heap} (h : Wf G M U H) (hz : H.size ≤ H1.size) (hq : ∀ a : Nat, a < H.size → ¬ gAA G a → H1[a]? = H[a]?) : Wf G M U H1 :=
  ⟨fun a ha => ⟨(h.1 a ha).1.kept hq, (h.1 a ha).2⟩, h.2.1, h.2.2.1, h.2.2.2.1, h.2.2.2.2.1, Nat.le_trans h.2.2.2.2.2 hz⟩
theorem Fo.warm {G : Gx} {u U : State} {H : Heap} (hW : u.WarmedH U.vm) (h : Fo G u H) : Fo G U H := ⟨⟨h.1.1.moved hW.alike, h.1.2.1.moved hW.alike, h.1.2.2.1.moved hW.alike, h.1.2.2.2.1.moved hW.alike, h.1.2.2.2.2.moved hW.alike⟩, h.2.1.moved hW.alike, ⟨h.2.2.1.1.moved hW.alike, h.2.2.1.2.moved hW.alike⟩, fun i hi => (h.2.2.2.1 i hi).warm hW, h.2.2.2.2.1.moved hW.alike, h.2.2.2.2.2.1.moved hW.alike, h.2.2.2.2.2.2.moved hW⟩
theorem Fo.kept {G : Gx} {U : State} {H H1 : Heap} (h : Fo G U H) (hq : ∀ a : Nat, a < H.size → ¬ gAA G a → H1[a]? = H[a]?) : Fo G U H1 := ⟨⟨h.1.1.kept hq, h.1.2.1.kept hq, h.1.2.2.1.kept hq, h.1.2.2.2.1.kept hq, h.1.2.2.2.2.kept hq⟩, h.2.1.kept hq, ⟨h.2.2.1.1.kept hq, h.2.2.1.2.kept hq⟩, h.2.2.2.1, h.2.2.2.2.1, h.2.2.2.2.2.1, h.2.2.2.2.2.2⟩
theorem Bw.blind {G : Gx} {M : Mem} {U : State} {g : JFrame} {mk : MethodId} {a : Array Value} (h : Bw G M U) : Bw G M (U.calling g mk a) :=
  ⟨Wd.moved (u := U) (U := U.calling g mk a) (Vm.Alike.refl _) h.1, Wf.moved (u := U) (U := U.calling g mk a) (Vm.Alike.refl _) h.2.1, ⟨⟨h.2.2.1.1.moved (U := U.calling g mk a) (Vm.Alike.refl _), h.2.2.1.2.1.moved (U := U.calling g mk a) (Vm.Alike.refl _), h.2.2.1.2.2.1.moved (U := U.calling g mk a) (Vm.Alike.refl _), h.2.2.1.2.2.2.1.moved (U := U.calling g mk a) (Vm.Alike.refl _), h.2.2.1.2.2.2.2.moved (U := U.calling g mk a) (Vm.Alike.refl _)⟩, h.2.2.2.1.moved (U := U.calling g mk a) (Vm.Alike.refl _), ⟨h.2.2.2.2.1.1.moved (U := U.calling g mk a) (Vm.Alike.refl _), h.2.2.2.2.1.2.moved (U := U.calling g mk a) (Vm.Alike.refl _)⟩, fun i hi => (h.2.2.2.2.2.1 i hi).same (U := U.calling g mk a) rfl, h.2.2.2.2.2.2.1.moved (U := U.calling g mk a) (Vm.Alike.refl _), fCB.moved (u := U) (U := U.calling g mk a) (Vm.Alike.refl _) h.2.2.2.2.2.2.2.1, fNW.same (u := U) (U := U.calling g mk a) rfl h.2.2.2.2.2.2.2.2⟩⟩
theorem pc_blind {G : Gx} {M : Mem} {vs : List Value} : FrameBlind (va_Pc vs (Bw G M)) := fun a U g mk h => ⟨h.1, h.2.blind⟩
/-! ===== the judgement: from this place of the code, with these locals, this stack and this memory, the method comes to its end as the term says ===== -/
abbrev Cxt : Type := Program × Launch × Env × Room × State × MethodId × Array Value × List Frame × Method × Code × Gx × Nat
def okX : Cxt → ByteArray → String → Room → Option FieldType → Nat → Prop
  | (p, l, e, R, s, m, args, below, meth, c, G, n9), cc, own, R0, ret, nL => p.tables.exec = Jvm.exec ∧ c.code = cc ∧ c.maxLocals = nL ∧ s.vm.findClass own = some m.cls ∧ (∀ w ∈ TT, w.before args s = true) ∧ Fo G s s.heap ∧ meth.locks = false ∧ R = R0 ∧ l.stackTraces = false ∧ meth.sig.returnType = ret ∧ n9 = nL
def Yj : Cxt → (State → Prop) → Nat → Nat → Nat → List (Nat × Value) → List Value → Mem → Prop
  | (p, l, e, R, s, m, args, below, meth, c, G, nL), Q, C, S, pc, lv, st, M => ∀ (H : Heap) (locs : List Loc) (ls : Array Slot), Wd G M s H → Wf G M s s.heap → va_S (gAA G) s.heap H locs → lv_has ls nL lv → W p l e R s m args below meth c H locs C S Q (F0 m pc ls st)
def Zj {ρ : Type} (X : Cxt) (Qo : ρ → State → Prop) (C S pc : Nat) (lv : List (Nat × Value)) (st : List Value) (M : Mem) (t : Option ρ) : Prop := ∀ out, t = some out → Yj X (Qo out) C S pc lv st M
