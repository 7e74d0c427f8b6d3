/-! ===== the class's Greedy at g ===== -/
section
def IsGr (M : Mem) (g : Nat) : Prop := (mK M g).1 = 2 ∧ (mR M g 0 = some (g + 1) ∧ mR M g 1 = some (g + 2) ∧ mR M g 2 = some (g + 15)) ∧ (mK M (g + 1) = (20, 4) ∧ mK M (g + 2) = (23, 12) ∧ mK M (g + 15) = (20, 12)) ∧ ∀ p, p < 12 → mR M (g + 2) p = some (g + 3 + p) ∧ mK M (g + 3 + p) = (20, 4)
theorem IsGr.e {M M' : Mem} {g : Nat} (h : IsGr M g) (hk : mK M' = mK M) (hr : mR M' = mR M) : IsGr M' g := by
  unfold IsGr at h ⊢
  rw [hk, hr]
  exact h
theorem IsGr.fi {M M' : Mem} {g lo hi : Nat} (h : IsGr M g) (hF : Fi lo hi M M') : IsGr M' g := h.e hF.k hF.r
theorem IsGr.fq {M M' : Mem} {g lo hi : Nat} (h : IsGr M g) (hF : Fq lo hi M M') (hb : g + 16 ≤ lo ∨ hi ≤ g) : IsGr M' g := by
  obtain ⟨h1, ⟨a0, a1, a2⟩, hk, hp⟩ := h
  refine ⟨by rw [hF.1]; exact h1, ⟨?_, ?_, ?_⟩, by rw [hF.1]; exact hk, fun p hp2 => ?_⟩
  · rw [hF.r (by omega)]; exact a0
  · rw [hF.r (by omega)]; exact a1
  · rw [hF.r (by omega)]; exact a2
  · rw [hF.r (by omega), hF.1]; exact hp p hp2
variable {M : Mem} {g b : Nat}
theorem IsGr.c (h : IsGr M g) : ck M g 2 = some () := ck_e h.1
theorem IsGr.gi (h : IsGr M g) (j : Nat) : gFI M g 2 j = some (mI M g j) := gFI_e h.1
theorem IsGr.p (h : IsGr M g) (j : Nat) (x : Int32) : pFI M g 2 j x = some (sI M g j x) := pFI_e h.1
theorem IsGr.r0 (h : IsGr M g) : gFR M g 2 0 = some (g + 1) := gFR_e h.1 h.2.1.1
theorem IsGr.r1 (h : IsGr M g) : gFR M g 2 1 = some (g + 2) := gFR_e h.1 h.2.1.2.1
theorem IsGr.r2 (h : IsGr M g) : gFR M g 2 2 = some (g + 15) := gFR_e h.1 h.2.1.2.2
theorem IsGr.q1 (h : IsGr M g) {p : Nat} (hp : p < 12) : aR M (g + 2) (Int32.ofNat p) = some (g + 3 + p) := aR_e h.2.2.1.2.1 hp (by omega) (h.2.2.2 p hp).1
theorem IsGr.k0 (h : IsGr M g) : mK M (g + 1) = (20, 4) := h.2.2.1.1
theorem IsGr.k1 (h : IsGr M g) {p : Nat} (hp : p < 12) : mK M (g + 3 + p) = (20, 4) := (h.2.2.2 p hp).2
theorem IsGr.k2 (h : IsGr M g) : mK M (g + 15) = (20, 12) := h.2.2.1.2.2
theorem IsGr.a0 (h : IsGr M g) {d : Nat} (hd : d < 4) : aI M (g + 1) (Int32.ofNat d) = some (mI M (g + 1) d) := aI_e h.k0 (Or.inl rfl) hd (by omega)
theorem IsGr.a1 (h : IsGr M g) {p d : Nat} (hp : p < 12) (hd : d < 4) : aI M (g + 3 + p) (Int32.ofNat d) = some (mI M (g + 3 + p) d) := aI_e (h.k1 hp) (Or.inl rfl) hd (by omega)
theorem IsGr.a2 (h : IsGr M g) {k : Nat} (hk : k < 12) : aI M (g + 15) (Int32.ofNat k) = some (mI M (g + 15) k) := aI_e h.k2 (Or.inl rfl) hk (by omega)
theorem IsGr.w0 (h : IsGr M g) {d : Nat} (hd : d < 4) (x : Int32) : wI M (g + 1) (Int32.ofNat d) x = some (sI M (g + 1) d x) := wI_e h.k0 hd (by omega)
theorem IsGr.w1 (h : IsGr M g) {p d : Nat} (hp : p < 12) (hd : d < 4) (x : Int32) : wI M (g + 3 + p) (Int32.ofNat d) x = some (sI M (g + 3 + p) d x) := wI_e (h.k1 hp) hd (by omega)
theorem IsGr.w2 (h : IsGr M g) {k : Nat} (hk : k < 12) (x : Int32) : wI M (g + 15) (Int32.ofNat k) x = some (sI M (g + 15) k x) := wI_e h.k2 hk (by omega)
/-- the state of the greedy rule: what is left, takings, the order, how many, which -/
abbrev Gst : Type := (Nat → Int32) × (Nat → Nat → Int32) × (Nat → Int32) × Nat × Int32
def gL (s : Gst) : Nat → Int32 := s.1
def gT_ (s : Gst) : Nat → Nat → Int32 := s.2.1
def gQ (s : Gst) : Nat → Int32 := s.2.2.1
def gc (s : Gst) : Nat := s.2.2.2.1
def gh (s : Gst) : Int32 := s.2.2.2.2
def GC (M : Mem) (g : Nat) (D : Bl) (s : Gst) : Prop := (∀ d, d < cn D 0 → mI M (g + 1) d = gL s d) ∧ (∀ p, p < 12 → ∀ d, d < 4 → mI M (g + 3 + p) d = gT_ s p d) ∧ (∀ k, k < gc s → mI M (g + 15) k = gQ s k) ∧ mI M g 3 = Int32.ofNat (gc s) ∧ mI M g 4 = gh s
theorem GC.fi {M' : Mem} {D : Bl} {s : Gst} {lo hi : Nat} (h : GC M g D s) (hF : Fi lo hi M M') (hg : g + 16 ≤ lo ∨ hi ≤ g) : GC M' g D s := ⟨fun d hd => by rw [hF.i (by omega)]; exact h.1 d hd, fun p hp d hd => by rw [hF.i (by omega)]; exact h.2.1 p hp d hd, fun k hk => by rw [hF.i (by omega)]; exact h.2.2.1 k hk, by rw [hF.i (by omega)]; exact h.2.2.2.1, by rw [hF.i (by omega)]; exact h.2.2.2.2⟩
variable {D : Bl}
def g0 (L : Nat → Int32) : Gst := (L, fun _ _ => 0, fun _ => 0, 0, 0)
theorem f_begin (h : IsGr M g) (hBl : IsB M b D) (hb : b + 12 ≤ g ∨ g + 16 ≤ b) : ok (f_X2_begin M g b) (fun M' => Fi g (g + 16) M M' ∧ GC M' g D (g0 (D 2))) := by
  have l0 := hBl.n.2.1
  unfold f_X2_begin
  have h1 : IsGr (sI M g 3 0) g := h
  have F2 : Fi g (g + 16) M (sI (sI M g 3 0) g 4 0) := (Fi.sI ⟨by omega, by omega⟩).trans (Fi.sI ⟨by omega, by omega⟩)
  have h2 := h.fi F2
  have hBl2 := hBl.fi F2 hb
  have w := cpI_e (M := sI (sI M g 3 0) g 4 0) (sp := 0) (dp := 0) (k := 4) hBl2.s.k2 (Or.inl rfl) h2.k0 (by omega) (by omega) (by omega) (by omega)
  rw [show Int32.ofNat 0 = (0 : Int32) from rfl, show Int32.ofNat 4 = (4 : Int32) from rfl] at w
  simp only [h.p, bs, h1.p, hBl2.s.r2, h2.r0, w]
  have F3 : Fi g (g + 16) (sI (sI M g 3 0) g 4 0) (sC (sI (sI M g 3 0) g 4 0) (b + 2) 0 (g + 1) 0 4) := ⟨rfl, rfl, rfl, rfl, fun a ha => by
    funext k
    rw [i_sC, if_neg (by omega)]⟩
  refine it_r (I := fun i (u : Int32 × Mem) => u.1 = Int32.ofNat i ∧ Fi g (g + 16) M u.2 ∧ (∀ d, d < cn D 0 → mI u.2 (g + 1) d = D 2 d) ∧ mI u.2 g 3 = 0 ∧ mI u.2 g 4 = 0 ∧ ∀ p, p < i → ∀ d, d < 4 → mI u.2 (g + 3 + p) d = 0) 12 ⟨rfl, F2.trans F3, fun d hd => ?_, ?_, ?_, fun p hp => absurd hp (Nat.not_lt_zero p)⟩ (by omega) ?_ ?_
  · show mI (sC _ _ _ _ _ _) (g + 1) d = _
    rw [i_sC, if_pos (by omega), F2.i (by omega), show 0 + (d - 0) = d by omega]
    exact hBl.2.2.2 2 (by omega) (by omega) d (by unfold bsz; simpa using hd)
  · show mI (sC _ _ _ _ _ _) g 3 = _
    rw [i_sC, if_neg (by omega), i_sI, if_neg (by omega), i_sI, if_pos ⟨rfl, rfl⟩]
  · show mI (sC _ _ _ _ _ _) g 4 = _
    rw [i_sC, if_neg (by omega), i_sI, if_pos ⟨rfl, rfl⟩]
  · rintro rec i ⟨y, M'⟩ hi ⟨rfl, hF, z1, z3, z4, zp⟩ hrec
    dsimp only at hF z1 z3 z4 zp
    have h3 := h.fi hF
    unfold bd_X2_begin_26
    simp only [show (12 : Int32) = Int32.ofNat 12 from rfl, ile_n hi (show 12 < 2147483648 by omega), h3.r1, bs, h3.q1 hi]
    refine ok.seq (f_fill (h3.k1 hi) (by omega) 0) ?_
    rintro M1 ⟨F1, w1⟩
    rw [i_succ]
    refine hrec _ ⟨rfl, hF.trans (F1.wide (by omega) (by omega)), fun d hd => ?_, ?_, ?_, fun p hp d hd => ?_⟩
    · show mI M1 (g + 1) d = _
      rw [F1.i (by omega)]; exact z1 d hd
    · show mI M1 g 3 = _
      rw [F1.i (by omega)]; exact z3
    · show mI M1 g 4 = _
      rw [F1.i (by omega)]; exact z4
    · show mI M1 (g + 3 + p) d = _
      by_cases e : p = i
      · subst e; exact w1 d hd
      · rw [F1.i (by omega)]; exact zp p (by omega) d hd
  · rintro rec ⟨y, M'⟩ ⟨rfl, hF, z1, z3, z4, zp⟩
    unfold bd_X2_begin_26
    simp only [show (12 : Int32) = Int32.ofNat 12 from rfl, ile_e]
    exact ok.pure ⟨hF, z1, fun p hp d hd => zp p hp d hd, fun k hk => absurd hk (Nat.not_lt_zero k), z3, z4⟩
/-! which one is first -/
def fsF (D : Bl) (w : Int32) (p : Nat) (f : Int32) : Int32 := if hs w (Int32.ofNat p) = true then (if f < 0 then Int32.ofNat p else if gb D p (ix f) = true then Int32.ofNat p else f) else f
def fsN (D : Bl) (w : Int32) (n : Nat) : Int32 := fo (fsF D w) n (-1)
def fst_ (D : Bl) (w : Int32) : Int32 := fsN D w (cn D 1)
theorem fsN_s (w : Int32) (n : Nat) : fsN D w (n + 1) = fsF D w n (fsN D w n) := rfl
theorem fsN_in (w : Int32) (n : Nat) : fsN D w n = -1 ∨ ∃ q, q < n ∧ fsN D w n = Int32.ofNat q ∧ hs w (Int32.ofNat q) = true := by
  induction n with
  | zero => exact Or.inl rfl
  | succ n ih =>
    rw [fsN_s]
    generalize fsN D w n = f at ih ⊢
    unfold fsF
    have old : f = -1 ∨ ∃ q, q < n + 1 ∧ f = Int32.ofNat q ∧ hs w (Int32.ofNat q) = true := by
      rcases ih with h | ⟨q, h, h2, h3⟩
      · exact Or.inl h
      · exact Or.inr ⟨q, by omega, h2, h3⟩
    by_cases h1 : hs w (Int32.ofNat n) = true
    · rw [if_pos h1]
      have hn : ∃ q, q < n + 1 ∧ Int32.ofNat n = Int32.ofNat q ∧ hs w (Int32.ofNat q) = true := ⟨n, by omega, rfl, h1⟩
      split
      · exact Or.inr hn
      · split
        · exact Or.inr hn
        · exact old
    · rw [if_neg h1]; exact old
theorem f_first (hBl : IsB M b D) (w : Int32) : f_X2_first M b w = some (fst_ D w) := by
  have l1 := hBl.n.2.2.1
  unfold f_X2_first
  rw [ltq]
  refine it_c (k := fun a => some a) (cn D 1) (fsF D w) (-1) hBl.n.m1 (fun rec i hi => ?_) (fun rec => ?_)
  · unfold bd_X2_first_4
    simp only [hBl.g1, bs, ile_n hi hBl.n.l1, f_has8, b2i_ite, i_succ]
    show _ = rec (fsF D w i (fsN D w i), Int32.ofNat (i + 1))
    rw [show fo (fsF D w) i (-1) = fsN D w i from rfl]
    rcases fsN_in (D := D) w i with e | ⟨q, hq, e, -⟩
    · rw [e, if_pos m1_neg]
      unfold fsF
      rw [if_pos m1_neg]
      split <;> rfl
    · rw [e, if_neg (o_nneg (by omega)), hBl.c, bs, f_gb hBl hi (by omega)]
      unfold fsF
      rw [if_neg (o_nneg (by omega)), ix_o (by omega)]
      simp only [bs, b2i_ite, is_]
  · unfold bd_X2_first_4
    simp only [hBl.g1, bs, ile_e]
def lin (D : Bl) (L : Nat → Int32) (area : Int32) : Int32 := sm (cn D 0) fun d => if hs area (Int32.ofNat d) = true then L d else 0
theorem f_leftIn (h : IsGr M g) (hD : cn D 0 ≤ 4) {L : Nat → Int32} (hL : ∀ d, d < cn D 0 → mI M (g + 1) d = L d) {area : Int32} (hA : ∀ d, cn D 0 ≤ d → d < 32 → hs area (Int32.ofNat d) = false) : f_X2_leftIn M g area = some (lin D L area) := by
  unfold f_X2_leftIn
  have key := it_s (F := bd_X2_leftIn_4 M g area fun (e2 : Int32 × Int32) => some e2.1) (k := fun a => some a) 4 (fun d => if hs area (Int32.ofNat d) = true then mI M (g + 1) d else 0) (by omega) (fun rec i a hi => ?_) (fun rec a => ?_)
  · rw [key]
    show some _ = some _
    congr 1
    rw [sm_ext _ hD (fun i h1 h2 => by rw [hA i h1 (by omega)]; rfl)]
    exact sm_c (fun d hd => by rw [hL d hd])
  · unfold bd_X2_leftIn_4
    simp only [show (4 : Int32) = Int32.ofNat 4 from rfl, ile_n hi (show 4 < 2147483648 by omega), f_has8, bs, b2i_ite, h.r0, h.a0 hi, ltq, is_, add_ite, i_succ]
  · unfold bd_X2_leftIn_4
    simp only [show (4 : Int32) = Int32.ofNat 4 from rfl, ile_e]
/-! a project is funded -/
def gfu (D : Bl) (s : Gst) (p : Nat) : Gst := (fun d => gL s d - pt (D 5 p) (gL s) (D 4 p) d, fun o d => if o = p then gT_ s p d + pt (D 5 p) (gL s) (D 4 p) d else gT_ s o d, fun k => if k = gc s then Int32.ofNat p else gQ s k, gc s + 1, gh s ||| bt p)
def gpF (M : Mem) (g p : Nat) (area a : Int32) (n : Nat) : Nat → Nat → Int32 := fun x j => if x = g + 1 ∧ j < n then mI M x j - pt area (mI M (g + 1)) a j else if x = g + 3 + p ∧ j < n then mI M x j + pt area (mI M (g + 1)) a j else mI M x j
theorem f_gfund (h : IsGr M g) (hG : Gd D) {s : Gst} (hs_ : GC M g D s) {p : Nat} (hp : p < cn D 1) (hc : gc s < 12) : ok (f_X2_fund M g (Int32.ofNat p) (D 5 p) (D 4 p)) (fun M' => Fi g (g + 16) M M' ∧ GC M' g D (gfu D s p)) := by
  have l0 := hG.n.2.1
  have l1 := hG.n.2.2.1
  obtain ⟨zL, zT, zQ, zc, zh⟩ := hs_
  unfold f_X2_fund
  have hp12 : p < 12 := by omega
  have key := it_eq (F := bd_X2_fund_6 g (Int32.ofNat p) (D 5 p) fun (e2 : Int32 × Int32 × Mem) => gFR e2.2.2 g 2 2 >>= fun (r18 : Nat) => gFI e2.2.2 g 2 3 >>= fun (x19 : Int32) => wI e2.2.2 r18 x19 (Int32.ofNat p) >>= fun (M20 : Mem) => gFI M20 g 2 3 >>= fun (x21 : Int32) => pFI M20 g 2 3 (x21 + 1) >>= fun (M22 : Mem) => gFI M22 g 2 4 >>= fun (x23 : Int32) => pFI M22 g 2 4 (x23 ||| ((1 : Int32) <<< (Int32.ofNat p &&& 31))) >>= fun (M24 : Mem) => some M24) (k := some (sI (sI (sI (sW M (gpF M g p (D 5 p) (D 4 p) 4)) (g + 15) (gc s) (Int32.ofNat p)) g 3 (Int32.ofNat (gc s + 1))) g 4 (gh s ||| bt p))) (st := fun d => (du (D 5 p) (mI M (g + 1)) (D 4 p) d, Int32.ofNat d, sW M (gpF M g p (D 5 p) (D 4 p) d))) 4 (x := (D 4 p, 0, M)) ?_ (by omega) ?_ ?_
  · rw [key]
    have hrow : ∀ d, d < cn D 0 → mI M (g + 1) d = gL s d := zL
    have gg : ∀ a, a ≠ g → a ≠ g + 15 → ∀ k, mI (sI (sI (sI (sW M (gpF M g p (D 5 p) (D 4 p) 4)) (g + 15) (gc s) (Int32.ofNat p)) g 3 (Int32.ofNat (gc s + 1))) g 4 (gh s ||| bt p)) a k = gpF M g p (D 5 p) (D 4 p) 4 a k := fun a z1 z2 k => by
      rw [i_sI, if_neg (by omega), i_sI, if_neg (by omega), i_sI, if_neg (by omega)]; rfl
    refine ok.pure ⟨(Fi.W fun a ha => ?_).trans ((Fi.sI ⟨by omega, by omega⟩).trans ((Fi.sI ⟨by omega, by omega⟩).trans (Fi.sI ⟨by omega, by omega⟩))), fun d hd => ?_, fun o ho d hd => ?_, fun k hk => ?_, ?_, ?_⟩
    · funext k
      unfold gpF
      rw [if_neg (show ¬ (a = g + 1 ∧ k < 4) by omega), if_neg (show ¬ (a = g + 3 + p ∧ k < 4) by omega)]
    · rw [gg _ (by omega) (by omega)]
      unfold gpF
      rw [if_pos (show g + 1 = g + 1 ∧ d < 4 by omega), zL d hd, pt_c hrow (hG.2.2.1 p hp).2 (show d < 32 by omega)]
      rfl
    · rw [gg _ (by omega) (by omega)]
      unfold gpF
      rw [if_neg (show ¬ (g + 3 + o = g + 1 ∧ d < 4) by omega)]
      show _ = if o = p then _ else _
      by_cases e : o = p
      · subst e
        rw [if_pos (show g + 3 + o = g + 3 + o ∧ d < 4 from ⟨rfl, hd⟩), if_pos rfl, zT o ho d hd, pt_c hrow (hG.2.2.1 o hp).2 (show d < 32 by omega)]
      · rw [if_neg (show ¬ (g + 3 + o = g + 3 + p ∧ d < 4) by omega), if_neg e, zT o ho d hd]
    · have hk' : k < gc s + 1 := hk
      rw [i_sI, if_neg (by omega), i_sI, if_neg (by omega), i_sI]
      show _ = if k = gc s then _ else _
      by_cases e : k = gc s
      · rw [if_pos ⟨rfl, e⟩, if_pos e]
      · rw [if_neg (by omega), if_neg e]
        show gpF M g p (D 5 p) (D 4 p) 4 (g + 15) k = _
        unfold gpF
        rw [if_neg (show ¬ (g + 15 = g + 1 ∧ k < 4) by omega), if_neg (show ¬ (g + 15 = g + 3 + p ∧ k < 4) by omega)]
        exact zQ k (by omega)
    · rw [i_sI, if_neg (by omega), i_sI, if_pos ⟨rfl, rfl⟩]; rfl
    · rw [i_sI, if_pos ⟨rfl, rfl⟩]; rfl
  · show (D 4 p, (0 : Int32), M) = (D 4 p, Int32.ofNat 0, sW M (gpF M g p (D 5 p) (D 4 p) 0))
    refine Prod.ext rfl (Prod.ext rfl ?_)
    show sW M (mI M) = sW M _
    refine congrArg (sW M) ?_
    funext x j
    unfold gpF
    rw [if_neg (show ¬ (x = g + 1 ∧ j < 0) by omega), if_neg (show ¬ (x = g + 3 + p ∧ j < 0) by omega)]
  · intro rec d hd
    have h1 : IsGr (sW M (gpF M g p (D 5 p) (D 4 p) d)) g := h.e rfl rfl
    have e0 : mI (sW M (gpF M g p (D 5 p) (D 4 p) d)) (g + 1) d = mI M (g + 1) d := by
      show gpF M g p (D 5 p) (D 4 p) d (g + 1) d = _
      unfold gpF
      rw [if_neg (show ¬ (g + 1 = g + 1 ∧ d < d) by omega), if_neg (show ¬ (g + 1 = g + 3 + p ∧ d < d) by omega)]
    unfold bd_X2_fund_6
    simp only [show (4 : Int32) = Int32.ofNat 4 from rfl, ile_n hd (show 4 < 2147483648 by omega), f_has8, bs, b2i_ite, h1.r0, h1.a0 hd, e0, ltq, i_succ]
    rw [show (if mI M (g + 1) d < du (D 5 p) (mI M (g + 1)) (D 4 p) d then mI M (g + 1) d else du (D 5 p) (mI M (g + 1)) (D 4 p) d) = mi (mI M (g + 1) d) (du (D 5 p) (mI M (g + 1)) (D 4 p) d) from rfl]
    rw [h1.w0 hd]
    have h2 : IsGr (sI (sW M (gpF M g p (D 5 p) (D 4 p) d)) (g + 1) d (mI M (g + 1) d - mi (mI M (g + 1) d) (du (D 5 p) (mI M (g + 1)) (D 4 p) d))) g := h1
    have e2 : mI (sI (sW M (gpF M g p (D 5 p) (D 4 p) d)) (g + 1) d (mI M (g + 1) d - mi (mI M (g + 1) d) (du (D 5 p) (mI M (g + 1)) (D 4 p) d))) (g + 3 + p) d = mI M (g + 3 + p) d := by
      rw [i_sI, if_neg (by omega)]
      show gpF M g p (D 5 p) (D 4 p) d (g + 3 + p) d = _
      unfold gpF
      rw [if_neg (show ¬ (g + 3 + p = g + 1 ∧ d < d) by omega), if_neg (show ¬ (g + 3 + p = g + 3 + p ∧ d < d) by omega)]
    simp only [bs, h2.r1, h2.q1 hp12, h2.a1 hp12 hd, h2.w1 hp12 hd, e2, is_]
    by_cases hc : hs (D 5 p) (Int32.ofNat d) = true
    · have ep : pt (D 5 p) (mI M (g + 1)) (D 4 p) d = mi (mI M (g + 1) d) (du (D 5 p) (mI M (g + 1)) (D 4 p) d) := by unfold pt; rw [if_pos hc]
      rw [if_pos hc, du_s, ← ep]
      refine congrArg rec (Prod.ext rfl (Prod.ext rfl ?_))
      show sW M _ = sW M _
      refine congrArg (sW M) ?_
      funext x j
      show (if x = g + 3 + p ∧ j = d then mI M (g + 3 + p) d + pt (D 5 p) (mI M (g + 1)) (D 4 p) d else if x = g + 1 ∧ j = d then mI M (g + 1) d - pt (D 5 p) (mI M (g + 1)) (D 4 p) d else gpF M g p (D 5 p) (D 4 p) d x j) = gpF M g p (D 5 p) (D 4 p) (d + 1) x j
      unfold gpF
      by_cases c1 : x = g + 3 + p ∧ j = d
      · rw [if_pos c1, if_neg (show ¬ (x = g + 1 ∧ j < d + 1) by omega), if_pos (show x = g + 3 + p ∧ j < d + 1 by omega), c1.1, c1.2]
      · rw [if_neg c1]
        by_cases c2 : x = g + 1 ∧ j = d
        · rw [if_pos c2, if_pos (show x = g + 1 ∧ j < d + 1 by omega), c2.1, c2.2]
        · rw [if_neg c2]
          by_cases c4 : x = g + 1 ∧ j < d
          · rw [if_pos c4, if_pos (show x = g + 1 ∧ j < d + 1 by omega)]
          · rw [if_neg c4, if_neg (show ¬ (x = g + 1 ∧ j < d + 1) by omega)]
            by_cases c5 : x = g + 3 + p ∧ j < d
            · rw [if_pos c5, if_pos (show x = g + 3 + p ∧ j < d + 1 by omega)]
            · rw [if_neg c5, if_neg (show ¬ (x = g + 3 + p ∧ j < d + 1) by omega)]
    · have ep : pt (D 5 p) (mI M (g + 1)) (D 4 p) d = 0 := by unfold pt; rw [if_neg hc]
      rw [if_neg hc, du_s, ep, Int32.sub_zero]
      refine congrArg rec (Prod.ext rfl (Prod.ext rfl ?_))
      show sW M _ = sW M _
      refine congrArg (sW M) ?_
      funext x j
      unfold gpF
      by_cases c4 : x = g + 1 ∧ j < d + 1
      · by_cases c5 : j = d
        · rw [if_pos c4, if_neg (show ¬ (x = g + 1 ∧ j < d) by omega), if_neg (show ¬ (x = g + 3 + p ∧ j < d) by omega), c5, ep, Int32.sub_zero]
        · rw [if_pos c4, if_pos (show x = g + 1 ∧ j < d by omega)]
      · rw [if_neg c4, if_neg (show ¬ (x = g + 1 ∧ j < d) by omega)]
        by_cases c6 : x = g + 3 + p ∧ j < d + 1
        · by_cases c5 : j = d
          · rw [if_pos c6, if_neg (show ¬ (x = g + 3 + p ∧ j < d) by omega), c5, ep, Int32.add_zero]
          · rw [if_pos c6, if_pos (show x = g + 3 + p ∧ j < d by omega)]
        · rw [if_neg c6, if_neg (show ¬ (x = g + 3 + p ∧ j < d) by omega)]
  · intro rec
    have h1 : IsGr (sW M (gpF M g p (D 5 p) (D 4 p) 4)) g := h.e rfl rfl
    have e3 : mI (sW M (gpF M g p (D 5 p) (D 4 p) 4)) g 3 = Int32.ofNat (gc s) := by
      show gpF M g p (D 5 p) (D 4 p) 4 g 3 = _
      unfold gpF
      rw [if_neg (show ¬ (g = g + 1 ∧ 3 < 4) by omega), if_neg (show ¬ (g = g + 3 + p ∧ 3 < 4) by omega)]
      exact zc
    have e4 : mI (sW M (gpF M g p (D 5 p) (D 4 p) 4)) g 4 = gh s := by
      show gpF M g p (D 5 p) (D 4 p) 4 g 4 = _
      unfold gpF
      rw [if_neg (show ¬ (g = g + 1 ∧ 4 < 4) by omega), if_neg (show ¬ (g = g + 3 + p ∧ 4 < 4) by omega)]
      exact zh
    generalize sW M (gpF M g p (D 5 p) (D 4 p) 4) = M1 at h1 e3 e4 ⊢
    have h2 : IsGr (sI M1 (g + 15) (gc s) (Int32.ofNat p)) g := h1
    have e32 : mI (sI M1 (g + 15) (gc s) (Int32.ofNat p)) g 3 = Int32.ofNat (gc s) := by rw [i_sI, if_neg (by omega)]; exact e3
    have h3 : IsGr (sI (sI M1 (g + 15) (gc s) (Int32.ofNat p)) g 3 (Int32.ofNat (gc s + 1))) g := h1
    have e43 : mI (sI (sI M1 (g + 15) (gc s) (Int32.ofNat p)) g 3 (Int32.ofNat (gc s + 1))) g 4 = gh s := by rw [i_sI, if_neg (by omega), i_sI, if_neg (by omega)]; exact e4
    unfold bd_X2_fund_6
    simp only [show (4 : Int32) = Int32.ofNat 4 from rfl, ile_e, h1.r2, bs, h1.gi, e3, h1.w2 hc, h2.gi, e32, i_succ, h2.p, h3.gi, e43, h3.p]
    rfl
end
