/-! ===== the class's object at x ===== -/
section
/-- its parts; the ballot at bb, the spare one at bs_ -/
def IsX (M : Mem) (x bb sb : Nat) : Prop := (mK M x).1 = 8 ∧ (mR M x 0 = some (x + 1) ∧ mR M x 1 = some (x + 3) ∧ mR M x 2 = some (x + 4) ∧ mR M x 3 = some (x + 8) ∧ mR M x 4 = some (x + 162) ∧ mR M x 5 = some (x + 316) ∧ mR M x 6 = some (x + 332) ∧ mR M x 7 = some (x + 348) ∧ mR M x 8 = some bb ∧ mR M x 9 = some sb) ∧ ((bb = x + 353 ∧ sb = x + 365) ∨ (bb = x + 365 ∧ sb = x + 353))
/-- what the class's questions leave alone -/
def Cq (x : Nat) (M M' : Mem) : Prop := mK M' = mK M ∧ mN M' = mN M ∧ (∀ a, a ≠ x → (a < x + 8 ∨ x + 377 ≤ a) → mI M' a = mI M a ∧ mL M' a = mL M a ∧ mR M' a = mR M a) ∧ mR M' x = mR M x ∧ ∀ j, j < 11 ∨ 15 ≤ j → mI M' x j = mI M x j
variable {M M' M1 M2 : Mem} {x bb sb : Nat} {D : Bl}
theorem Cq.rf : Cq x M M := ⟨rfl, rfl, fun _ _ _ => ⟨rfl, rfl, rfl⟩, rfl, fun _ _ => rfl⟩
theorem Cq.trans (h1 : Cq x M M1) (h2 : Cq x M1 M2) : Cq x M M2 := ⟨h2.1.trans h1.1, h2.2.1.trans h1.2.1, fun a q1 q2 => ⟨(h2.2.2.1 a q1 q2).1.trans (h1.2.2.1 a q1 q2).1, (h2.2.2.1 a q1 q2).2.1.trans (h1.2.2.1 a q1 q2).2.1, (h2.2.2.1 a q1 q2).2.2.trans (h1.2.2.1 a q1 q2).2.2⟩, h2.2.2.2.1.trans h1.2.2.2.1, fun j hj => (h2.2.2.2.2 j hj).trans (h1.2.2.2.2 j hj)⟩
theorem Cq.of {lo hi : Nat} (h : Fq lo hi M M') (h1 : x + 8 ≤ lo) (h2 : hi ≤ x + 377) : Cq x M M' := ⟨h.1, h.2.1, fun a _ q2 => h.2.2 a (by omega), (h.2.2 x (by omega)).2.2, fun j _ => h.i (by omega) j⟩
theorem Cq.sI {j : Nat} (y : Int32) (h1 : 11 ≤ j) (h2 : j < 15) : Cq x M (sI M x j y) := ⟨rfl, rfl, fun a q1 _ => ⟨by
  funext k
  rw [i_sI, if_neg (by omega)], rfl, rfl⟩, rfl, fun i hi => by rw [i_sI, if_neg (by omega)]⟩
theorem Cq.fq (h : Cq x M M') : Fq x (x + 377) M M' := ⟨h.1, h.2.1, fun a ha => h.2.2.1 a (by omega) (by omega)⟩
theorem IsX.c (h : IsX M x bb sb) : ck M x 8 = some () := ck_e h.1
theorem IsX.gi (h : IsX M x bb sb) (j : Nat) : gFI M x 8 j = some (mI M x j) := gFI_e h.1
theorem IsX.p (h : IsX M x bb sb) (j : Nat) (y : Int32) : pFI M x 8 j y = some (sI M x j y) := pFI_e h.1
theorem IsX.r0 (h : IsX M x bb sb) : gFR M x 8 0 = some (x + 1) := gFR_e h.1 h.2.1.1
theorem IsX.r1 (h : IsX M x bb sb) : gFR M x 8 1 = some (x + 3) := gFR_e h.1 h.2.1.2.1
theorem IsX.r2 (h : IsX M x bb sb) : gFR M x 8 2 = some (x + 4) := gFR_e h.1 h.2.1.2.2.1
theorem IsX.r3 (h : IsX M x bb sb) : gFR M x 8 3 = some (x + 8) := gFR_e h.1 h.2.1.2.2.2.1
theorem IsX.r4 (h : IsX M x bb sb) : gFR M x 8 4 = some (x + 162) := gFR_e h.1 h.2.1.2.2.2.2.1
theorem IsX.r5 (h : IsX M x bb sb) : gFR M x 8 5 = some (x + 316) := gFR_e h.1 h.2.1.2.2.2.2.2.1
theorem IsX.r6 (h : IsX M x bb sb) : gFR M x 8 6 = some (x + 332) := gFR_e h.1 h.2.1.2.2.2.2.2.2.1
theorem IsX.r7 (h : IsX M x bb sb) : gFR M x 8 7 = some (x + 348) := gFR_e h.1 h.2.1.2.2.2.2.2.2.2.1
theorem IsX.r8 (h : IsX M x bb sb) : gFR M x 8 8 = some bb := gFR_e h.1 h.2.1.2.2.2.2.2.2.2.2.1
theorem IsX.r9 (h : IsX M x bb sb) : gFR M x 8 9 = some sb := gFR_e h.1 h.2.1.2.2.2.2.2.2.2.2.2
theorem IsX.in_ (h : IsX M x bb sb) : x + 353 ≤ bb ∧ bb + 12 ≤ x + 377 ∧ x + 353 ≤ sb ∧ sb + 12 ≤ x + 377 ∧ (bb + 12 ≤ sb ∨ sb + 12 ≤ bb) := by
  rcases h.2.2 with ⟨z, z2⟩ | ⟨z, z2⟩ <;> omega
theorem IsX.cq (h : IsX M x bb sb) (hF : Cq x M M') : IsX M' x bb sb := ⟨by rw [hF.1]; exact h.1, by rw [hF.2.2.2.1]; exact h.2.1, h.2.2⟩
theorem IsX.e (h : IsX M x bb sb) (hk : mK M' = mK M) (hr : mR M' x = mR M x) : IsX M' x bb sb := ⟨by rw [hk]; exact h.1, by rw [hr]; exact h.2.1, h.2.2⟩
/-- what the questions rest on: the ballot, and what is known of it -/
def CQ (M : Mem) (x bb sb : Nat) (D : Bl) : Prop := IsX M x bb sb ∧ IsB M bb D ∧ IsBs M sb ∧ (∃ ra rb, IsEq M (x + 8) ra rb) ∧ (∃ ra rb, IsEq M (x + 162) ra rb) ∧ IsGr M (x + 316) ∧ IsGr M (x + 332) ∧ IsOp M (x + 348) ∧ Op0 M (x + 348) ∧ (mI M x 12 = 0 ∨ (mI M x 12 = 1 ∧ EC M (x + 8) D)) ∧ (mI M x 13 = 0 ∨ (mI M x 13 = 1 ∧ GC M (x + 316) D (grd D))) ∧ (mI M x 14 = 0 ∨ (mI M x 14 = 1 ∧ OC M (x + 348) D ∧ mI M x 11 = bst D 0))
theorem EC.fq {e lo hi : Nat} (h : EC M e D) (hD : Cn D) (hF : Fq lo hi M M') (hb : e + 154 ≤ lo ∨ hi ≤ e) : EC M' e D := by
  have l1 := hD.2.2.1
  obtain ⟨ra, rb, a, b, c, d, f, g⟩ := h
  have hin := a.in_
  have c' : GC M' (e + 137) D (cmp D) := ⟨fun d hd => by rw [hF.i (by have := hD.2.1; omega)]; exact c.1 d hd, fun p hp d hd => by rw [hF.i (by omega)]; exact c.2.1 p hp d hd, fun k hk => by rw [hF.i (by omega)]; exact c.2.2.1 k hk, by rw [hF.i (by omega)]; exact c.2.2.2.1, by rw [hF.i (by omega)]; exact c.2.2.2.2⟩
  exact ⟨ra, rb, a.fq hF hb, b.q hD hF (by omega), c', fun p hp => by rw [hF.i (by omega)]; exact d p hp, by rw [hF.i (by omega)]; exact f, by rw [hF.i (by omega)]; exact g⟩
theorem GC.fq {g lo hi : Nat} {s : Gst} (h : GC M g D s) (hD : Cn D) (hF : Fq lo hi M M') (hb : g + 16 ≤ lo ∨ hi ≤ g) : GC M' g D s := by
  have l0 := hD.2.1
  exact ⟨fun d hd => by rw [hF.i (by omega)]; exact h.1 d hd, fun p hp d hd => by rw [hF.i (by omega)]; exact h.2.1 p hp d hd, fun k hk => by rw [hF.i (by omega)]; exact h.2.2.1 k hk, by rw [hF.i (by omega)]; exact h.2.2.2.1, by rw [hF.i (by omega)]; exact h.2.2.2.2⟩
theorem OC.fq {o lo hi : Nat} (h : OC M o D) (hF : Fq lo hi M M') (hb : o + 5 ≤ lo ∨ hi ≤ o) : OC M' o D := ⟨by rw [hF.i (by omega)]; exact h.1, by rw [hF.i (by omega)]; exact h.2.1, fun s hs => by rw [hF.i (by omega), hF.i (by omega)]; exact h.2.2.1 s hs, fun a ha => by rw [hF.i (by omega), hF.i (by omega)]; exact h.2.2.2 a ha⟩
theorem Op0.fq {o lo hi : Nat} (h : Op0 M o) (hF : Fq lo hi M M') (hb : o + 5 ≤ lo ∨ hi ≤ o) : Op0 M' o := ⟨by rw [hF.i (by omega)]; exact h.1, by rw [hF.i (by omega)]; exact h.2.1, by rw [hF.i (by omega)]; exact h.2.2⟩
variable {m : Nat}
/-- a piece of the class's cells changes that is neither an own field nor known to hold something: what else stays -/
theorem CQ.out {lo hi : Nat} (h : CQ M x bb sb D) (hF : Fq lo hi M M') (hb : x + 377 ≤ lo ∨ hi ≤ x) : CQ M' x bb sb D := by
  obtain ⟨a, b, c, ⟨ra, rb, d⟩, ⟨rc, rd, e⟩, f, g, i, j, k, l, n⟩ := h
  have hin := a.in_
  refine ⟨a.e hF.1 (hF.2.2 x (by omega)).2.2, b.fq hF (by omega), c.fq hF (by omega), ⟨ra, rb, d.fq hF (by omega)⟩, ⟨rc, rd, e.fq hF (by omega)⟩, f.fq hF (by omega), g.fq hF (by omega), i.fq hF (by omega), j.fq hF (by omega), ?_, ?_, ?_⟩
  · rw [hF.i (by omega)]
    exact k.imp id (fun z => ⟨z.1, z.2.fq b.n hF (by omega)⟩)
  · rw [hF.i (by omega)]
    exact l.imp id (fun z => ⟨z.1, z.2.fq b.n hF (by omega)⟩)
  · rw [hF.i (by omega), hF.i (by omega)]
    exact n.imp id (fun z => ⟨z.1, z.2.1.fq hF (by omega), z.2.2⟩)
/-! what is known is asked for -/
theorem f_eNow (h : CQ M x bb sb D) (hG : Gd D) (hT : Tl D) : ok (f_X8_equalNow M x) (fun o => o.1 = x + 8 ∧ Cq x M o.2 ∧ CQ o.2 x bb sb D ∧ EC o.2 (x + 8) D) := by
  obtain ⟨a, b, c, ⟨ra, rb, d⟩, ⟨rc, rd, e⟩, f, g, i, j, k, l, n⟩ := h
  have hin := a.in_
  unfold f_X8_equalNow
  rw [a.gi, bs]
  rcases k with k | ⟨k, hE⟩
  · rw [if_pos k]
    simp only [a.r3, bs, a.r8, d.c]
    refine ok.bind (ok.seq (f_edecide d b (by omega) hG hT) ?_)
    rintro M1 ⟨F1, E1⟩
    have C1 : Cq x M M1 := Cq.of F1 (by omega) (by omega)
    have a1 := a.cq C1
    have C2 : Cq x M1 (sI M1 x 12 1) := Cq.sI 1 (by omega) (by omega)
    have F2 : Fi x (x + 1) M1 (sI M1 x 12 1) := Fi.sI ⟨by omega, by omega⟩
    have a2 := a1.cq C2
    rw [a1.p, bs]
    refine ok.pure ?_
    simp only [a2.r3, bs]
    have E2 := E1.fq b.n F2.q (by omega)
    refine ok.pure ⟨rfl, C1.trans C2, ?_, E2⟩
    obtain ⟨r1, r2, E1', -⟩ := E1
    refine ⟨a2, (b.fq F1 (by omega)).fq F2.q (by omega), (c.fq F1 (by omega)).fi F2, ⟨r1, r2, E1'.fi F2⟩, ⟨rc, rd, (e.fq F1 (by omega)).fi F2⟩, (f.fq F1 (by omega)).fi F2, (g.fq F1 (by omega)).fi F2, (i.fq F1 (by omega)).fi F2, (j.fq F1 (by omega)).fq F2.q (by omega), Or.inr ⟨?_, ?_⟩, ?_, ?_⟩
    · rw [i_sI, if_pos ⟨rfl, rfl⟩]
    · exact E2
    · rw [i_sI, if_neg (by omega), F1.i (by omega)]
      exact l.imp id (fun z => ⟨z.1, (z.2.fq b.n F1 (by omega)).fq b.n F2.q (by omega)⟩)
    · rw [i_sI, if_neg (by omega), i_sI, if_neg (by omega), F1.i (by omega), F1.i (by omega)]
      exact n.imp id (fun z => ⟨z.1, (z.2.1.fq F1 (by omega)).fq F2.q (by omega), z.2.2⟩)
  · rw [if_neg (by rw [k]; decide)]
    simp only [bs, a.r3]
    exact ok.pure ⟨rfl, Cq.rf, ⟨a, b, c, ⟨ra, rb, d⟩, ⟨rc, rd, e⟩, f, g, i, j, Or.inr ⟨k, hE⟩, l, n⟩, hE⟩
theorem f_gNow (h : CQ M x bb sb D) (hG : Gd D) : ok (f_X8_greedyNow M x) (fun o => o.1 = x + 316 ∧ Cq x M o.2 ∧ CQ o.2 x bb sb D ∧ GC o.2 (x + 316) D (grd D)) := by
  obtain ⟨a, b, c, ⟨ra, rb, d⟩, ⟨rc, rd, e⟩, f, g, i, j, k, l, n⟩ := h
  have hin := a.in_
  unfold f_X8_greedyNow
  rw [a.gi, bs]
  rcases l with l | ⟨l, hE⟩
  · rw [if_pos l]
    simp only [a.r5, bs, a.r8, f.c]
    refine ok.bind (ok.seq (f_gdecide f b (by omega) hG) ?_)
    rintro M1 ⟨F1, E1⟩
    have C1 : Cq x M M1 := Cq.of F1.q (by omega) (by omega)
    have a1 := a.cq C1
    have C2 : Cq x M1 (sI M1 x 13 1) := Cq.sI 1 (by omega) (by omega)
    have F2 : Fi x (x + 1) M1 (sI M1 x 13 1) := Fi.sI ⟨by omega, by omega⟩
    have a2 := a1.cq C2
    rw [a1.p, bs]
    refine ok.pure ?_
    simp only [a2.r5, bs]
    have E2 := E1.fi F2 (by omega)
    refine ok.pure ⟨rfl, C1.trans C2, ⟨a2, (b.fi F1 (by omega)).fi F2 (by omega), (c.fi F1).fi F2, ⟨ra, rb, (d.fi F1).fi F2⟩, ⟨rc, rd, (e.fi F1).fi F2⟩, (f.fi F1).fi F2, (g.fi F1).fi F2, (i.fi F1).fi F2, (j.fq F1.q (by omega)).fq F2.q (by omega), ?_, Or.inr ⟨?_, E2⟩, ?_⟩, E2⟩
    · rw [i_sI, if_neg (by omega), F1.i (by omega)]
      exact k.imp id (fun z => ⟨z.1, (z.2.fq b.n F1.q (by omega)).fq b.n F2.q (by omega)⟩)
    · rw [i_sI, if_pos ⟨rfl, rfl⟩]
    · rw [i_sI, if_neg (by omega), i_sI, if_neg (by omega), F1.i (by omega), F1.i (by omega)]
      exact n.imp id (fun z => ⟨z.1, (z.2.1.fq F1.q (by omega)).fq F2.q (by omega), z.2.2⟩)
  · rw [if_neg (by rw [l]; decide)]
    simp only [bs, a.r5]
    exact ok.pure ⟨rfl, Cq.rf, ⟨a, b, c, ⟨ra, rb, d⟩, ⟨rc, rd, e⟩, f, g, i, j, k, Or.inr ⟨l, hE⟩, n⟩, hE⟩
theorem f_oNow (h : CQ M x bb sb D) : ok (f_X8_optimumNow M x) (fun o => o.1 = x + 348 ∧ Cq x M o.2 ∧ CQ o.2 x bb sb D ∧ OC o.2 (x + 348) D ∧ mI o.2 x 11 = bst D 0) := by
  obtain ⟨a, b, c, ⟨ra, rb, d⟩, ⟨rc, rd, e⟩, f, g, i, j, k, l, n⟩ := h
  have hin := a.in_
  unfold f_X8_optimumNow
  rw [a.gi, bs]
  rcases n with n | ⟨n, hE⟩
  · rw [if_pos n]
    simp only [a.r7, bs, a.r8, i.c]
    refine ok.bind (ok.seq (f_prep i j b (by omega)) ?_)
    rintro M1 ⟨F1, j1, E1⟩
    have C1 : Cq x M M1 := Cq.of F1.q (by omega) (by omega)
    have a1 := a.cq C1
    have i1 := i.fi F1
    simp only [a1.r7, bs, i1.c, f_best i1 b.n E1]
    have C2 : Cq x M1 (sI M1 x 11 (bst D 0)) := Cq.sI _ (by omega) (by omega)
    have a2 := a1.cq C2
    have C3 : Cq x (sI M1 x 11 (bst D 0)) (sI (sI M1 x 11 (bst D 0)) x 14 1) := Cq.sI _ (by omega) (by omega)
    have a3 := a2.cq C3
    have F2 : Fi x (x + 1) M1 (sI (sI M1 x 11 (bst D 0)) x 14 1) := (Fi.sI ⟨by omega, by omega⟩).trans (Fi.sI ⟨by omega, by omega⟩)
    rw [a1.p, bs, a2.p, bs]
    refine ok.pure ?_
    simp only [a3.r7, bs]
    have E2 := E1.fq F2.q (by omega)
    have q11 : mI (sI (sI M1 x 11 (bst D 0)) x 14 1) x 11 = bst D 0 := by rw [i_sI, if_neg (by omega), i_sI, if_pos ⟨rfl, rfl⟩]
    refine ok.pure ⟨rfl, C1.trans (C2.trans C3), ⟨a3, (b.fi F1 (by omega)).fi F2 (by omega), (c.fi F1).fi F2, ⟨ra, rb, (d.fi F1).fi F2⟩, ⟨rc, rd, (e.fi F1).fi F2⟩, (f.fi F1).fi F2, (g.fi F1).fi F2, i1.fi F2, j1.fq F2.q (by omega), ?_, ?_, Or.inr ⟨?_, E2, q11⟩⟩, E2, q11⟩
    · rw [i_sI, if_neg (by omega), i_sI, if_neg (by omega), F1.i (by omega)]
      exact k.imp id (fun z => ⟨z.1, (z.2.fq b.n F1.q (by omega)).fq b.n F2.q (by omega)⟩)
    · rw [i_sI, if_neg (by omega), i_sI, if_neg (by omega), F1.i (by omega)]
      exact l.imp id (fun z => ⟨z.1, (z.2.fq b.n F1.q (by omega)).fq b.n F2.q (by omega)⟩)
    · rw [i_sI, if_pos ⟨rfl, rfl⟩]
  · rw [if_neg (by rw [n]; decide)]
    simp only [bs, a.r7]
    exact ok.pure ⟨rfl, Cq.rf, ⟨a, b, c, ⟨ra, rb, d⟩, ⟨rc, rd, e⟩, f, g, i, j, k, l, Or.inr ⟨n, hE⟩⟩, hE.1, hE.2⟩
theorem f_bNow (h : CQ M x bb sb D) : ok (f_X8_bestNow M x) (fun o => o.1 = bst D 0 ∧ Cq x M o.2 ∧ CQ o.2 x bb sb D) := by
  unfold f_X8_bestNow
  rw [h.1.c, bs]
  refine ok.seq (f_oNow h) ?_
  rintro ⟨o, M1⟩ ⟨rfl, C1, h1, -, q⟩
  dsimp only at C1 h1 q ⊢
  rw [h1.1.gi, bs, q]
  exact ok.pure ⟨rfl, C1, h1⟩
theorem EC.ch (h : EC M (x + 8) D) : f_X1_chosen M (x + 8) = some (SS D 0) := by
  obtain ⟨ra, rb, a, b, c, -⟩ := h
  unfold f_X1_chosen
  simp only [a.r0, bs, a.a.g, b.1.2.2.2.2.2, a.r2, a.g.gi, c.2.2.2.2, SS_0]
  rfl
theorem f_chBy (h : CQ M x bb sb D) (hG : Gd D) (hT : Tl D) {r : Int32} (hr : isR r) : ok (f_X8_chosenBy M x r) (fun o => o.1 = SS D r ∧ Cq x M o.2 ∧ CQ o.2 x bb sb D) := by
  unfold f_X8_chosenBy
  rcases hr with e | e | e <;> subst e
  · rw [if_pos rfl, h.1.c, bs]
    refine ok.seq (f_eNow h hG hT) ?_
    rintro ⟨o, M1⟩ ⟨rfl, C1, h1, E1⟩
    dsimp only at C1 h1 E1 ⊢
    obtain ⟨ra, rb, E1', -⟩ := id E1
    rw [E1'.c, bs, E1.ch, bs]
    exact ok.pure ⟨rfl, C1, h1⟩
  · rw [if_neg (by decide), if_pos rfl, h.1.c, bs]
    refine ok.bind (ok.seq (f_gNow h hG) ?_)
    rintro ⟨o, M1⟩ ⟨rfl, C1, h1, E1⟩
    dsimp only at C1 h1 E1 ⊢
    obtain ⟨a, b, c, d, e, f, -⟩ := id h1
    rw [f.gi, bs]
    exact ok.pure (ok.pure ⟨by rw [SS_1]; exact E1.2.2.2.2, C1, h1⟩)
  · rw [if_neg (by decide), if_neg (by decide), h.1.c, bs]
    refine ok.bind (ok.seq (f_bNow h) ?_)
    rintro ⟨o, M1⟩ ⟨q, C1, h1⟩
    exact ok.pure (ok.pure ⟨by rw [SS_2]; exact q, C1, h1⟩)
end
