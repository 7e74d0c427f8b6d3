/-! ===== the greedy rule in all ===== -/
section
def tkS (D : Bl) (u : Int32 × Gst) : Int32 × Gst := if fst_ D u.1 < 0 then u else (u.1 &&& (bt (ix (fst_ D u.1)) ^^^ (-1)), if lin D (gL u.2) (D 5 (ix (fst_ D u.1))) < D 4 (ix (fst_ D u.1)) then u.2 else gfu D u.2 (ix (fst_ D u.1)))
def tk (D : Bl) (w : Int32) (s : Gst) (n : Nat) : Int32 × Gst := fo (fun _ => tkS D) n (w, s)
variable {D : Bl}
theorem tk_s (w : Int32) (s : Gst) (n : Nat) : tk D w s (n + 1) = tkS D (tk D w s n) := rfl
theorem tk_stop {w : Int32} {s : Gst} {n : Nat} (h : fst_ D (tk D w s n).1 < 0) (j : Nat) : tk D w s (n + j) = tk D w s n := by
  induction j with
  | zero => rfl
  | succ j ih =>
    rw [← Nat.add_assoc, tk_s, ih]
    unfold tkS
    rw [if_pos h]
theorem fst_in (hD : Cn D) (w : Int32) : fst_ D w = -1 ∨ ∃ q, q < cn D 1 ∧ fst_ D w = Int32.ofNat q ∧ hs w (Int32.ofNat q) = true := fsN_in w (cn D 1)
theorem fst_0 (hD : Cn D) : fst_ D 0 = -1 := by
  rcases fst_in hD 0 with h | ⟨q, hq, -, h⟩
  · exact h
  · have := hD.2.2.1
    rw [hs_0 (by omega)] at h
    exact Bool.noConfusion h
theorem eq_ok {α : Type} {t : Option α} {x : α} (h : ok t (fun y => y = x)) : t = some x := by
  obtain ⟨y, h1, rfl⟩ := h
  exact h1
variable {M : Mem} {g b : Nat}
theorem f_take (h : IsGr M g) (hBl : IsB M b D) (hb : b + 12 ≤ g ∨ g + 16 ≤ b) (hG : Gd D) {s : Gst} (hs_ : GC M g D s) (hc : gc s = 0) (w : Int32) : ok (f_X2_take M g b w) (fun M' => Fi g (g + 16) M M' ∧ GC M' g D (tk D w s (cn D 1)).2) := by
  have l0 := hG.n.2.1
  have l1 := hG.n.2.2.1
  unfold f_X2_take
  refine it_r (I := fun k (u : Int32 × Int32 × Mem) => u.1 = (tk D w s k).1 ∧ u.2.1 = Int32.ofNat k ∧ Fi g (g + 16) M u.2.2 ∧ GC u.2.2 g D (tk D w s k).2 ∧ gc (tk D w s k).2 ≤ k) (cn D 1) ⟨rfl, rfl, Fi.rf, hs_, Nat.le_of_eq hc⟩ hG.n.m1 ?_ ?_
  · rintro rec k ⟨x, y, M'⟩ hk ⟨rfl, rfl, hF, hC, hk2⟩ hrec
    dsimp only at hF hC
    have h1 := h.fi hF
    have hBl1 := hBl.fi hF hb
    have stop : fst_ D (tk D w s k).1 < 0 → ok (some M') (fun M' => Fi g (g + 16) M M' ∧ GC M' g D (tk D w s (cn D 1)).2) := fun z => by
      have := tk_stop z (cn D 1 - k)
      rw [show k + (cn D 1 - k) = cn D 1 by omega] at this
      rw [this]
      exact ok.pure ⟨hF, hC⟩
    unfold bd_X2_take_5
    simp only [hBl1.g1, bs, ile_n hk hG.n.l1]
    by_cases c1 : (tk D w s k).1 = 0
    · rw [if_pos c1]
      exact stop (by rw [c1, fst_0 hG.n]; exact m1_neg)
    · rw [if_neg c1, f_first hBl1, bs]
      rcases fst_in hG.n (tk D w s k).1 with e | ⟨p, hp, e, -⟩
      · rw [e, if_neg (by decide)]
        exact stop (by rw [e]; exact m1_neg)
      · have e0 : (0 : Int32) ≤ Int32.ofNat p := by
          rw [show (0 : Int32) = Int32.ofNat 0 from rfl, i_le (by omega) (by omega)]; omega
        have hst : tk D w s (k + 1) = ((tk D w s k).1 &&& (bt p ^^^ (-1)), if lin D (gL (tk D w s k).2) (D 5 p) < D 4 p then (tk D w s k).2 else gfu D (tk D w s k).2 p) := by
          rw [tk_s]
          unfold tkS
          rw [if_neg (by rw [e]; exact o_nneg (by omega)), e, ix_o (by omega)]
        rw [e, if_pos e0]
        rw [show (1 : Int32) <<< (Int32.ofNat p &&& 31) = bt p from rfl]
        simp only [ltq, hBl1.s.r5, bs, hBl1.a5 hp, h1.c, f_leftIn h1 l0 hC.1 (hG.2.2.1 p hp).2, hBl1.s.r4, hBl1.a4 hp, i_succ]
        refine ok.iteB (fun c2 => ?_) (fun c2 => ?_)
        · rw [bs]
          refine hrec _ ⟨by rw [hst], rfl, hF, ?_, ?_⟩
          · rw [hst]
            dsimp only
            rw [if_pos c2]
            exact hC
          · rw [hst]
            dsimp only
            rw [if_pos c2]
            omega
        · refine ok.bind (ok.seq (f_gfund h1 hG hC hp (by omega)) ?_)
          rintro M2 ⟨F2, hC2⟩
          refine ok.pure (hrec _ ⟨by rw [hst], rfl, hF.trans F2, ?_, ?_⟩)
          · rw [hst]
            dsimp only
            rw [if_neg c2]
            exact hC2
          · rw [hst]
            dsimp only
            rw [if_neg c2]
            show gc (tk D w s k).2 + 1 ≤ _
            omega
  · rintro rec ⟨x, y, M'⟩ ⟨rfl, rfl, hF, hC, hk2⟩
    dsimp only at hF hC
    have hBl1 := hBl.fi hF hb
    unfold bd_X2_take_5
    simp only [hBl1.g1, bs, ile_e]
    exact ok.pure ⟨hF, hC⟩
/-- what GREEDY decides -/
def grd (D : Bl) : Gst := (tk D (vo D) (g0 (D 2)) (cn D 1)).2
theorem f_gdecide (h : IsGr M g) (hBl : IsB M b D) (hb : b + 12 ≤ g ∨ g + 16 ≤ b) (hG : Gd D) : ok (f_X2_decide M g b) (fun M' => Fi g (g + 16) M M' ∧ GC M' g D (grd D)) := by
  unfold f_X2_decide
  rw [h.c, bs]
  refine ok.seq (f_begin h hBl hb) ?_
  rintro M1 ⟨F1, C1⟩
  have h1 := h.fi F1
  have hBl1 := hBl.fi F1 hb
  simp only [hBl1.c, bs, f_vo hBl1, h1.c]
  refine ok.seq (f_take h1 hBl1 hb hG C1 rfl (vo D)) ?_
  rintro M2 ⟨F2, C2⟩
  exact ok.pure ⟨F1.trans F2, C2⟩
end
