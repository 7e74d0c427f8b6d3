/-! ===== a ballot: D 0 the counts, D 1 .. D 11 its rows (names of districts, budgets, names of projects, costs, areas, weights, members, approved, settings, backers, votes) ===== -/
section
abbrev Bl : Type := Nat → Nat → Int32
def cn (D : Bl) (j : Nat) : Nat := (D 0 j).toNatClampNeg
def bln (k : Nat) : Nat := [0, 4, 4, 12, 12, 12, 24, 24, 24, 4, 12, 12].getD k 0
def bsz (D : Bl) (k : Nat) : Nat := if k = 1 ∨ k = 2 then cn D 0 else if k = 9 then 4 else if k = 6 ∨ k = 7 ∨ k = 8 then cn D 2 else cn D 1
/-- counts in their ranges -/
def Cn (D : Bl) : Prop := (∀ j, j < 3 → D 0 j = Int32.ofNat (cn D j)) ∧ cn D 0 ≤ 4 ∧ cn D 1 ≤ 12 ∧ cn D 2 ≤ 24
/-- the ballot at b, as its class lays it -/
def IsBs (M : Mem) (b : Nat) : Prop := (mK M b).1 = 0 ∧ ∀ k, 1 ≤ k → k < 12 → mR M b (k + 2) = some (b + k) ∧ mK M (b + k) = (20, bln k)
def IsB (M : Mem) (b : Nat) (D : Bl) : Prop := IsBs M b ∧ (∀ j, j < 3 → mI M b j = D 0 j) ∧ Cn D ∧ ∀ k, 1 ≤ k → k < 12 → ∀ i, i < bsz D k → mI M (b + k) i = D k i
theorem IsBs.fq {M M' : Mem} {b lo hi : Nat} (h : IsBs M b) (hF : Fq lo hi M M') (hb : b + 12 ≤ lo ∨ hi ≤ b) : IsBs M' b :=
  ⟨by rw [hF.1]; exact h.1, fun k h1 h2 => by rw [hF.r (by omega), hF.1]; exact h.2 k h1 h2⟩
theorem IsBs.sI {M : Mem} {b a j : Nat} {x : Int32} (h : IsBs M b) : IsBs (sI M a j x) b := h
theorem IsBs.sL {M : Mem} {b a j : Nat} {x : Int64} (h : IsBs M b) : IsBs (sL M a j x) b := h
theorem IsB.fq {M M' : Mem} {b lo hi : Nat} {D : Bl} (h : IsB M b D) (hF : Fq lo hi M M') (hb : b + 12 ≤ lo ∨ hi ≤ b) : IsB M' b D :=
  ⟨h.1.fq hF hb, fun j hj => by rw [hF.i (by omega)]; exact h.2.1 j hj, h.2.2.1, fun k h1 h2 i hi => by rw [hF.i (by omega)]; exact h.2.2.2 k h1 h2 i hi⟩
variable {M : Mem} {b : Nat} {D : Bl}
theorem IsB.s (h : IsB M b D) : IsBs M b := h.1
theorem IsB.n (h : IsB M b D) : Cn D := h.2.2.1
theorem Cn.l0 (h : Cn D) : cn D 0 < 2147483648 := by have := h.2.1; omega
theorem Cn.l1 (h : Cn D) : cn D 1 < 2147483648 := by have := h.2.2.1; omega
theorem Cn.l2 (h : Cn D) : cn D 2 < 2147483648 := by have := h.2.2.2; omega
theorem Cn.m0 (h : Cn D) : cn D 0 < 1000000 := by have := h.2.1; omega
theorem Cn.m1 (h : Cn D) : cn D 1 < 1000000 := by have := h.2.2.1; omega
theorem Cn.m2 (h : Cn D) : cn D 2 < 1000000 := by have := h.2.2.2; omega
theorem IsBs.c (h : IsBs M b) : ck M b 0 = some () := ck_e h.1
theorem IsB.c (h : IsB M b D) : ck M b 0 = some () := ck_e h.1.1
theorem IsB.g0 (h : IsB M b D) : gFI M b 0 0 = some (Int32.ofNat (cn D 0)) := by rw [gFI_e h.1.1, h.2.1 0 (by omega), h.n.1 0 (by omega)]
theorem IsB.g1 (h : IsB M b D) : gFI M b 0 1 = some (Int32.ofNat (cn D 1)) := by rw [gFI_e h.1.1, h.2.1 1 (by omega), h.n.1 1 (by omega)]
theorem IsB.g2 (h : IsB M b D) : gFI M b 0 2 = some (Int32.ofNat (cn D 2)) := by rw [gFI_e h.1.1, h.2.1 2 (by omega), h.n.1 2 (by omega)]
theorem IsBs.r1 (h : IsBs M b) : gFR M b 0 3 = some (b + 1) := gFR_e h.1 (h.2 1 (by omega) (by omega)).1
theorem IsBs.k1 (h : IsBs M b) : mK M (b + 1) = (20, 4) := (h.2 1 (by omega) (by omega)).2
theorem IsB.a1 (h : IsB M b D) {i : Nat} (hi : i < cn D 0) : aI M (b + 1) (Int32.ofNat i) = some (D 1 i) := by
  rw [aI_e h.1.k1 (Or.inl rfl) (by have := h.n.2.1; omega) (by omega), h.2.2.2 1 (by omega) (by omega) i (by unfold bsz; simpa using hi)]
theorem IsBs.r2 (h : IsBs M b) : gFR M b 0 4 = some (b + 2) := gFR_e h.1 (h.2 2 (by omega) (by omega)).1
theorem IsBs.k2 (h : IsBs M b) : mK M (b + 2) = (20, 4) := (h.2 2 (by omega) (by omega)).2
theorem IsB.a2 (h : IsB M b D) {i : Nat} (hi : i < cn D 0) : aI M (b + 2) (Int32.ofNat i) = some (D 2 i) := by
  rw [aI_e h.1.k2 (Or.inl rfl) (by have := h.n.2.1; omega) (by omega), h.2.2.2 2 (by omega) (by omega) i (by unfold bsz; simpa using hi)]
theorem IsBs.r3 (h : IsBs M b) : gFR M b 0 5 = some (b + 3) := gFR_e h.1 (h.2 3 (by omega) (by omega)).1
theorem IsBs.k3 (h : IsBs M b) : mK M (b + 3) = (20, 12) := (h.2 3 (by omega) (by omega)).2
theorem IsB.a3 (h : IsB M b D) {i : Nat} (hi : i < cn D 1) : aI M (b + 3) (Int32.ofNat i) = some (D 3 i) := by
  rw [aI_e h.1.k3 (Or.inl rfl) (by have := h.n.2.2.1; omega) (by omega), h.2.2.2 3 (by omega) (by omega) i (by unfold bsz; simpa using hi)]
theorem IsBs.r4 (h : IsBs M b) : gFR M b 0 6 = some (b + 4) := gFR_e h.1 (h.2 4 (by omega) (by omega)).1
theorem IsBs.k4 (h : IsBs M b) : mK M (b + 4) = (20, 12) := (h.2 4 (by omega) (by omega)).2
theorem IsB.a4 (h : IsB M b D) {i : Nat} (hi : i < cn D 1) : aI M (b + 4) (Int32.ofNat i) = some (D 4 i) := by
  rw [aI_e h.1.k4 (Or.inl rfl) (by have := h.n.2.2.1; omega) (by omega), h.2.2.2 4 (by omega) (by omega) i (by unfold bsz; simpa using hi)]
theorem IsBs.r5 (h : IsBs M b) : gFR M b 0 7 = some (b + 5) := gFR_e h.1 (h.2 5 (by omega) (by omega)).1
theorem IsBs.k5 (h : IsBs M b) : mK M (b + 5) = (20, 12) := (h.2 5 (by omega) (by omega)).2
theorem IsB.a5 (h : IsB M b D) {i : Nat} (hi : i < cn D 1) : aI M (b + 5) (Int32.ofNat i) = some (D 5 i) := by
  rw [aI_e h.1.k5 (Or.inl rfl) (by have := h.n.2.2.1; omega) (by omega), h.2.2.2 5 (by omega) (by omega) i (by unfold bsz; simpa using hi)]
theorem IsBs.r6 (h : IsBs M b) : gFR M b 0 8 = some (b + 6) := gFR_e h.1 (h.2 6 (by omega) (by omega)).1
theorem IsBs.k6 (h : IsBs M b) : mK M (b + 6) = (20, 24) := (h.2 6 (by omega) (by omega)).2
theorem IsB.a6 (h : IsB M b D) {i : Nat} (hi : i < cn D 2) : aI M (b + 6) (Int32.ofNat i) = some (D 6 i) := by
  rw [aI_e h.1.k6 (Or.inl rfl) (by have := h.n.2.2.2; omega) (by omega), h.2.2.2 6 (by omega) (by omega) i (by unfold bsz; simpa using hi)]
theorem IsBs.r7 (h : IsBs M b) : gFR M b 0 9 = some (b + 7) := gFR_e h.1 (h.2 7 (by omega) (by omega)).1
theorem IsBs.k7 (h : IsBs M b) : mK M (b + 7) = (20, 24) := (h.2 7 (by omega) (by omega)).2
theorem IsB.a7 (h : IsB M b D) {i : Nat} (hi : i < cn D 2) : aI M (b + 7) (Int32.ofNat i) = some (D 7 i) := by
  rw [aI_e h.1.k7 (Or.inl rfl) (by have := h.n.2.2.2; omega) (by omega), h.2.2.2 7 (by omega) (by omega) i (by unfold bsz; simpa using hi)]
theorem IsBs.r8 (h : IsBs M b) : gFR M b 0 10 = some (b + 8) := gFR_e h.1 (h.2 8 (by omega) (by omega)).1
theorem IsBs.k8 (h : IsBs M b) : mK M (b + 8) = (20, 24) := (h.2 8 (by omega) (by omega)).2
theorem IsB.a8 (h : IsB M b D) {i : Nat} (hi : i < cn D 2) : aI M (b + 8) (Int32.ofNat i) = some (D 8 i) := by
  rw [aI_e h.1.k8 (Or.inl rfl) (by have := h.n.2.2.2; omega) (by omega), h.2.2.2 8 (by omega) (by omega) i (by unfold bsz; simpa using hi)]
theorem IsBs.r9 (h : IsBs M b) : gFR M b 0 11 = some (b + 9) := gFR_e h.1 (h.2 9 (by omega) (by omega)).1
theorem IsBs.k9 (h : IsBs M b) : mK M (b + 9) = (20, 4) := (h.2 9 (by omega) (by omega)).2
theorem IsB.a9 (h : IsB M b D) {i : Nat} (hi : i < 4) : aI M (b + 9) (Int32.ofNat i) = some (D 9 i) := by
  rw [aI_e h.1.k9 (Or.inl rfl) (by omega) (by omega), h.2.2.2 9 (by omega) (by omega) i (by unfold bsz; simpa using hi)]
theorem IsBs.r10 (h : IsBs M b) : gFR M b 0 12 = some (b + 10) := gFR_e h.1 (h.2 10 (by omega) (by omega)).1
theorem IsBs.k10 (h : IsBs M b) : mK M (b + 10) = (20, 12) := (h.2 10 (by omega) (by omega)).2
theorem IsB.a10 (h : IsB M b D) {i : Nat} (hi : i < cn D 1) : aI M (b + 10) (Int32.ofNat i) = some (D 10 i) := by
  rw [aI_e h.1.k10 (Or.inl rfl) (by have := h.n.2.2.1; omega) (by omega), h.2.2.2 10 (by omega) (by omega) i (by unfold bsz; simpa using hi)]
theorem IsBs.r11 (h : IsBs M b) : gFR M b 0 13 = some (b + 11) := gFR_e h.1 (h.2 11 (by omega) (by omega)).1
theorem IsBs.k11 (h : IsBs M b) : mK M (b + 11) = (20, 12) := (h.2 11 (by omega) (by omega)).2
theorem IsB.a11 (h : IsB M b D) {i : Nat} (hi : i < cn D 1) : aI M (b + 11) (Int32.ofNat i) = some (D 11 i) := by
  rw [aI_e h.1.k11 (Or.inl rfl) (by have := h.n.2.2.1; omega) (by omega), h.2.2.2 11 (by omega) (by omega) i (by unfold bsz; simpa using hi)]
end
/-! what the methods answer -/
section
def wo (D : Bl) (p : Nat) : Int32 := if D 9 0 = 0 then 1 else D 4 p
def mw (D : Bl) (d : Nat) : Int32 := sm (cn D 2) fun v => if hs (D 7 v) (Int32.ofNat d) = true then D 6 v else 0
def sh (D : Bl) (v d : Nat) (w : Int32) : Int32 := if hs (D 7 v) (Int32.ofNat d) = true then (if w ≤ 0 then 0 else D 2 d * D 6 v / w) else 0
def fp (D : Bl) (v d : Nat) : Int32 := sh D v d (mw D d)
def fm (D : Bl) (v : Nat) (area : Int32) : Int32 := sm (cn D 0) fun d => if hs area (Int32.ofNat d) = true then fp D v d else 0
def bt (p : Nat) : Int32 := (1 : Int32) <<< (Int32.ofNat p &&& 31)
def vo (D : Bl) : Int32 := fo (fun p a => if D 11 p ≤ 0 then a else a ||| bt p) (cn D 1) 0
def ct (D : Bl) (set : Int32) : Int32 := sm (cn D 1) fun p => if hs set (Int32.ofNat p) = true then D 4 p else 0
def vl (D : Bl) (set : Int32) : Int32 := sm (cn D 1) fun p => if hs set (Int32.ofNat p) = true then D 11 p * wo D p else 0
def jy (D : Bl) (set : Int32) (v : Nat) : Int32 := sm (cn D 1) fun p => if hs set (Int32.ofNat p) = true then (if hs (D 10 p) (Int32.ofNat v) = true then wo D p else 0) else 0
def us (D : Bl) (set : Int32) : Int32 := fo (fun p a => if hs set (Int32.ofNat p) = true then a &&& (D 10 p ^^^ (-1)) else a) (cn D 1) (bt (cn D 2) - 1)
def cl (D : Bl) (set : Int32) (p : Nat) : Int32 := if hs set (Int32.ofNat p) = true then 0 else sm (cn D 2) fun v => if hs (D 10 p &&& us D set) (Int32.ofNat v) = true then fm D v (D 5 p) else 0
variable {M : Mem} {b : Nat} {D : Bl}
theorem z9 : (0 : Int32) = Int32.ofNat 0 := rfl
theorem f_wo (h : IsB M b D) {p : Nat} (hp : p < cn D 1) : f_X0_worth M b (Int32.ofNat p) = some (wo D p) := by
  have e := h.a9 (i := 0) (by omega)
  unfold f_X0_worth wo
  rw [z9]
  simp only [h.s.r9, bs, e, h.s.r4, h.a4 hp, is_]
theorem f_mw (h : IsB M b D) (d : Nat) : f_X0_memberWeight M b (Int32.ofNat d) = some (mw D d) := by
  unfold f_X0_memberWeight
  refine it_s (k := fun a => some a) (cn D 2) _ h.n.m2 (fun rec i a hi => ?_) (fun rec a => ?_)
  · unfold bd_X0_memberWeight_4
    simp only [h.g2, bs, ile_n hi h.n.l2, h.s.r7, h.a7 hi, f_has8, h.s.r6, h.a6 hi, ltq, b2i_ite, is_, add_ite, i_succ]
  · unfold bd_X0_memberWeight_4
    simp only [h.g2, bs, ile_e]
theorem f_sh (h : IsB M b D) {v d : Nat} (hv : v < cn D 2) (hd : d < cn D 0) (w : Int32) : f_X0_share M b (Int32.ofNat v) (Int32.ofNat d) w = some (sh D v d w) := by
  unfold f_X0_share sh
  simp only [h.s.r7, h.a7 hv, bs, f_has8, b2i_ite, h.s.r2, h.a2 hd, h.s.r6, h.a6 hv]
  by_cases hc : hs (D 7 v) (Int32.ofNat d) = true
  · by_cases hw : w ≤ 0
    · simp only [hc, hw, if_true, bs]
    · have e : ¬ w = 0 := fun z => hw (by rw [z]; exact Int32.le_refl _)
      unfold dv_
      simp only [hc, hw, e, if_true, if_false, bs]
  · simp only [hc]
    rfl
theorem f_fp (h : IsB M b D) {v d : Nat} (hv : v < cn D 2) (hd : d < cn D 0) : f_X0_firstPurse M b (Int32.ofNat v) (Int32.ofNat d) = some (fp D v d) := by
  unfold f_X0_firstPurse fp
  simp only [h.c, bs, f_mw h, f_sh h hv hd]
theorem f_fm (h : IsB M b D) {v : Nat} (hv : v < cn D 2) (area : Int32) : f_X0_firstMeans M b (Int32.ofNat v) area = some (fm D v area) := by
  unfold f_X0_firstMeans
  refine it_s (k := fun a => some a) (cn D 0) _ h.n.m0 (fun rec i a hi => ?_) (fun rec a => ?_)
  · unfold bd_X0_firstMeans_5
    simp only [h.g0, bs, ile_n hi h.n.l0, f_has8, h.c, f_fp h hv hi, ltq, b2i_ite, is_, add_ite, i_succ]
  · unfold bd_X0_firstMeans_5
    simp only [h.g0, bs, ile_e]
theorem f_vo (h : IsB M b D) : f_X0_voted M b = some (vo D) := by
  unfold f_X0_voted
  refine it_c (k := fun a => some a) (cn D 1) _ 0 h.n.m1 (fun rec i hi => ?_) (fun rec => ?_)
  · unfold bd_X0_voted_4
    simp only [h.g1, bs, ile_n hi h.n.l1, h.s.r11, h.a11 hi, ltq, is_, i_succ]
    rfl
  · unfold bd_X0_voted_4
    simp only [h.g1, bs, ile_e]
theorem f_ct (h : IsB M b D) (set : Int32) : f_X0_costTogether M b set = some (ct D set) := by
  unfold f_X0_costTogether
  refine it_s (k := fun a => some a) (cn D 1) _ h.n.m1 (fun rec i a hi => ?_) (fun rec a => ?_)
  · unfold bd_X0_costTogether_4
    simp only [h.g1, bs, ile_n hi h.n.l1, f_has8, h.s.r4, h.a4 hi, ltq, b2i_ite, is_, add_ite, i_succ]
  · unfold bd_X0_costTogether_4
    simp only [h.g1, bs, ile_e]
theorem f_vl (h : IsB M b D) (set : Int32) : f_X0_valueTogether M b set = some (vl D set) := by
  unfold f_X0_valueTogether
  refine it_s (k := fun a => some a) (cn D 1) _ h.n.m1 (fun rec i a hi => ?_) (fun rec a => ?_)
  · unfold bd_X0_valueTogether_4
    simp only [h.g1, bs, ile_n hi h.n.l1, f_has8, h.s.r11, h.a11 hi, h.c, f_wo h hi, ltq, b2i_ite, is_, add_ite, i_succ]
  · unfold bd_X0_valueTogether_4
    simp only [h.g1, bs, ile_e]
theorem f_jy (h : IsB M b D) (set : Int32) (v : Nat) : f_X0_joy M b set (Int32.ofNat v) = some (jy D set v) := by
  unfold f_X0_joy
  refine it_s (k := fun a => some a) (cn D 1) _ h.n.m1 (fun rec i a hi => ?_) (fun rec a => ?_)
  · unfold bd_X0_joy_5
    simp only [h.g1, bs, ile_n hi h.n.l1, f_has8, h.s.r10, h.a10 hi, h.c, f_wo h hi, ltq, b2i_ite, is_, add_ite, i_succ]
  · unfold bd_X0_joy_5
    simp only [h.g1, bs, ile_e]
theorem f_us (h : IsB M b D) (set : Int32) : f_X0_unserved M b set = some (us D set) := by
  unfold f_X0_unserved
  simp only [h.g2, bs, ltq]
  refine it_c (k := fun a => some a) (cn D 1) _ _ h.n.m1 (fun rec i hi => ?_) (fun rec => ?_)
  · unfold bd_X0_unserved_11
    simp only [h.g1, bs, ile_n hi h.n.l1, f_has8, h.s.r10, h.a10 hi, ltq, b2i_ite, is_, i_succ]
    rfl
  · unfold bd_X0_unserved_11
    simp only [h.g1, bs, ile_e]
theorem f_cl (h : IsB M b D) (set : Int32) {p : Nat} (hp : p < cn D 1) : f_X0_claim M b set (Int32.ofNat p) = some (cl D set p) := by
  unfold f_X0_claim cl
  simp only [f_has8, bs, b2i_ite, h.s.r10, h.a10 hp, h.c, f_us h, ltq]
  split
  · rfl
  · refine it_s (k := fun a => some a) (cn D 2) _ h.n.m2 (fun rec i a hi => ?_) (fun rec a => ?_)
    · unfold bd_X0_claim_29
      simp only [h.g2, bs, ile_n hi h.n.l2, f_has8, h.s.r5, h.a5 hp, h.c, f_fm h hi, ltq, b2i_ite, is_, add_ite, i_succ]
    · unfold bd_X0_claim_29
      simp only [h.g2, bs, ile_e]
/-- whether a project comes before another one in the greedy order -/
def gd (D : Bl) (o t : Nat) : Int32 := if D 9 3 = 0 then D 11 o - D 11 t else D 11 o * D 4 t - D 11 t * D 4 o
def gb (D : Bl) (o t : Nat) : Bool := if gd D o t = 0 then decide (D 4 o < D 4 t) || (decide (D 4 o = D 4 t) && decide (o < t)) else !decide (gd D o t ≤ 0)
theorem f_gb (h : IsB M b D) {o t : Nat} (ho : o < cn D 1) (ht : t < cn D 1) : f_X0_goesBefore M b (Int32.ofNat o) (Int32.ofNat t) = some (b2i (gb D o t)) := by
  have e := h.a9 (i := 3) (by omega)
  have l1 := h.n.2.2.1
  have e2 : (Int32.ofNat t ≤ Int32.ofNat o) ↔ t ≤ o := i_le (by omega) (by omega)
  unfold f_X0_goesBefore gb gd
  rw [show (3 : Int32) = Int32.ofNat 3 from rfl]
  simp only [h.s.r9, e, bs, h.s.r11, h.a11 ho, h.a11 ht, h.s.r4, h.a4 ho, h.a4 ht, is_, e2]
  generalize (if D 9 3 = 0 then D 11 o - D 11 t else D 11 o * D 4 t - D 11 t * D 4 o) = z
  by_cases hz : z = 0
  · simp only [hz, if_true]
    by_cases h1 : D 4 o < D 4 t
    · simp [h1, b2i, isB]
    · by_cases h2 : D 4 o = D 4 t
      · by_cases h3 : t ≤ o
        · have h4 : ¬ o < t := by omega
          simp [h1, h2, h3, h4, b2i, isB]
        · have h4 : o < t := by omega
          simp [h1, h2, h3, h4, b2i, isB]
      · simp [h1, h2, b2i, isB]
  · by_cases h1 : z ≤ 0 <;> simp [hz, h1, b2i, isB]
end
