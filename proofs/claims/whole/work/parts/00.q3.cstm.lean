/-! ===== a ballot that is read: what a statement adds ===== -/
section
variable {M M' M1 M2 : Mem} {t : Nat → Int32} {n p q T R b c lim : Nat} {D D' : Bl} {f : Nat → Int32} {g : Int32}
/-- which count a row goes by -/
def gk (k : Nat) : Nat := [9, 0, 0, 1, 1, 1, 2, 2, 2, 3].getD k 9
/-- one more of what count c counts -/
def ps (D : Bl) (c : Nat) (f : Nat → Int32) : Bl := fun k i => if k = 0 ∧ i = c then Int32.ofNat (cn D c + 1) else if 1 ≤ k ∧ gk k = c ∧ i = cn D c then f k else D k i
theorem ps_0c : ps D c f 0 c = Int32.ofNat (cn D c + 1) := if_pos ⟨rfl, rfl⟩
theorem ps_0n {j : Nat} (h : j ≠ c) : ps D c f 0 j = D 0 j := by
  unfold ps
  rw [if_neg (fun z => h z.2), if_neg (by omega)]
theorem ps_k {k : Nat} (h1 : 1 ≤ k) (h : gk k = c) : ps D c f k (cn D c) = f k := by
  unfold ps
  rw [if_neg (by omega), if_pos ⟨h1, h, rfl⟩]
theorem ps_n {k i : Nat} (h1 : 1 ≤ k) (h : gk k ≠ c ∨ i ≠ cn D c) : ps D c f k i = D k i := by
  unfold ps
  rw [if_neg (by omega), if_neg (fun z => by rcases h with h | h; exact h z.2.1; exact h z.2.2)]
theorem cn_ps {j : Nat} (hl : cn D c < 100) : cn (ps D c f) j = if j = c then cn D c + 1 else cn D j := by
  by_cases h : j = c
  · subst h
    rw [if_pos rfl]
    show (ps D j f 0 j).toNatClampNeg = _
    rw [ps_0c, i_idx (by omega)]
  · rw [if_neg h]
    show (ps D c f 0 j).toNatClampNeg = _
    rw [ps_0n h]
    rfl
def Rm (D : Bl) (c : Nat) : Prop := (c = 0 ∧ cn D 0 < 4) ∨ (c = 1 ∧ cn D 1 < 12) ∨ (c = 2 ∧ cn D 2 < 24)
theorem Rm.l (h : Rm D c) : cn D c < 100 ∧ c < 3 := by
  rcases h with ⟨rfl, l⟩ | ⟨rfl, l⟩ | ⟨rfl, l⟩ <;> omega
theorem Cn_ps (h : Cn D) (hl : Rm D c) : Cn (ps D c f) := by
  have l := hl.l
  have h2 := h.2
  refine ⟨fun j hj => ?_, ?_, ?_, ?_⟩
  · rw [cn_ps l.1]
    by_cases e : j = c
    · rw [if_pos e, e, ps_0c]
    · rw [if_neg e, ps_0n e]; exact h.1 j hj
  · rw [cn_ps l.1]
    rcases hl with ⟨rfl, l⟩ | ⟨rfl, l⟩ | ⟨rfl, l⟩ <;> split <;> omega
  · rw [cn_ps l.1]
    rcases hl with ⟨rfl, l⟩ | ⟨rfl, l⟩ | ⟨rfl, l⟩ <;> split <;> omega
  · rw [cn_ps l.1]
    rcases hl with ⟨rfl, l⟩ | ⟨rfl, l⟩ | ⟨rfl, l⟩ <;> split <;> omega
theorem bsz_g {k : Nat} (h1 : 1 ≤ k) (h2 : k < 10) : bsz D k = if k = 9 then 4 else cn D (gk k) := by
  rcases (show k = 1 ∨ k = 2 ∨ k = 3 ∨ k = 4 ∨ k = 5 ∨ k = 6 ∨ k = 7 ∨ k = 8 ∨ k = 9 by omega) with e | e | e | e | e | e | e | e | e <;> subst e <;> simp [bsz, gk]
theorem gk_3 {k : Nat} (h1 : 1 ≤ k) (h2 : k < 10) : gk k < 4 ∧ (gk k = 3 ↔ k = 9) := by
  rcases (show k = 1 ∨ k = 2 ∨ k = 3 ∨ k = 4 ∨ k = 5 ∨ k = 6 ∨ k = 7 ∨ k = 8 ∨ k = 9 by omega) with e | e | e | e | e | e | e | e | e <;> subst e <;> decide
/-- the ballot at b, but for what is computed -/
def IsP (M : Mem) (b : Nat) (D : Bl) : Prop := IsBs M b ∧ (∀ j, j < 3 → mI M b j = D 0 j) ∧ Cn D ∧ ∀ k, 1 ≤ k → k < 10 → ∀ i, i < bsz D k → mI M (b + k) i = D k i
theorem IsP.bl (h : IsP M b D) : ∃ x y, IsB M b (rw_ D x y) := ⟨mI M (b + 10), mI M (b + 11), h.1, h.2.1, h.2.2.1, fun k z1 z2 i hi => by
  by_cases e : k < 10
  · rw [rw_ne e]; exact h.2.2.2 k z1 e i hi
  · rcases (show k = 10 ∨ k = 11 by omega) with e | e <;> subst e <;> rfl⟩
theorem IsB.pp (h : IsB M b D) : IsP M b D := ⟨h.1, h.2.1, h.2.2.1, fun k h1 h2 i hi => h.2.2.2 k h1 (by omega) i hi⟩
theorem IsP.nn (h : IsP M b D) : Cn D := h.2.2.1
theorem IsP.g0 (h : IsP M b D) : gFI M b 0 0 = some (Int32.ofNat (cn D 0)) := by rw [gFI_e h.1.1, h.2.1 0 (by omega), h.nn.1 0 (by omega)]
theorem IsP.g1 (h : IsP M b D) : gFI M b 0 1 = some (Int32.ofNat (cn D 1)) := by rw [gFI_e h.1.1, h.2.1 1 (by omega), h.nn.1 1 (by omega)]
theorem IsP.g2 (h : IsP M b D) : gFI M b 0 2 = some (Int32.ofNat (cn D 2)) := by rw [gFI_e h.1.1, h.2.1 2 (by omega), h.nn.1 2 (by omega)]
theorem IsP.fq {lo hi : Nat} (h : IsP M b D) (hF : Fq lo hi M M') (hb : b + 12 ≤ lo ∨ hi ≤ b) : IsP M' b D := ⟨h.1.fq hF hb, fun j hj => by rw [hF.i (by omega)]; exact h.2.1 j hj, h.2.2.1, fun k h1 h2 i hi => by rw [hF.i (by omega)]; exact h.2.2.2 k h1 h2 i hi⟩
theorem IsBs.e (h : IsBs M b) (hk : mK M' = mK M) (hr : mR M' = mR M) : IsBs M' b := ⟨by rw [hk]; exact h.1, fun k h1 h2 => by rw [hr, hk]; exact h.2 k h1 h2⟩
theorem IsP.ps (h : IsP M b D) (hl : Rm D c) (hk : mK M' = mK M) (hr : mR M' = mR M) (h0 : mI M' b c = Int32.ofNat (cn D c + 1)) (h1 : ∀ j, j ≠ c → mI M' b j = mI M b j) (h2 : ∀ k, 1 ≤ k → k < 10 → gk k = c → mI M' (b + k) (cn D c) = f k) (h3 : ∀ k i, 1 ≤ k → k < 10 → (gk k ≠ c ∨ i ≠ cn D c) → mI M' (b + k) i = mI M (b + k) i) : IsP M' b (ps D c f) := by
  have l := hl.l
  refine ⟨h.1.e hk hr, fun j hj => ?_, Cn_ps h.nn hl, fun k z1 z2 i hi => ?_⟩
  · by_cases e : j = c
    · rw [e, h0, ps_0c]
    · rw [h1 j e, ps_0n e]; exact h.2.1 j hj
  · have g3 := gk_3 z1 z2
    by_cases e : gk k = c ∧ i = cn D c
    · rw [e.2, h2 k z1 z2 e.1, ps_k z1 e.1]
    · have e2 : gk k ≠ c ∨ i ≠ cn D c := by
        by_cases y : gk k = c
        · exact Or.inr (fun w => e ⟨y, w⟩)
        · exact Or.inl y
      rw [h3 k i z1 z2 e2, ps_n z1 e2]
      refine h.2.2.2 k z1 z2 i ?_
      rw [bsz_g z1 z2] at hi ⊢
      by_cases y : k = 9
      · rw [if_pos y] at hi ⊢; exact hi
      · rw [if_neg y] at hi ⊢
        rw [cn_ps l.1] at hi
        by_cases w : gk k = c
        · rw [if_pos w] at hi
          rw [w]
          have : i ≠ cn D c := fun v => e ⟨w, v⟩
          omega
        · rw [if_neg w] at hi; exact hi
theorem IsP.s9 {k : Nat} (h : IsP M b D) (hk : k < 4) (v : Int32) : IsP (sI M (b + 9) k v) b (up D 9 k v) := by
  refine ⟨h.1, fun j hj => ?_, h.nn, fun k' z1 z2 i hi => ?_⟩
  · rw [i_sI, if_neg (by omega)]; exact h.2.1 j hj
  · have hi' : i < bsz D k' := hi
    have e := h.2.2.2 k' z1 z2 i hi'
    rw [i_sI]
    show _ = if k' = 9 ∧ i = k then v else D k' i
    by_cases y : k' = 9 ∧ i = k
    · rw [if_pos y, if_pos ⟨by rw [y.1], y.2⟩]
    · rw [if_neg y, if_neg (fun z => y ⟨by omega, z.2⟩)]; exact e
/-! what is read, plainly: an answer (an error's code, or not negative), the ballot, the settings given, where the token at hand was read from -/
abbrev Rs : Type := Int32 × Bl × Int32 × Nat
def dD (D : Bl) (w v : Int32) : Bl := ps D 0 (fun k => if k = 1 then w else v)
def dP (D : Bl) (w v s : Int32) : Bl := ps D 1 (fun k => if k = 3 then w else if k = 4 then v else s)
def dV (D : Bl) (w s a : Int32) : Bl := ps D 2 (fun k => if k = 6 then w else if k = 7 then s else a)
def sD2 (t : Nat → Int32) (n : Nat) (D : Bl) (g w v : Int32) (q : Nat) : Rs := if 0 ≤ v then (0, dD D w v, g, tE t n q) else (v, D, g, q)
def sD1 (t : Nat → Int32) (n : Nat) (D : Bl) (g w : Int32) (q : Nat) : Rs := if 0 ≤ w then sD2 t n D g w (nI_ t n 0 100000 (tE t n q)) (tE t n q) else (w, D, g, q)
def sD (t : Nat → Int32) (n : Nat) (D : Bl) (g : Int32) (p : Nat) : Rs := if cn D 0 < 4 then sD1 t n D g (nN t n D (tE t n p)) (tE t n p) else (-15, D, g, p)
def sJ3 (D : Bl) (g w v : Int32) (l : Int32 × Nat) : Rs := if 0 ≤ l.1 then (0, dP D w v l.1, g, l.2) else (l.1, D, g, l.2)
def sJ2 (t : Nat → Int32) (n : Nat) (D : Bl) (g w v : Int32) (q : Nat) : Rs := if 0 ≤ v then sJ3 D g w v (lst t n (D 1) (cn D 0) (cn D 0 + 1) 0 (tE t n q)) else (v, D, g, q)
def sJ1 (t : Nat → Int32) (n : Nat) (D : Bl) (g w : Int32) (q : Nat) : Rs := if 0 ≤ w then sJ2 t n D g w (nI_ t n 1 100000 (tE t n q)) (tE t n q) else (w, D, g, q)
def sJ (t : Nat → Int32) (n : Nat) (D : Bl) (g : Int32) (p : Nat) : Rs := if cn D 1 < 12 then sJ1 t n D g (nN t n D (tE t n p)) (tE t n p) else (-15, D, g, p)
def sV4 (D : Bl) (g w s : Int32) (l : Int32 × Nat) : Rs := if 0 ≤ l.1 then (0, dV D w s l.1, g, l.2) else (l.1, D, g, l.2)
def sV3 (t : Nat → Int32) (n : Nat) (D : Bl) (g w : Int32) (l : Int32 × Nat) : Rs := if 0 ≤ l.1 then (if tK t n l.2 = 9 then sV4 D g w l.1 (lst t n (D 3) (cn D 1) (cn D 1 + 1) 0 (tE t n l.2)) else sV4 D g w l.1 (0, l.2)) else (l.1, D, g, l.2)
def sV2 (t : Nat → Int32) (n : Nat) (D : Bl) (g w : Int32) (q : Nat) : Rs := if tK t n q = 8 then sV3 t n D g w (lst t n (D 1) (cn D 0) (cn D 0 + 1) 0 (tE t n q)) else (-11, D, g, q)
def sV1 (t : Nat → Int32) (n : Nat) (D : Bl) (g w : Int32) (q : Nat) : Rs := if 0 ≤ w then sV2 t n D g w (tE t n q) else (w, D, g, q)
def sV (t : Nat → Int32) (n : Nat) (D : Bl) (g : Int32) (p : Nat) : Rs := if cn D 2 < 24 then sV1 t n D g (nI_ t n 1 9 (tE t n p)) (tE t n p) else (-15, D, g, p)
def slo (k : Nat) : Nat := [0, 0, 1, 0].getD k 0
def shi (k : Nat) : Nat := [1, 2, 1000, 1].getD k 0
theorem slo_v : ∀ k, k < 4 → stv 1 k = Int32.ofNat (slo k) ∧ stv 2 k = Int32.ofNat (shi k) ∧ slo k ≤ 100000 ∧ shi k ≤ 100000 := by decide
def sS3 (t : Nat → Int32) (n : Nat) (D : Bl) (g : Int32) (k : Nat) (v : Int32) (q : Nat) : Rs := if 0 ≤ v then (0, up D 9 k v, g ||| ((1 : Int32) <<< (Int32.ofNat k &&& 31)), tE t n q) else (v, D, g, q)
def sS2 (t : Nat → Int32) (n : Nat) (D : Bl) (g : Int32) (k q : Nat) : Rs := if hs g (Int32.ofNat k) = true then (-14, D, g, q) else sS3 t n D g k (nI_ t n (slo k) (shi k) (tE t n q)) (tE t n q)
def sS (t : Nat → Int32) (n : Nat) (D : Bl) (g : Int32) (q : Nat) : Rs := if 11 ≤ tK t n q then sS2 t n D g (tK t n q - 11) q else (-11, D, g, q)
def stm (t : Nat → Int32) (n : Nat) (D : Bl) (g : Int32) (p : Nat) : Rs := if tK t n p = 5 then sD t n D g p else if tK t n p = 6 then sJ t n D g p else if tK t n p = 7 then sV t n D g p else if tK t n p = 10 then sS t n D g (tE t n p) else (-11, D, g, p)
/-- the whole text: f statements at most, k are read, the next token is read from p -/
def rd (t : Nat → Int32) (n : Nat) : Nat → Bl → Int32 → Nat → Nat → Int32 × Bl × Nat
  | 0, D, _, k, p => (Int32.ofNat k, D, p)
  | f + 1, D, g, k, p => if tK t n p = 0 then (Int32.ofNat k, D, p) else if 0 ≤ (stm t n D g p).1 then (if tK t n (stm t n D g p).2.2.2 = 3 then rd t n f (stm t n D g p).2.1 (stm t n D g p).2.2.1 (k + 1) (tE t n (stm t n D g p).2.2.2) else (-11, (stm t n D g p).2.1, (stm t n D g p).2.2.2)) else ((stm t n D g p).1, (stm t n D g p).2.1, (stm t n D g p).2.2.2)
theorem rd_s {f k : Nat} : rd t n (f + 1) D g k p = if tK t n p = 0 then (Int32.ofNat k, D, p) else if 0 ≤ (stm t n D g p).1 then (if tK t n (stm t n D g p).2.2.2 = 3 then rd t n f (stm t n D g p).2.1 (stm t n D g p).2.2.1 (k + 1) (tE t n (stm t n D g p).2.2.2) else (-11, (stm t n D g p).2.1, (stm t n D g p).2.2.2)) else ((stm t n D g p).1, (stm t n D g p).2.1, (stm t n D g p).2.2.2) := rfl
/-! where the text's reading stands never goes back -/
theorem tE_p (p : Nat) : p ≤ tE t n p := Nat.le_trans (tS_ge p) (tE_ge p)
theorem lst_p {r : Nat → Int32} {c : Nat} : ∀ f s q, q ≤ (lst t n r c f s q).2 := by
  intro f
  induction f with
  | zero => intro s q; exact Nat.le_refl _
  | succ f ih =>
    intro s q
    rw [lst_s]
    split
    · split
      · exact Nat.le_refl _
      · split
        · exact Nat.le_refl _
        · exact Nat.le_trans (tE_p q) (ih _ _)
    · exact Nat.le_refl _
theorem stm_p : p ≤ (stm t n D g p).2.2.2 := by
  have e1 := tE_p (t := t) (n := n) p
  have e2 := tE_p (t := t) (n := n) (tE t n p)
  have e3 := tE_p (t := t) (n := n) (tE t n (tE t n p))
  have hl : ∀ r c f s q, p ≤ q → p ≤ (lst t n r c f s q).2 := fun r c f s q h => Nat.le_trans h (lst_p f s q)
  unfold stm
  split
  · unfold sD
    split
    · unfold sD1
      split
      · unfold sD2
        split
        · show p ≤ tE t n (tE t n (tE t n p)); omega
        · show p ≤ tE t n (tE t n p); omega
      · exact e1
    · exact Nat.le_refl _
  · split
    · unfold sJ
      split
      · unfold sJ1
        split
        · unfold sJ2
          split
          · unfold sJ3
            split
            · exact hl _ _ _ _ _ (by omega)
            · exact hl _ _ _ _ _ (by omega)
          · show p ≤ tE t n (tE t n p); omega
        · exact e1
      · exact Nat.le_refl _
    · split
      · unfold sV
        split
        · unfold sV1
          split
          · unfold sV2
            split
            · have h3 := hl (D 1) (cn D 0) (cn D 0 + 1) 0 (tE t n (tE t n (tE t n p))) (by omega)
              have h4 := tE_p (t := t) (n := n) (lst t n (D 1) (cn D 0) (cn D 0 + 1) 0 (tE t n (tE t n (tE t n p)))).2
              unfold sV3
              split
              · split
                · unfold sV4
                  split
                  · exact hl _ _ _ _ _ (by omega)
                  · exact hl _ _ _ _ _ (by omega)
                · unfold sV4
                  split
                  · exact h3
                  · exact h3
              · exact h3
            · show p ≤ tE t n (tE t n p); omega
          · exact e1
        · exact Nat.le_refl _
      · split
        · unfold sS
          split
          · unfold sS2
            split
            · exact e1
            · unfold sS3
              split
              · show p ≤ tE t n (tE t n (tE t n p)); omega
              · show p ≤ tE t n (tE t n p); omega
          · exact e1
        · exact Nat.le_refl _
end
