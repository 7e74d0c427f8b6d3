/-! ===== level 2: what the terms' pieces come to ===== -/
section
variable {α β : Type}
theorem bs (x : α) (f : α → Option β) : (some x >>= f) = f x := rfl
theorem bsu (f : Unit → Option β) : (some () >>= f) = f () := rfl
theorem ib {c : Prop} [Decidable c] (x y : α) (f : α → Option β) : ((if c then some x else some y) >>= f) = f (if c then x else y) := by split <;> rfl
theorem is_ {c : Prop} [Decidable c] (x y : α) : (if c then some x else some y) = some (if c then x else y) := by split <;> rfl
theorem ltq (x : α) (f : α → β) : lt_ x f = f x := rfl
/-! booleans -/
theorem b2i_ite (b : Bool) {i : Decidable (b2i b = 0)} (x y : α) : @ite _ (b2i b = 0) i x y = if b = true then y else x := by
  cases b
  · exact if_pos (show b2i false = 0 from rfl)
  · exact if_neg (fun h => Bool.noConfusion (b2i_0.mp h))
theorem b2i_ite1 (b : Bool) {i : Decidable (b2i b = 1)} (x y : α) : @ite _ (b2i b = 1) i x y = if b = true then x else y := by
  cases b
  · exact if_neg (fun h => Bool.noConfusion (b2i_1.mp h))
  · exact if_pos (show b2i true = 1 from rfl)
theorem b2i_10 {c : Prop} [Decidable c] : (if c then (1 : Int32) else 0) = b2i (decide c) := by by_cases h : c <;> simp [h, b2i]
theorem b2i_01 {c : Prop} [Decidable c] : (if c then (0 : Int32) else 1) = b2i (!decide c) := by by_cases h : c <;> simp [h, b2i]
theorem b2i_0b {c : Prop} [Decidable c] (b : Bool) : (if c then (0 : Int32) else b2i b) = b2i (!decide c && b) := by by_cases h : c <;> simp [h, b2i]
theorem b2i_1b {c : Prop} [Decidable c] (b : Bool) : (if c then (1 : Int32) else b2i b) = b2i (decide c || b) := by by_cases h : c <;> simp [h, b2i]
theorem b2i_b0 {c : Prop} [Decidable c] (b : Bool) : (if c then b2i b else (0 : Int32)) = b2i (decide c && b) := by by_cases h : c <;> simp [h, b2i]
theorem b2i_b1 {c : Prop} [Decidable c] (b : Bool) : (if c then b2i b else (1 : Int32)) = b2i (!decide c || b) := by by_cases h : c <;> simp [h, b2i]
theorem b2i_bb {c : Prop} [Decidable c] (a b : Bool) : (if c then b2i a else b2i b) = b2i (if c then a else b) := by split <;> rfl
theorem isBb (b : Bool) : isB (b2i b) = some (b2i b) := by cases b <;> rfl
theorem isB1 : isB 1 = some (b2i true) := rfl
theorem isB0 : isB 0 = some (b2i false) := rfl
/-! kinds -/
theorem ck_e {M : Mem} {a ci : Nat} (h : (mK M a).1 = ci) : ck M a ci = some () := if_pos h
theorem gFI_e {M : Mem} {a ci j : Nat} (h : (mK M a).1 = ci) : gFI M a ci j = some (mI M a j) := if_pos h
theorem gFL_e {M : Mem} {a ci j : Nat} (h : (mK M a).1 = ci) : gFL M a ci j = some (mL M a j) := if_pos h
theorem gFR_e {M : Mem} {a ci j r : Nat} (h : (mK M a).1 = ci) (hr : mR M a j = some r) : gFR M a ci j = some r := by unfold gFR; rw [if_pos h, hr]
theorem pFI_e {M : Mem} {a ci j : Nat} {x : Int32} (h : (mK M a).1 = ci) : pFI M a ci j x = some (sI M a j x) := if_pos h
theorem pFL_e {M : Mem} {a ci j : Nat} {x : Int64} (h : (mK M a).1 = ci) : pFL M a ci j x = some (sL M a j x) := if_pos h
theorem pFR_e {M : Mem} {a ci j x : Nat} (h : (mK M a).1 = ci) : pFR M a ci j x = some (sR M a j x) := if_pos h
theorem vin_e {i n : Nat} (hi : i < n) (hn : n < 2147483648) : ¬ (Int32.ofNat i < 0 ∨ n ≤ (Int32.ofNat i).toNatClampNeg) := by
  rw [i_idx (by omega)]
  intro z
  rcases z with z | z
  · exact i_pos (by omega) z
  · omega
theorem aI_e {M : Mem} {a c n i : Nat} (hk : mK M a = (c, n)) (hc : c = 20 ∨ c = 25) (hi : i < n) (hn : n < 2147483648) : aI M a (Int32.ofNat i) = some (mI M a i) := by
  unfold aI
  rw [hk, if_pos hc, if_neg (vin_e hi hn), i_idx (by omega)]
theorem aB_e {M : Mem} {a n i : Nat} (hk : mK M a = (21, n)) (hi : i < n) (hn : n < 2147483648) : aB M a (Int32.ofNat i) = some (mI M a i) := by
  unfold aB
  rw [hk, if_pos rfl, if_neg (vin_e hi hn), i_idx (by omega)]
theorem aL_e {M : Mem} {a n i : Nat} (hk : mK M a = (22, n)) (hi : i < n) (hn : n < 2147483648) : aL M a (Int32.ofNat i) = some (mL M a i) := by
  unfold aL
  rw [hk, if_pos rfl, if_neg (vin_e hi hn), i_idx (by omega)]
theorem aR_e {M : Mem} {a n i r : Nat} (hk : mK M a = (23, n)) (hi : i < n) (hn : n < 2147483648) (hr : mR M a i = some r) : aR M a (Int32.ofNat i) = some r := by
  unfold aR
  rw [hk, if_pos rfl, if_neg (vin_e hi hn), i_idx (by omega), hr]
theorem wI_e {M : Mem} {a n i : Nat} {x : Int32} (hk : mK M a = (20, n)) (hi : i < n) (hn : n < 2147483648) : wI M a (Int32.ofNat i) x = some (sI M a i x) := by
  unfold wI
  rw [hk, if_pos rfl, if_neg (vin_e hi hn), i_idx (by omega)]
theorem wB_e {M : Mem} {a n i : Nat} {x : Int32} (hk : mK M a = (21, n)) (hi : i < n) (hn : n < 2147483648) : wB M a (Int32.ofNat i) x = some (sI M a i x.toInt8.toInt32) := by
  unfold wB
  rw [hk, if_pos rfl, if_neg (vin_e hi hn), i_idx (by omega)]
theorem wL_e {M : Mem} {a n i : Nat} {x : Int64} (hk : mK M a = (22, n)) (hi : i < n) (hn : n < 2147483648) : wL M a (Int32.ofNat i) x = some (sL M a i x) := by
  unfold wL
  rw [hk, if_pos rfl, if_neg (vin_e hi hn), i_idx (by omega)]
theorem aN_e {M : Mem} {a c n : Nat} (hk : mK M a = (c, n)) (hc : c = 20 ∨ c = 25) : aN M a = some (Int32.ofNat n) := by
  unfold aN
  rw [hk, if_pos hc]
theorem cpI_e {M : Mem} {a b c n m sp dp k : Nat} (hk : mK M a = (c, n)) (hc : c = 20 ∨ c = 25) (hk2 : mK M b = (20, m)) (h1 : sp + k ≤ n) (h2 : dp + k ≤ m) (hn : n < 2147483648) (hm : m < 2147483648) : cpI M a (Int32.ofNat sp) b (Int32.ofNat dp) (Int32.ofNat k) = some (sC M a sp b dp k) := by
  unfold cpI
  rw [hk, hk2, if_pos ⟨hc, rfl⟩, i_idx (by omega), i_idx (by omega), i_idx (by omega), if_neg]
  intro z
  rcases z with z | z | z | z | z
  · exact i_pos (by omega) z
  · exact i_pos (by omega) z
  · exact i_pos (by omega) z
  · omega
  · omega
/-! what writes leave -/
theorem k_sI {M : Mem} {a j : Nat} {x : Int32} : mK (sI M a j x) = mK M := rfl
theorem r_sI {M : Mem} {a j : Nat} {x : Int32} : mR (sI M a j x) = mR M := rfl
theorem l_sI {M : Mem} {a j : Nat} {x : Int32} : mL (sI M a j x) = mL M := rfl
theorem n_sI {M : Mem} {a j : Nat} {x : Int32} : mN (sI M a j x) = mN M := rfl
theorem i_sI {M : Mem} {a j : Nat} {x : Int32} (b k : Nat) : mI (sI M a j x) b k = if b = a ∧ k = j then x else mI M b k := rfl
theorem k_sL {M : Mem} {a j : Nat} {x : Int64} : mK (sL M a j x) = mK M := rfl
theorem r_sL {M : Mem} {a j : Nat} {x : Int64} : mR (sL M a j x) = mR M := rfl
theorem i_sL {M : Mem} {a j : Nat} {x : Int64} : mI (sL M a j x) = mI M := rfl
theorem n_sL {M : Mem} {a j : Nat} {x : Int64} : mN (sL M a j x) = mN M := rfl
theorem l_sL {M : Mem} {a j : Nat} {x : Int64} (b k : Nat) : mL (sL M a j x) b k = if b = a ∧ k = j then x else mL M b k := rfl
theorem k_sR {M : Mem} {a j x : Nat} : mK (sR M a j x) = mK M := rfl
theorem i_sR {M : Mem} {a j x : Nat} : mI (sR M a j x) = mI M := rfl
theorem l_sR {M : Mem} {a j x : Nat} : mL (sR M a j x) = mL M := rfl
theorem n_sR {M : Mem} {a j x : Nat} : mN (sR M a j x) = mN M := rfl
theorem r_sR {M : Mem} {a j x : Nat} (b k : Nat) : mR (sR M a j x) b k = if b = a ∧ k = j then some x else mR M b k := rfl
theorem k_sC {M : Mem} {a sp b dp n : Nat} : mK (sC M a sp b dp n) = mK M := rfl
theorem r_sC {M : Mem} {a sp b dp n : Nat} : mR (sC M a sp b dp n) = mR M := rfl
theorem l_sC {M : Mem} {a sp b dp n : Nat} : mL (sC M a sp b dp n) = mL M := rfl
theorem n_sC {M : Mem} {a sp b dp n : Nat} : mN (sC M a sp b dp n) = mN M := rfl
theorem i_sC {M : Mem} {a sp b dp n : Nat} (q k : Nat) : mI (sC M a sp b dp n) q k = if q = b ∧ dp ≤ k ∧ k < dp + n then mI M a (sp + (k - dp)) else mI M q k := rfl
/-! what is outside a range of addresses stays -/
def Fq (lo hi : Nat) (M M' : Mem) : Prop := mK M' = mK M ∧ mN M' = mN M ∧ ∀ a, (a < lo ∨ hi ≤ a) → mI M' a = mI M a ∧ mL M' a = mL M a ∧ mR M' a = mR M a
theorem Fq.rf {lo hi : Nat} {M : Mem} : Fq lo hi M M := ⟨rfl, rfl, fun _ _ => ⟨rfl, rfl, rfl⟩⟩
theorem Fq.trans {lo hi : Nat} {M M1 M2 : Mem} (h1 : Fq lo hi M M1) (h2 : Fq lo hi M1 M2) : Fq lo hi M M2 := ⟨h2.1.trans h1.1, h2.2.1.trans h1.2.1, fun a ha => ⟨(h2.2.2 a ha).1.trans (h1.2.2 a ha).1, (h2.2.2 a ha).2.1.trans (h1.2.2 a ha).2.1, (h2.2.2 a ha).2.2.trans (h1.2.2 a ha).2.2⟩⟩
theorem Fq.wide {lo hi lo' hi' : Nat} {M M' : Mem} (h : Fq lo hi M M') (h1 : lo' ≤ lo) (h2 : hi ≤ hi') : Fq lo' hi' M M' := ⟨h.1, h.2.1, fun a ha => h.2.2 a (by omega)⟩
theorem Fq.sI {lo hi : Nat} {M : Mem} {a j : Nat} {x : Int32} (h : lo ≤ a ∧ a < hi) : Fq lo hi M (sI M a j x) := ⟨rfl, rfl, fun b hb => ⟨by
  funext k
  rw [i_sI, if_neg (by omega)], rfl, rfl⟩⟩
theorem Fq.sL {lo hi : Nat} {M : Mem} {a j : Nat} {x : Int64} (h : lo ≤ a ∧ a < hi) : Fq lo hi M (sL M a j x) := ⟨rfl, rfl, fun b hb => ⟨rfl, by
  funext k
  rw [l_sL, if_neg (by omega)], rfl⟩⟩
theorem Fq.sR {lo hi : Nat} {M : Mem} {a j x : Nat} (h : lo ≤ a ∧ a < hi) : Fq lo hi M (sR M a j x) := ⟨rfl, rfl, fun b hb => ⟨rfl, rfl, by
  funext k
  rw [r_sR, if_neg (by omega)]⟩⟩
theorem Fq.sC {lo hi : Nat} {M : Mem} {a sp b dp n : Nat} (h : lo ≤ b ∧ b < hi) : Fq lo hi M (sC M a sp b dp n) := ⟨rfl, rfl, fun q hq => ⟨by
  funext k
  rw [i_sC, if_neg (by omega)], rfl, rfl⟩⟩
theorem Fq.i {lo hi : Nat} {M M' : Mem} (h : Fq lo hi M M') {a : Nat} (ha : a < lo ∨ hi ≤ a) (j : Nat) : mI M' a j = mI M a j := congrFun (h.2.2 a ha).1 j
theorem Fq.l {lo hi : Nat} {M M' : Mem} (h : Fq lo hi M M') {a : Nat} (ha : a < lo ∨ hi ≤ a) (j : Nat) : mL M' a j = mL M a j := congrFun (h.2.2 a ha).2.1 j
theorem Fq.r {lo hi : Nat} {M M' : Mem} (h : Fq lo hi M M') {a : Nat} (ha : a < lo ∨ hi ≤ a) (j : Nat) : mR M' a j = mR M a j := congrFun (h.2.2 a ha).2.2 j
/-! counting -/
theorem i_add (a b : Nat) : Int32.ofNat a + Int32.ofNat b = Int32.ofNat (a + b) := (Int32.ofNat_add a b).symm
theorem i_mul (a b : Nat) : Int32.ofNat a * Int32.ofNat b = Int32.ofNat (a * b) := (Int32.ofNat_mul a b).symm
theorem ile_n {n i : Nat} (hi : i < n) (hn : n < 2147483648) (x y : α) : (if Int32.ofNat n ≤ Int32.ofNat i then x else y) = y := if_neg (by rw [i_le hn (by omega)]; omega)
theorem ile_e (n : Nat) (x y : α) : (if Int32.ofNat n ≤ Int32.ofNat n then x else y) = x := if_pos (Int32.le_refl _)
theorem i_inj {a b : Nat} (ha : a < 2147483648) (hb : b < 2147483648) : (Int32.ofNat a = Int32.ofNat b) ↔ a = b := ⟨fun h => by
  have h2 := congrArg Int32.toNatClampNeg h
  rw [i_idx ha, i_idx hb] at h2
  exact h2, fun h => by rw [h]⟩
/-- counting loops over pairs of a value and the number -/
theorem it_c {σ : Type} {F : (σ × Int32 → Option α) → σ × Int32 → Option α} {k : σ → Option α} (n : Nat) (g : Nat → σ → σ) (s0 : σ) (hn : n < 1000000) (hs : ∀ (rec : σ × Int32 → Option α) (i : Nat), i < n → F rec (fo g i s0, Int32.ofNat i) = rec (fo g (i + 1) s0, Int32.ofNat (i + 1))) (he : ∀ rec : σ × Int32 → Option α, F rec (fo g n s0, Int32.ofNat n) = k (fo g n s0)) : it_ F FU (s0, 0) = k (fo g n s0) :=
  it_eq (st := fun i => (fo g i s0, Int32.ofNat i)) n rfl hn hs he
/-- sums -/
def sm (n : Nat) (f : Nat → Int32) : Int32 := fo (fun i a => a + f i) n 0
theorem sm_s (n : Nat) (f : Nat → Int32) : sm (n + 1) f = sm n f + f n := rfl
theorem it_s {F : (Int32 × Int32 → Option α) → Int32 × Int32 → Option α} {k : Int32 → Option α} (n : Nat) (f : Nat → Int32) (hn : n < 1000000) (hs : ∀ (rec : Int32 × Int32 → Option α) (i : Nat) (a : Int32), i < n → F rec (a, Int32.ofNat i) = rec (a + f i, Int32.ofNat (i + 1))) (he : ∀ (rec : Int32 × Int32 → Option α) (a : Int32), F rec (a, Int32.ofNat n) = k a) : it_ F FU (0, 0) = k (sm n f) :=
  it_c n _ 0 hn (fun rec i hi => hs rec i _ hi) (fun rec => he rec _)
theorem add_ite (c : Prop) [Decidable c] (a x : Int32) : (if c then a + x else a) = a + if c then x else 0 := by split <;> simp
theorem sm_c {n : Nat} {f g : Nat → Int32} (h : ∀ i, i < n → f i = g i) : sm n f = sm n g := by
  induction n with
  | zero => rfl
  | succ n ih => rw [sm_s, sm_s, ih (fun i hi => h i (by omega)), h n (by omega)]
/-- a loop over a memory: an invariant -/
theorem it_r {σ : Type} {F : (σ → Option α) → σ → Option α} {P : α → Prop} (I : Nat → σ → Prop) (n : Nat) {x0 : σ} (h0 : I 0 x0) (hn : n < 1000000) (hs : ∀ (rec : σ → Option α) (i : Nat) (x : σ), i < n → I i x → (∀ y, I (i + 1) y → ok (rec y) P) → ok (F rec x) P) (he : ∀ (rec : σ → Option α) (x : σ), I n x → ok (F rec x) P) : ok (it_ F FU x0) P := by
  have key : ∀ (q i : Nat) (x : σ), i ≤ n → n - i < q → I i x → ok (it_ F q x) P := by
    intro q
    induction q with
    | zero => intro i x _ h; exact absurd h (Nat.not_lt_zero _)
    | succ q ih =>
      intro i x hi h hx
      show ok (F (it_ F q) x) P
      by_cases e : i = n
      · subst e; exact he _ x hx
      · exact hs _ i x (by omega) hx (fun y hy => ih (i + 1) y (by omega) (by omega) hy)
  exact key FU 0 x0 (Nat.zero_le _) (by rw [FU_eq]; omega) h0
end
