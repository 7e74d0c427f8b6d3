/-! ===== paying for a project ===== -/
section
def mi (x y : Int32) : Int32 := if x < y then x else y
/-- what is still due ahead of district d, and what is taken from it -/
def du (area : Int32) (h : Nat → Int32) (a : Int32) (d : Nat) : Int32 := fo (fun d a => if hs area (Int32.ofNat d) = true then a - mi (h d) a else a) d a
def pt (area : Int32) (h : Nat → Int32) (a : Int32) (d : Nat) : Int32 := if hs area (Int32.ofNat d) = true then mi (h d) (du area h a d) else 0
theorem fo_0 {σ : Type} (f : Nat → σ → σ) (s : σ) : fo f 0 s = s := rfl
theorem du_s (area : Int32) (h : Nat → Int32) (a : Int32) (d : Nat) : du area h a (d + 1) = du area h a d - pt area h a d := by
  show (if hs area (Int32.ofNat d) = true then du area h a d - mi (h d) (du area h a d) else du area h a d) = _
  unfold pt
  split
  · rfl
  · rw [Int32.sub_zero]
theorem du_c {area a : Int32} {h h' : Nat → Int32} {n : Nat} (hh : ∀ d, d < n → h d = h' d) (hA : ∀ d, n ≤ d → d < 32 → hs area (Int32.ofNat d) = false) : ∀ d, d ≤ 32 → du area h a d = du area h' a d := by
  intro d
  induction d with
  | zero => intro _; unfold du; rw [fo_0, fo_0]
  | succ d ih =>
    intro hd
    have ih := ih (by omega)
    show (if hs area (Int32.ofNat d) = true then du area h a d - mi (h d) (du area h a d) else du area h a d) = (if hs area (Int32.ofNat d) = true then du area h' a d - mi (h' d) (du area h' a d) else du area h' a d)
    by_cases e : d < n
    · rw [ih, hh d e]
    · rw [hA d (by omega) (by omega), ih]; simp only [Bool.false_eq_true, if_false]
theorem pt_c {area a : Int32} {h h' : Nat → Int32} {n : Nat} (hh : ∀ d, d < n → h d = h' d) (hA : ∀ d, n ≤ d → d < 32 → hs area (Int32.ofNat d) = false) {d : Nat} (hd : d < 32) : pt area h a d = pt area h' a d := by
  unfold pt
  by_cases e : d < n
  · rw [du_c hh hA d (by omega), hh d e]
  · rw [hA d (by omega) hd]; simp only [Bool.false_eq_true, if_false]
theorem fo_sm (f : Nat → Int32) (n : Nat) (x : Int32) : fo (fun v a => a + f v) n x = x + sm n f := by
  induction n with
  | zero => show x = x + 0; rw [Int32.add_zero]
  | succ n ih => show fo _ n x + f n = _; rw [ih, sm_s, Int32.add_assoc]
theorem sm_front (n : Nat) (f : Nat → Int32) : sm (n + 1) f = f 0 + sm n (fun i => f (i + 1)) := by
  induction n with
  | zero => show 0 + f 0 = f 0 + 0; rw [Int32.zero_add, Int32.add_zero]
  | succ n ih => rw [sm_s, ih, sm_s, Int32.add_assoc]
theorem sm_rev (n : Nat) (f : Nat → Int32) : sm n (fun k => f (n - 1 - k)) = sm n f := by
  induction n generalizing f with
  | zero => rfl
  | succ n ih =>
    rw [sm_s, show n + 1 - 1 - n = 0 by omega, sm_front, Int32.add_comm, ← ih (fun i => f (i + 1))]
    congr 1
    exact sm_c fun i hi => by congr 1; omega
def shr (D : Bl) (H : Nat → Nat → Int32) (p : Nat) (q : Int32) (v : Nat) : Int32 := mi (q * stk D p v) (amn D H p v)
def les (D : Bl) (H : Nat → Nat → Int32) (p : Nat) (q : Int32) (v : Nat) (e : Int32) : Int32 := mi (shr D H p q v - shr D H p (q - 1) v) e
def ex0 (D : Bl) (H : Nat → Nat → Int32) (p : Nat) (q : Int32) : Int32 := sm (cn D 2) (shr D H p q) - D 4 p
/-- the excess behind the last j voters -/
def exc (D : Bl) (H : Nat → Nat → Int32) (p : Nat) (q : Int32) (j : Nat) : Int32 := fo (fun j e => e - les D H p q (cn D 2 - 1 - j) e) j (ex0 D H p q)
def amt (D : Bl) (H : Nat → Nat → Int32) (p : Nat) (q : Int32) (v : Nat) : Int32 := shr D H p q v - les D H p q v (exc D H p q (cn D 2 - 1 - v))
def ptd (D : Bl) (H : Nat → Nat → Int32) (p : Nat) (q : Int32) (v d : Nat) : Int32 := pt (D 5 p) (H v) (amt D H p q v) d
/-- the state of the rounds: purses, payments, takings, the order, how many, which -/
abbrev Rst : Type := (Nat → Nat → Int32) × (Nat → Nat → Int32) × (Nat → Nat → Int32) × (Nat → Int32) × Nat × Int32
def sH (s : Rst) : Nat → Nat → Int32 := s.1
def sP (s : Rst) : Nat → Nat → Int32 := s.2.1
def sT (s : Rst) : Nat → Nat → Int32 := s.2.2.1
def sQ (s : Rst) : Nat → Int32 := s.2.2.2.1
def sc (s : Rst) : Nat := s.2.2.2.2.1
def sh_ (s : Rst) : Int32 := s.2.2.2.2.2
def fu (D : Bl) (s : Rst) (p : Nat) (q : Int32) : Rst := (fun v d => sH s v d - ptd D (sH s) p q v d, fun o v => if o = p then amt D (sH s) p q v else sP s o v, fun o d => if o = p then sT s p d + sm (cn D 2) (fun v => ptd D (sH s) p q v d) else sT s o d, fun k => if k = sc s then Int32.ofNat p else sQ s k, sc s + 1, sh_ s ||| bt p)
/-- the class's Rounds hold a state -/
def RC (M : Mem) (r : Nat) (D : Bl) (s : Rst) : Prop := (∀ v, v < cn D 2 → ∀ d, d < cn D 0 → mI M (r + 2 + v) d = sH s v d) ∧ (∀ p, p < 12 → ∀ v, v < cn D 2 → mI M (r + 27 + p) v = sP s p v) ∧ (∀ p, p < 12 → ∀ d, d < 4 → mI M (r + 40 + p) d = sT s p d) ∧ (∀ k, k < sc s → mI M (r + 65) k = sQ s k) ∧ mI M r 7 = Int32.ofNat (sc s) ∧ mI M r 8 = sh_ s
variable {M : Mem} {r b : Nat} {D : Bl}
/-- one voter pays -/
def payF (M : Mem) (r p v : Nat) (area a : Int32) (n : Nat) : Nat → Nat → Int32 := fun x j => if x = r + 27 + p ∧ j = v then a else if x = r + 2 + v ∧ j < n then mI M x j - pt area (mI M (r + 2 + v)) a j else if x = r + 40 + p ∧ j < n then mI M x j + pt area (mI M (r + 2 + v)) a j else mI M x j
theorem f_pay (h : IsRs M r) {p v : Nat} (hp : p < 12) (hv : v < 24) (area a : Int32) : f_X6_pay M r (Int32.ofNat p) (Int32.ofNat v) area a = some (sW M (payF M r p v area a 4)) := by
  unfold f_X6_pay
  simp only [h.r1, bs, h.q1 hp, h.w1 hp hv]
  refine it_eq (st := fun d => (du area (mI M (r + 2 + v)) a d, Int32.ofNat d, sW M (payF M r p v area a d))) 4 ?_ (by omega) (fun rec d hd => ?_) (fun rec => ?_)
  · show (a, (0 : Int32), _) = (a, Int32.ofNat 0, _)
    congr 2
    rw [sI_W]
    congr 1
    funext x j
    unfold up2 payF
    by_cases e : x = r + 27 + p ∧ j = v
    · rw [if_pos e, if_pos e]
    · rw [if_neg e, if_neg e, if_neg (by omega), if_neg (by omega)]
  · have h1 : IsRs (sW M (payF M r p v area a d)) r := h.e rfl rfl
    have e0 : mI (sW M (payF M r p v area a d)) (r + 2 + v) d = mI M (r + 2 + v) d := by
      show payF M r p v area a d (r + 2 + v) d = _
      unfold payF
      rw [if_neg (by omega), if_neg (by omega), if_neg (by omega)]
    unfold bd_X6_pay_17
    simp only [show (4 : Int32) = Int32.ofNat 4 from rfl, ile_n hd (show 4 < 2147483648 by omega), f_has8, bs, b2i_ite, h1.r0, h1.q0 hv, h1.a0 hv hd, e0, ltq, i_succ]
    rw [show (if mI M (r + 2 + v) d < du area (mI M (r + 2 + v)) a d then mI M (r + 2 + v) d else du area (mI M (r + 2 + v)) a d) = mi (mI M (r + 2 + v) d) (du area (mI M (r + 2 + v)) a d) from rfl]
    rw [h1.w0 hv hd]
    have h2 : IsRs (sI (sW M (payF M r p v area a d)) (r + 2 + v) d (mI M (r + 2 + v) d - mi (mI M (r + 2 + v) d) (du area (mI M (r + 2 + v)) a d))) r := h1
    have e2 : mI (sI (sW M (payF M r p v area a d)) (r + 2 + v) d (mI M (r + 2 + v) d - mi (mI M (r + 2 + v) d) (du area (mI M (r + 2 + v)) a d))) (r + 40 + p) d = mI M (r + 40 + p) d := by
      rw [i_sI, if_neg (by omega)]
      show payF M r p v area a d (r + 40 + p) d = _
      unfold payF
      rw [if_neg (by omega), if_neg (by omega), if_neg (by omega)]
    simp only [bs, h2.r2, h2.q2 hp, h2.a2 hp hd, h2.w2 hp hd, e2, is_]
    by_cases hc : hs area (Int32.ofNat d) = true
    · have ep : pt area (mI M (r + 2 + v)) a d = mi (mI M (r + 2 + v) d) (du area (mI M (r + 2 + v)) a d) := by unfold pt; rw [if_pos hc]
      rw [if_pos hc, du_s, ← ep]
      refine congrArg rec (Prod.ext rfl (Prod.ext rfl ?_))
      show sW M _ = sW M _
      refine congrArg (sW M) ?_
      funext x j
      show (if x = r + 40 + p ∧ j = d then mI M (r + 40 + p) d + pt area (mI M (r + 2 + v)) a d else if x = r + 2 + v ∧ j = d then mI M (r + 2 + v) d - pt area (mI M (r + 2 + v)) a d else payF M r p v area a d x j) = payF M r p v area a (d + 1) x j
      unfold payF
      by_cases c1 : x = r + 40 + p ∧ j = d
      · rw [if_pos c1, if_neg (show ¬ (x = r + 27 + p ∧ j = v) by omega), if_neg (show ¬ (x = r + 2 + v ∧ j < d + 1) by omega), if_pos (show x = r + 40 + p ∧ j < d + 1 by omega), c1.1, c1.2]
      · rw [if_neg c1]
        by_cases c2 : x = r + 2 + v ∧ j = d
        · rw [if_pos c2, if_neg (show ¬ (x = r + 27 + p ∧ j = v) by omega), if_pos (show x = r + 2 + v ∧ j < d + 1 by omega), c2.1, c2.2]
        · rw [if_neg c2]
          by_cases c3 : x = r + 27 + p ∧ j = v
          · rw [if_pos c3, if_pos c3]
          · rw [if_neg c3, if_neg c3]
            by_cases c4 : x = r + 2 + v ∧ j < d
            · rw [if_pos c4, if_pos (show x = r + 2 + v ∧ j < d + 1 by omega)]
            · rw [if_neg c4, if_neg (show ¬ (x = r + 2 + v ∧ j < d + 1) by omega)]
              by_cases c5 : x = r + 40 + p ∧ j < d
              · rw [if_pos c5, if_pos (show x = r + 40 + p ∧ j < d + 1 by omega)]
              · rw [if_neg c5, if_neg (show ¬ (x = r + 40 + p ∧ j < d + 1) by omega)]
    · have ep : pt area (mI M (r + 2 + v)) a d = 0 := by unfold pt; rw [if_neg hc]
      rw [if_neg hc, du_s, ep, Int32.sub_zero]
      refine congrArg rec (Prod.ext rfl (Prod.ext rfl ?_))
      show sW M _ = sW M _
      refine congrArg (sW M) ?_
      funext x j
      unfold payF
      by_cases c3 : x = r + 27 + p ∧ j = v
      · rw [if_pos c3, if_pos c3]
      · rw [if_neg c3, if_neg c3]
        by_cases c4 : x = r + 2 + v ∧ j < d + 1
        · by_cases c5 : j = d
          · rw [if_pos c4, if_neg (show ¬ (x = r + 2 + v ∧ j < d) by omega), if_neg (show ¬ (x = r + 40 + p ∧ j < d) by omega), c5, ep, Int32.sub_zero]
          · rw [if_pos c4, if_pos (show x = r + 2 + v ∧ j < d by omega)]
        · rw [if_neg c4, if_neg (show ¬ (x = r + 2 + v ∧ j < d) by omega)]
          by_cases c6 : x = r + 40 + p ∧ j < d + 1
          · by_cases c5 : j = d
            · rw [if_pos c6, if_neg (show ¬ (x = r + 40 + p ∧ j < d) by omega), c5, ep, Int32.add_zero]
            · rw [if_pos c6, if_pos (show x = r + 40 + p ∧ j < d by omega)]
          · rw [if_neg c6, if_neg (show ¬ (x = r + 40 + p ∧ j < d) by omega)]
  · unfold bd_X6_pay_17
    simp only [show (4 : Int32) = Int32.ofNat 4 from rfl, ile_e]
end
