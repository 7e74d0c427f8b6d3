/-! ===== the class's objects made ===== -/
section
variable {M M' : Mem} {a : Nat} {D : Bl}
theorem IsRs.x (h : IsRs M a) (hk : ∀ b, a ≤ b → b < a + 68 → mK M' b = mK M b) (hr : ∀ b, a ≤ b → b < a + 68 → ∀ j, mR M' b j = mR M b j) : IsRs M' a := by
  obtain ⟨h1, ⟨a0, a1, a2, a3, a4, a5, a6⟩, ⟨k0, k1, k2, k3⟩, ⟨k4, k5, k6⟩, hv, hp⟩ := h
  refine ⟨by rw [hk _ (by omega) (by omega)]; exact h1, ⟨by rw [hr _ (by omega) (by omega)]; exact a0, by rw [hr _ (by omega) (by omega)]; exact a1, by rw [hr _ (by omega) (by omega)]; exact a2, by rw [hr _ (by omega) (by omega)]; exact a3, by rw [hr _ (by omega) (by omega)]; exact a4, by rw [hr _ (by omega) (by omega)]; exact a5, by rw [hr _ (by omega) (by omega)]; exact a6⟩, ⟨by rw [hk _ (by omega) (by omega)]; exact k0, by rw [hk _ (by omega) (by omega)]; exact k1, by rw [hk _ (by omega) (by omega)]; exact k2, by rw [hk _ (by omega) (by omega)]; exact k3⟩, ⟨by rw [hk _ (by omega) (by omega)]; exact k4, by rw [hk _ (by omega) (by omega)]; exact k5, by rw [hk _ (by omega) (by omega)]; exact k6⟩, fun v hv2 => ⟨by rw [hr _ (by omega) (by omega)]; exact (hv v hv2).1, by rw [hk _ (by omega) (by omega)]; exact (hv v hv2).2⟩, fun p hp2 => ⟨⟨?_, ?_⟩, ⟨?_, ?_⟩, ?_, ?_⟩⟩
  · rw [hr _ (by omega) (by omega)]; exact (hp p hp2).1.1
  · rw [hk _ (by omega) (by omega)]; exact (hp p hp2).1.2
  · rw [hr _ (by omega) (by omega)]; exact (hp p hp2).2.1.1
  · rw [hk _ (by omega) (by omega)]; exact (hp p hp2).2.1.2
  · rw [hr _ (by omega) (by omega)]; exact (hp p hp2).2.2.1
  · rw [hk _ (by omega) (by omega)]; exact (hp p hp2).2.2.2
theorem IsEq.x {ra rb : Nat} (h : IsEq M a ra rb) (hk : ∀ b, a ≤ b → b < a + 154 → mK M' b = mK M b) (hr : ∀ b, a ≤ b → b < a + 154 → ∀ j, mR M' b j = mR M b j) : IsEq M' a ra rb := by
  obtain ⟨h1, ⟨a0, a1, a2, a3⟩, k, r1, r2, g, z⟩ := h
  exact ⟨by rw [hk _ (by omega) (by omega)]; exact h1, ⟨by rw [hr _ (by omega) (by omega)]; exact a0, by rw [hr _ (by omega) (by omega)]; exact a1, by rw [hr _ (by omega) (by omega)]; exact a2, by rw [hr _ (by omega) (by omega)]; exact a3⟩, by rw [hk _ (by omega) (by omega)]; exact k, r1.x (fun b h1 h2 => hk b (by omega) (by omega)) (fun b h1 h2 => hr b (by omega) (by omega)), r2.x (fun b h1 h2 => hk b (by omega) (by omega)) (fun b h1 h2 => hr b (by omega) (by omega)), g.x (fun b h1 h2 => hk b (by omega) (by omega)) (fun b h1 h2 => hr b (by omega) (by omega)), z⟩
theorem IsB.x (h : IsB M a D) (hk : ∀ b, a ≤ b → b < a + 12 → mK M' b = mK M b) (hr : ∀ b, a ≤ b → b < a + 12 → ∀ j, mR M' b j = mR M b j) (hi : ∀ b, a ≤ b → b < a + 12 → ∀ j, mI M' b j = mI M b j) : IsB M' a D := ⟨h.1.x hk hr, fun j hj => by rw [hi _ (by omega) (by omega)]; exact h.2.1 j hj, h.2.2.1, fun k h1 h2 i h3 => by rw [hi _ (by omega) (by omega)]; exact h.2.2.2 k h1 h2 i h3⟩
theorem Sta.x {lim : Nat} (h : Sta M lim) (hs : ∀ b, b < lim → mK M' b = mK M b ∧ ∀ i, mI M' b i = mI M b i ∧ mR M' b i = mR M b i) : Sta M' lim := by
  have e : ∀ j, mR M' 0 j = mR M 0 j := fun j => ((hs 0 h.2.2).2 j).2
  refine ⟨fun j hj => ?_, fun i hi => ?_, h.2.2⟩
  · obtain ⟨a, ha, h1, h2, h3⟩ := h.1 j hj
    exact ⟨a, ha, by rw [e]; exact h1, by rw [(hs a ha).1]; exact h2, fun k hk => by rw [((hs a ha).2 k).1]; exact h3 k hk⟩
  · obtain ⟨a, h1, h2⟩ := h.2.1 i hi
    refine ⟨a, by rw [e]; exact h1, ?_⟩
    unfold sIx at h2 ⊢
    simp only [e]
    exact h2
end
section
variable {M M' M1 M2 : Mem} {o n a x b L : Nat} {D : Bl} {xs : Nat → Int32}
/-- an object made at a, up to n, kept by x in field j -/
def Nf (x j a n : Nat) (M M' : Mem) : Prop := mN M' = some n ∧ (∀ b, b < a → mK M' b = mK M b) ∧ (∀ b i, b < a → ¬ (b = x ∧ i = j) → mR M' b i = mR M b i) ∧ mR M' x j = some a ∧ ∀ b i, b < a → mI M' b i = mI M b i ∧ mL M' b i = mL M b i
theorem Nf_s {α : Type} {ci cj j : Nat} {F : Mem → Nat → Option Mem} {Q : Mem → Prop} (hn : mN M = some a) (hx : x < a) (hk : (mK M x).1 = cj) (hF : ∀ M1, (mK M1 a).1 = ci → mN M1 = some (a + 1) → (∀ i, mI M1 a i = 0) → (∀ b, b < a → mK M1 b = mK M b ∧ ∀ i, mI M1 b i = mI M b i ∧ mR M1 b i = mR M b i) → ok (F M1 a) (fun M' => Nx a n M1 M' ∧ Q M')) (hQ : ∀ M', Q M' → Q (sR M' x j a)) {K : Mem → Option α} {P : α → Prop} (hK : ∀ M2, Nf x j a n M M2 → Q M2 → ok (K M2) P) : ok (nwO M ci >>= fun (o1 : Nat × Mem) => F o1.2 o1.1 >>= fun (o2 : Mem) => pFR o2 x cj j o1.1 >>= K) P := by
  rw [st_O hn, bs]
  dsimp only
  have s : ∀ b, b < a → mK (sA M a (ci, 0)) b = mK M b ∧ ∀ i, mI (sA M a (ci, 0)) b i = mI M b i ∧ mR (sA M a (ci, 0)) b i = mR M b i := fun b hb => ⟨by rw [k_sA, if_neg (by omega)], fun i => ⟨by rw [i_sA, if_neg (by omega)], by rw [r_sA, if_neg (by omega)]⟩⟩
  refine ok.bind ((hF _ (by rw [k_sA, if_pos rfl]) rfl (fun i => by rw [i_sA, if_pos rfl]) s).mono ?_)
  rintro M1 ⟨⟨e1, e2, e3⟩, q⟩
  have k1 : (mK M1 x).1 = cj := by rw [e2 x (by omega), (s x hx).1]; exact hk
  rw [pR k1, bs]
  refine hK _ ⟨e1, fun b hb => ?_, fun b i hb z => ?_, ?_, fun b i hb => ⟨?_, ?_⟩⟩ (hQ _ q)
  · rw [k_sR, e2 b (by omega)]; exact (s b hb).1
  · rw [r_sR, if_neg z, (e3 b hb i).2.2]; exact ((s b hb).2 i).2
  · rw [r_sR, if_pos ⟨rfl, rfl⟩]
  · rw [i_sR, (e3 b hb i).1]; exact ((s b hb).2 i).1
  · rw [l_sR, (e3 b hb i).2.1, l_sA, if_neg (by omega)]
/-- cells below a stay, the references of x aside -/
def Kp (x a : Nat) (M M' : Mem) : Prop := ∀ b, b < a → mK M' b = mK M b ∧ ∀ i, mI M' b i = mI M b i ∧ (b ≠ x → mR M' b i = mR M b i)
theorem Nf.kp {j : Nat} (h : Nf x j a n M M') : Kp x a M M' := fun b hb => ⟨h.2.1 b hb, fun i => ⟨(h.2.2.2.2 b i hb).1, fun hx => h.2.2.1 b i hb (fun z => hx z.1)⟩⟩
theorem Kp.t {c : Nat} (h1 : Kp x a M M1) (h2 : Kp x c M1 M2) (h : a ≤ c) : Kp x a M M2 := fun b hb => ⟨(h2 b (by omega)).1.trans (h1 b hb).1, fun i => ⟨((h2 b (by omega)).2 i).1.trans ((h1 b hb).2 i).1, fun hx => (((h2 b (by omega)).2 i).2 hx).trans (((h1 b hb).2 i).2 hx)⟩⟩
theorem Kp.rf : Kp x a M M := fun _ _ => ⟨rfl, fun _ => ⟨rfl, fun _ => rfl⟩⟩
theorem Kp.k {c s : Nat} (h : Kp x a M M') (h1 : c + s ≤ a) : ∀ b, c ≤ b → b < c + s → mK M' b = mK M b := fun b _ hb => (h b (by omega)).1
theorem Kp.r {c s : Nat} (h : Kp x a M M') (h1 : c + s ≤ a) (hx : x < c) : ∀ b, c ≤ b → b < c + s → ∀ j, mR M' b j = mR M b j := fun b hc hb j => ((h b (by omega)).2 j).2 (by omega)
theorem Kp.i {c s : Nat} (h : Kp x a M M') (h1 : c + s ≤ a) : ∀ b, c ≤ b → b < c + s → ∀ j, mI M' b j = mI M b j := fun b _ hb j => ((h b (by omega)).2 j).1
/-- the rule of equal shares -/
theorem n_X1 (h : (mK M o).1 = 1) (hn : mN M = some (o + 1)) : ok (f_X1_init M o) (fun M' => Nx o (o + 154) M M' ∧ (∀ j, mI M' o j = mI M o j) ∧ IsEq M' o (o + 1) (o + 69)) := by
  unfold f_X1_init
  refine Nf_s (F := f_X6_init) (Q := fun M => IsRs M (o + 1)) (n := o + 69) hn (by omega) h (fun M1 k1 n1 _ _ => (n_X6 k1 n1).mono fun M' z => ⟨z.1, z.2.2⟩) (fun M' q => q.x (fun _ _ _ => rfl) (fun b h1 _ i => by rw [r_sR, if_neg (by omega)])) fun N1 d1 q1 => ?_
  refine Nf_s (F := f_X6_init) (Q := fun M => IsRs M (o + 69)) (n := o + 137) d1.1 (by omega) (by rw [d1.2.1 o (by omega)]; exact h) (fun M1 k1 n1 _ _ => (n_X6 k1 n1).mono fun M' z => ⟨z.1, z.2.2⟩) (fun M' q => q.x (fun _ _ _ => rfl) (fun b h1 _ i => by rw [r_sR, if_neg (by omega)])) fun N2 d2 q2 => ?_
  refine Nf_s (F := f_X2_init) (Q := fun M => IsGr M (o + 137)) (n := o + 153) d2.1 (by omega) (by rw [d2.2.1 o (by omega), d1.2.1 o (by omega)]; exact h) (fun M1 k1 n1 _ _ => (n_X2 k1 n1).mono fun M' z => ⟨z.1, z.2.2⟩) (fun M' q => q.x (fun _ _ _ => rfl) (fun b h1 _ i => by rw [r_sR, if_neg (by omega)])) fun N3 d3 q3 => ?_
  refine E1_s (n := o + 153) d3.1 (by omega) (by rw [d3.2.1 o (by omega), d2.2.1 o (by omega), d1.2.1 o (by omega)]; exact h) fun N4 d4 => ?_
  refine ok.pure ⟨⟨d4.1, fun b hb => ?_, fun b hb j => ⟨?_, ?_, ?_⟩⟩, fun j => ?_, ?_, ⟨?_, ?_, ?_, ?_⟩, ?_, ?_, ?_, ?_, Or.inl ⟨rfl, rfl⟩⟩
  · rw [d4.2.1 _ (by omega), d3.2.1 _ (by omega), d2.2.1 _ (by omega), d1.2.1 _ (by omega)]
  · rw [(d4.2.2.2.2.1 b j (by omega)).1, (d3.2.2.2.2 b j (by omega)).1, (d2.2.2.2.2 b j (by omega)).1, (d1.2.2.2.2 b j (by omega)).1]
  · rw [(d4.2.2.2.2.1 b j (by omega)).2, (d3.2.2.2.2 b j (by omega)).2, (d2.2.2.2.2 b j (by omega)).2, (d1.2.2.2.2 b j (by omega)).2]
  · rw [d4.2.2.1 _ _ (by omega) (by omega), d3.2.2.1 _ _ (by omega) (by omega), d2.2.2.1 _ _ (by omega) (by omega), d1.2.2.1 _ _ (by omega) (by omega)]
  · rw [(d4.2.2.2.2.1 o j (by omega)).1, (d3.2.2.2.2 o j (by omega)).1, (d2.2.2.2.2 o j (by omega)).1, (d1.2.2.2.2 o j (by omega)).1]
  · rw [d4.2.1 _ (by omega), d3.2.1 _ (by omega), d2.2.1 _ (by omega), d1.2.1 _ (by omega)]; exact h
  · rw [d4.2.2.1 _ _ (by omega) (by omega), d3.2.2.1 _ _ (by omega) (by omega), d2.2.2.1 _ _ (by omega) (by omega)]; exact d1.2.2.2.1
  · rw [d4.2.2.1 _ _ (by omega) (by omega), d3.2.2.1 _ _ (by omega) (by omega)]; exact d2.2.2.2.1
  · rw [d4.2.2.1 _ _ (by omega) (by omega)]; exact d3.2.2.2.1
  · exact d4.2.2.2.1
  · exact d4.2.2.2.2.2
  · exact ((q1.x (d2.kp.k (by omega)) (d2.kp.r (by omega) (by omega))).x (d3.kp.k (by omega)) (d3.kp.r (by omega) (by omega))).x (fun b h1 h2 => d4.2.1 b (by omega)) (fun b h1 h2 i => d4.2.2.1 b i (by omega) (by omega))
  · exact (q2.x (d3.kp.k (by omega)) (d3.kp.r (by omega) (by omega))).x (fun b h1 h2 => d4.2.1 b (by omega)) (fun b h1 h2 i => d4.2.2.1 b i (by omega) (by omega))
  · exact q3.x (fun b h1 h2 => d4.2.1 b (by omega)) (fun b h1 h2 i => d4.2.2.1 b i (by omega) (by omega))
/-- all that the class's object has when it is made -/
def Made (x : Nat) (M : Mem) : Prop := ((mK M x).1 = 8 ∧ ∀ j, j < 10 → mR M x j = some ([x + 1, x + 3, x + 4, x + 8, x + 162, x + 316, x + 332, x + 348, x + 353, x + 365].getD j 0)) ∧ (IsT M (x + 1) ∧ ∀ j, mI M (x + 1) j = 0) ∧ (mK M (x + 3)).1 = 5 ∧ (IsH M (x + 4) ∧ ∀ j, mI M (x + 4) j = 0) ∧ IsEq M (x + 8) (x + 9) (x + 77) ∧ IsEq M (x + 162) (x + 163) (x + 231) ∧ IsGr M (x + 316) ∧ IsGr M (x + 332) ∧ (IsOp M (x + 348) ∧ Op0 M (x + 348)) ∧ IsB M (x + 353) D0 ∧ IsB M (x + 365) D0 ∧ ∀ j, mI M x j = if j = 10 then -1 else 0
theorem Kp.below (h : Kp x (x + 1) M M') : ∀ b, b < x → mK M' b = mK M b ∧ ∀ i, mI M' b i = mI M b i ∧ mR M' b i = mR M b i := fun b hb => ⟨(h b (by omega)).1, fun i => ⟨((h b (by omega)).2 i).1, ((h b (by omega)).2 i).2 (by omega)⟩⟩
theorem n_X5 (h : (mK M o).1 = 5) (hn : mN M = some (o + 1)) : ok (f_X5_init M o) (fun M' => Nx o (o + 1) M M' ∧ (mK M' o).1 = 5) := ok.pure ⟨⟨hn, fun _ _ => rfl, fun _ _ _ => ⟨rfl, rfl, rfl⟩⟩, h⟩
theorem n_X8 (h : (mK M x).1 = 8) (hn : mN M = some (x + 1)) (hS : Sta M x) (h0 : ∀ j, mI M x j = 0) : ok (f_X8_init M x) (fun M' => mN M' = some (x + 377) ∧ (∀ b, b < x → mK M' b = mK M b ∧ ∀ i, mI M' b i = mI M b i ∧ mR M' b i = mR M b i) ∧ Made x M') := by
  unfold f_X8_init
  refine Nf_s (a := x + 1) (F := f_X7_init) (Q := fun M => IsT M (x + 1) ∧ ∀ j, mI M (x + 1) j = 0) (n := x + 3) hn (by omega) h (fun M1 k1 n1 z1 s1 => (n_X7 k1 n1).mono fun M' z => ⟨z.1, z.2.2, fun j => (z.2.1 j).trans (z1 j)⟩) (fun M' q => ⟨q.1.x (fun _ _ _ => rfl) (fun b h1 _ i => by rw [r_sR, if_neg (by omega)]), q.2⟩) fun N1 d1 q1 => ?_
  have K1 : Kp x (x + 1) M N1 := d1.kp
  refine Nf_s (a := x + 3) (F := f_X5_init) (Q := fun M => (mK M (x + 3)).1 = 5) (n := x + 4) d1.1 (by omega) (by rw [(K1 x (by omega)).1]; exact h) (fun M1 k1 n1 z1 s1 => n_X5 k1 n1) (fun M' q => q) fun N2 d2 q2 => ?_
  have K2 : Kp x (x + 1) M N2 := K1.t d2.kp (by omega)
  refine Nf_s (a := x + 4) (F := f_X3_init) (Q := fun M => IsH M (x + 4) ∧ ∀ j, mI M (x + 4) j = 0) (n := x + 8) d2.1 (by omega) (by rw [(K2 x (by omega)).1]; exact h) (fun M1 k1 n1 z1 s1 => (n_X3 k1 n1).mono fun M' z => ⟨z.1.nx, z.2, fun j => (z.1.2.2.2.1 j).trans (z1 j)⟩) (fun M' q => ⟨q.1.x (fun _ _ _ => rfl) (fun b h1 _ i => by rw [r_sR, if_neg (by omega)]), q.2⟩) fun N3 d3 q3 => ?_
  have K3 : Kp x (x + 1) M N3 := K2.t d3.kp (by omega)
  refine Nf_s (a := x + 8) (F := f_X1_init) (Q := fun M => IsEq M (x + 8) (x + 9) (x + 77)) (n := x + 162) d3.1 (by omega) (by rw [(K3 x (by omega)).1]; exact h) (fun M1 k1 n1 z1 s1 => (n_X1 k1 n1).mono fun M' z => ⟨z.1, z.2.2⟩) (fun M' q => q.x (fun _ _ _ => rfl) (fun b h1 _ i => by rw [r_sR, if_neg (by omega)])) fun N4 d4 q4 => ?_
  have K4 : Kp x (x + 1) M N4 := K3.t d4.kp (by omega)
  refine Nf_s (a := x + 162) (F := f_X1_init) (Q := fun M => IsEq M (x + 162) (x + 163) (x + 231)) (n := x + 316) d4.1 (by omega) (by rw [(K4 x (by omega)).1]; exact h) (fun M1 k1 n1 z1 s1 => (n_X1 k1 n1).mono fun M' z => ⟨z.1, z.2.2⟩) (fun M' q => q.x (fun _ _ _ => rfl) (fun b h1 _ i => by rw [r_sR, if_neg (by omega)])) fun N5 d5 q5 => ?_
  have K5 : Kp x (x + 1) M N5 := K4.t d5.kp (by omega)
  refine Nf_s (a := x + 316) (F := f_X2_init) (Q := fun M => IsGr M (x + 316)) (n := x + 332) d5.1 (by omega) (by rw [(K5 x (by omega)).1]; exact h) (fun M1 k1 n1 z1 s1 => (n_X2 k1 n1).mono fun M' z => ⟨z.1, z.2.2⟩) (fun M' q => q.x (fun _ _ _ => rfl) (fun b h1 _ i => by rw [r_sR, if_neg (by omega)])) fun N6 d6 q6 => ?_
  have K6 : Kp x (x + 1) M N6 := K5.t d6.kp (by omega)
  refine Nf_s (a := x + 332) (F := f_X2_init) (Q := fun M => IsGr M (x + 332)) (n := x + 348) d6.1 (by omega) (by rw [(K6 x (by omega)).1]; exact h) (fun M1 k1 n1 z1 s1 => (n_X2 k1 n1).mono fun M' z => ⟨z.1, z.2.2⟩) (fun M' q => q.x (fun _ _ _ => rfl) (fun b h1 _ i => by rw [r_sR, if_neg (by omega)])) fun N7 d7 q7 => ?_
  have K7 : Kp x (x + 1) M N7 := K6.t d7.kp (by omega)
  refine Nf_s (a := x + 348) (F := f_X4_init) (Q := fun M => IsOp M (x + 348) ∧ Op0 M (x + 348)) (n := x + 353) d7.1 (by omega) (by rw [(K7 x (by omega)).1]; exact h) (fun M1 k1 n1 z1 s1 => (n_X4 k1 n1).mono fun M' z => ⟨z.1.nx, z.2, (z.1.2.2.2.2 0 (by omega)).2.2 0, (z.1.2.2.2.2 1 (by omega)).2.2 0, (z.1.2.2.2.2 3 (by omega)).2.2 0⟩) (fun M' q => ⟨q.1.x (fun _ _ _ => rfl) (fun b h1 _ i => by rw [r_sR, if_neg (by omega)]), q.2⟩) fun N8 d8 q8 => ?_
  have K8 : Kp x (x + 1) M N8 := K7.t d8.kp (by omega)
  refine Nf_s (a := x + 353) (F := f_X0_init) (Q := fun M => IsB M (x + 353) D0) (n := x + 365) d8.1 (by omega) (by rw [(K8 x (by omega)).1]; exact h) (fun M1 k1 n1 z1 s1 => (n_X0 k1 n1 ((hS.x K8.below).x (fun b hb => s1 b (by omega))) (by omega) (fun j _ => z1 j)).mono fun M' z => ⟨z.1, z.2.2⟩) (fun M' q => q.x (fun _ _ _ => rfl) (fun b h1 _ i => by rw [r_sR, if_neg (by omega)]) (fun _ _ _ _ => rfl)) fun N9 d9 q9 => ?_
  have K9 : Kp x (x + 1) M N9 := K8.t d9.kp (by omega)
  refine Nf_s (a := x + 365) (F := f_X0_init) (Q := fun M => IsB M (x + 365) D0) (n := x + 377) d9.1 (by omega) (by rw [(K9 x (by omega)).1]; exact h) (fun M1 k1 n1 z1 s1 => (n_X0 k1 n1 ((hS.x K9.below).x (fun b hb => s1 b (by omega))) (by omega) (fun j _ => z1 j)).mono fun M' z => ⟨z.1, z.2.2⟩) (fun M' q => q.x (fun _ _ _ => rfl) (fun b h1 _ i => by rw [r_sR, if_neg (by omega)]) (fun _ _ _ _ => rfl)) fun N10 d10 q10 => ?_
  have K10 : Kp x (x + 1) M N10 := K9.t d10.kp (by omega)
  have p : pFI N10 x 8 10 (-1) = some (sI N10 x 10 (-1)) := pFI_e (by rw [(K10 x (by omega)).1]; exact h)
  rw [p, bs]
  have T9 : Kp x (x + 365) N9 N10 := d10.kp
  have T8 : Kp x (x + 353) N8 N10 := d9.kp.t T9 (by omega)
  have T7 : Kp x (x + 348) N7 N10 := d8.kp.t T8 (by omega)
  have T6 : Kp x (x + 332) N6 N10 := d7.kp.t T7 (by omega)
  have T5 : Kp x (x + 316) N5 N10 := d6.kp.t T6 (by omega)
  have T4 : Kp x (x + 162) N4 N10 := d5.kp.t T5 (by omega)
  have T3 : Kp x (x + 8) N3 N10 := d4.kp.t T4 (by omega)
  have T2 : Kp x (x + 4) N2 N10 := d3.kp.t T3 (by omega)
  have T1 : Kp x (x + 3) N1 N10 := d2.kp.t T2 (by omega)
  have g : ∀ j, j < 10 → mR N10 x j = some ([x + 1, x + 3, x + 4, x + 8, x + 162, x + 316, x + 332, x + 348, x + 353, x + 365].getD j 0) := by
    intro j hj
    rcases (show j = 0 ∨ j = 1 ∨ j = 2 ∨ j = 3 ∨ j = 4 ∨ j = 5 ∨ j = 6 ∨ j = 7 ∨ j = 8 ∨ j = 9 by omega) with e | e | e | e | e | e | e | e | e | e <;> subst e
    · rw [d10.2.2.1 _ _ (by omega) (by omega), d9.2.2.1 _ _ (by omega) (by omega), d8.2.2.1 _ _ (by omega) (by omega), d7.2.2.1 _ _ (by omega) (by omega), d6.2.2.1 _ _ (by omega) (by omega), d5.2.2.1 _ _ (by omega) (by omega), d4.2.2.1 _ _ (by omega) (by omega), d3.2.2.1 _ _ (by omega) (by omega), d2.2.2.1 _ _ (by omega) (by omega)]; exact d1.2.2.2.1
    · rw [d10.2.2.1 _ _ (by omega) (by omega), d9.2.2.1 _ _ (by omega) (by omega), d8.2.2.1 _ _ (by omega) (by omega), d7.2.2.1 _ _ (by omega) (by omega), d6.2.2.1 _ _ (by omega) (by omega), d5.2.2.1 _ _ (by omega) (by omega), d4.2.2.1 _ _ (by omega) (by omega), d3.2.2.1 _ _ (by omega) (by omega)]; exact d2.2.2.2.1
    · rw [d10.2.2.1 _ _ (by omega) (by omega), d9.2.2.1 _ _ (by omega) (by omega), d8.2.2.1 _ _ (by omega) (by omega), d7.2.2.1 _ _ (by omega) (by omega), d6.2.2.1 _ _ (by omega) (by omega), d5.2.2.1 _ _ (by omega) (by omega), d4.2.2.1 _ _ (by omega) (by omega)]; exact d3.2.2.2.1
    · rw [d10.2.2.1 _ _ (by omega) (by omega), d9.2.2.1 _ _ (by omega) (by omega), d8.2.2.1 _ _ (by omega) (by omega), d7.2.2.1 _ _ (by omega) (by omega), d6.2.2.1 _ _ (by omega) (by omega), d5.2.2.1 _ _ (by omega) (by omega)]; exact d4.2.2.2.1
    · rw [d10.2.2.1 _ _ (by omega) (by omega), d9.2.2.1 _ _ (by omega) (by omega), d8.2.2.1 _ _ (by omega) (by omega), d7.2.2.1 _ _ (by omega) (by omega), d6.2.2.1 _ _ (by omega) (by omega)]; exact d5.2.2.2.1
    · rw [d10.2.2.1 _ _ (by omega) (by omega), d9.2.2.1 _ _ (by omega) (by omega), d8.2.2.1 _ _ (by omega) (by omega), d7.2.2.1 _ _ (by omega) (by omega)]; exact d6.2.2.2.1
    · rw [d10.2.2.1 _ _ (by omega) (by omega), d9.2.2.1 _ _ (by omega) (by omega), d8.2.2.1 _ _ (by omega) (by omega)]; exact d7.2.2.2.1
    · rw [d10.2.2.1 _ _ (by omega) (by omega), d9.2.2.1 _ _ (by omega) (by omega)]; exact d8.2.2.2.1
    · rw [d10.2.2.1 _ _ (by omega) (by omega)]; exact d9.2.2.2.1
    · exact d10.2.2.2.1
  have z : ∀ b j, b ≠ x → mI (sI N10 x 10 (-1)) b j = mI N10 b j := fun b j hb => by rw [i_sI, if_neg (fun y => hb y.1)]
  refine ok.pure ⟨d10.1, fun b hb => ⟨(K10.below b hb).1, fun i => ⟨?_, ((K10.below b hb).2 i).2⟩⟩, ⟨by rw [k_sI, (K10 x (by omega)).1]; exact h, g⟩, ⟨?_, fun j => ?_⟩, ?_, ⟨?_, fun j => ?_⟩, ?_, ?_, ?_, ?_, ⟨?_, ?_⟩, ?_, ?_, fun j => ?_⟩
  · rw [z b i (by omega)]; exact ((K10.below b hb).2 i).1
  · exact q1.1.x (T1.k (by omega)) (T1.r (by omega) (by omega))
  · rw [z _ _ (by omega), ((T1 (x + 1) (by omega)).2 j).1]; exact q1.2 j
  · rw [k_sI, (T2 (x + 3) (by omega)).1]; exact q2
  · exact q3.1.x (T3.k (by omega)) (T3.r (by omega) (by omega))
  · rw [z _ _ (by omega), ((T3 (x + 4) (by omega)).2 j).1]; exact q3.2 j
  · exact q4.x (T4.k (by omega)) (T4.r (by omega) (by omega))
  · exact q5.x (T5.k (by omega)) (T5.r (by omega) (by omega))
  · exact q6.x (T6.k (by omega)) (T6.r (by omega) (by omega))
  · exact q7.x (T7.k (by omega)) (T7.r (by omega) (by omega))
  · exact q8.1.x (T8.k (by omega)) (T8.r (by omega) (by omega))
  · refine ⟨?_, ?_, ?_⟩
    · rw [z _ _ (by omega), ((T8 (x + 348 + 1) (by omega)).2 0).1]; exact q8.2.1
    · rw [z _ _ (by omega), ((T8 (x + 348 + 2) (by omega)).2 0).1]; exact q8.2.2.1
    · rw [z _ _ (by omega), ((T8 (x + 348 + 4) (by omega)).2 0).1]; exact q8.2.2.2
  · exact (q9.x (T9.k (by omega)) (T9.r (by omega) (by omega)) (T9.i (by omega))).x (fun _ _ _ => rfl) (fun _ _ _ _ => rfl) (fun b h1 h2 j => z b j (by omega))
  · exact q10.x (fun _ _ _ => rfl) (fun _ _ _ _ => rfl) (fun b h1 h2 j => z b j (by omega))
  · rw [i_sI]
    by_cases y : j = 10
    · rw [if_pos ⟨rfl, y⟩, if_pos y]
    · rw [if_neg (fun w => y w.2), if_neg y, ((K10 x (by omega)).2 j).1]; exact h0 j
theorem Made.k (h : Made x M) (hs : ∀ b, b < x + 377 → mK M' b = mK M b ∧ ∀ i, mI M' b i = mI M b i ∧ mR M' b i = mR M b i) : Made x M' := by
  obtain ⟨⟨a1, a2⟩, ⟨b1, b2⟩, c, ⟨e1, e2⟩, f1, f2, g1, g2, ⟨i1, i2⟩, j1, j2, k⟩ := h
  refine ⟨⟨by rw [(hs x (by omega)).1]; exact a1, fun j hj => by rw [((hs x (by omega)).2 j).2]; exact a2 j hj⟩, ⟨b1.x (fun b h1 h2 => (hs b (by omega)).1) (fun b h1 h2 j => ((hs b (by omega)).2 j).2), fun j => by rw [((hs (x + 1) (by omega)).2 j).1]; exact b2 j⟩, by rw [(hs (x + 3) (by omega)).1]; exact c, ⟨e1.x (fun b h1 h2 => (hs b (by omega)).1) (fun b h1 h2 j => ((hs b (by omega)).2 j).2), fun j => by rw [((hs (x + 4) (by omega)).2 j).1]; exact e2 j⟩, f1.x (fun b h1 h2 => (hs b (by omega)).1) (fun b h1 h2 j => ((hs b (by omega)).2 j).2), f2.x (fun b h1 h2 => (hs b (by omega)).1) (fun b h1 h2 j => ((hs b (by omega)).2 j).2), g1.x (fun b h1 h2 => (hs b (by omega)).1) (fun b h1 h2 j => ((hs b (by omega)).2 j).2), g2.x (fun b h1 h2 => (hs b (by omega)).1) (fun b h1 h2 j => ((hs b (by omega)).2 j).2), ⟨i1.x (fun b h1 h2 => (hs b (by omega)).1) (fun b h1 h2 j => ((hs b (by omega)).2 j).2), ?_⟩, j1.x (fun b h1 h2 => (hs b (by omega)).1) (fun b h1 h2 j => ((hs b (by omega)).2 j).2) (fun b h1 h2 j => ((hs b (by omega)).2 j).1), j2.x (fun b h1 h2 => (hs b (by omega)).1) (fun b h1 h2 j => ((hs b (by omega)).2 j).2) (fun b h1 h2 j => ((hs b (by omega)).2 j).1), fun j => by rw [((hs x (by omega)).2 j).1]; exact k j⟩
  exact ⟨by rw [((hs (x + 348 + 1) (by omega)).2 0).1]; exact i2.1, by rw [((hs (x + 348 + 2) (by omega)).2 0).1]; exact i2.2.1, by rw [((hs (x + 348 + 4) (by omega)).2 0).1]; exact i2.2.2⟩
theorem IsB_t (h : IsB M a D0) : IsB M a (tl D0) := ⟨h.1, fun j hj => h.2.1 j hj, D0_n, fun k k1 k2 i hi => by
  by_cases e : k = 9
  · subst e
    exact h.2.2.2 9 k1 k2 i hi
  · exfalso
    unfold bsz at hi
    rw [show cn (tl D0) 0 = 0 from rfl, show cn (tl D0) 1 = 0 from rfl, show cn (tl D0) 2 = 0 from rfl, if_neg e] at hi
    split at hi
    · omega
    · split at hi <;> omega⟩
theorem D0_g : Gd (tl D0) := ⟨D0_n, fun d hd => absurd hd (Nat.not_lt_zero _), fun p hp => absurd hp (Nat.not_lt_zero _), fun v hv => absurd hv (Nat.not_lt_zero _), Or.inl rfl, Or.inl rfl, by decide, Or.inl rfl⟩
/-- from the start to the first call -/
theorem law_init (hL : L ≤ 3072) (h : Start M b L xs) : ∃ N M' S, GI b N L xs M' S ∧ f_law M b = it_ (bd_law b N (N + 377) (N + 396)) 600 (0, M') := by
  obtain ⟨N, hn, hb, kb, ib, st1, st2, h0⟩ := h
  have hS : Sta M N := ⟨st1, st2, h0⟩
  unfold f_law
  rw [st_O hn, bs]
  dsimp only
  have s1 : ∀ c, c < N → mK (sA M N (8, 0)) c = mK M c ∧ ∀ i, mI (sA M N (8, 0)) c i = mI M c i ∧ mR (sA M N (8, 0)) c i = mR M c i := fun c hc => ⟨by rw [k_sA, if_neg (by omega)], fun i => ⟨by rw [i_sA, if_neg (by omega)], by rw [r_sA, if_neg (by omega)]⟩⟩
  obtain ⟨M1, e1, n1, t1, m1⟩ := n_X8 (M := sA M N (8, 0)) (x := N) (by rw [k_sA, if_pos rfl]) rfl (hS.x s1) (fun j => by rw [i_sA, if_pos rfl])
  rw [e1, bs, st_O n1, bs]
  dsimp only
  obtain ⟨M2, e2, ⟨n2, k2, c2⟩, o1, o2, o3, o4, o5⟩ := n_X9 (M := sA M1 (N + 377) (9, 0)) (o := N + 377) (by rw [k_sA, if_pos rfl]) rfl (fun j => by rw [i_sA, if_pos rfl])
  rw [e2, bs, st_A n2, bs]
  dsimp only
  have s2 : ∀ c, c < N + 377 → mK (sA M2 (N + 377 + 19) (22, 1)) c = mK M1 c ∧ ∀ i, mI (sA M2 (N + 377 + 19) (22, 1)) c i = mI M1 c i ∧ mR (sA M2 (N + 377 + 19) (22, 1)) c i = mR M1 c i := fun c hc => by
    refine ⟨?_, fun i => ⟨?_, ?_⟩⟩
    · rw [k_sA, if_neg (by omega), k2 c (by omega), k_sA, if_neg (by omega)]
    · rw [i_sA, if_neg (by omega), (c2 c hc i).1, i_sA, if_neg (by omega)]
    · rw [r_sA, if_neg (by omega), (c2 c hc i).2.2, r_sA, if_neg (by omega)]
  obtain ⟨⟨a1, a2⟩, ⟨b1, b2⟩, c, ⟨h1, h2⟩, f1, f2, g1, g2, ⟨i1, i2⟩, j1, j2, kk⟩ := m1.k s2
  have s3 : ∀ c, c < N → mK (sA M2 (N + 377 + 19) (22, 1)) c = mK M c ∧ ∀ i, mI (sA M2 (N + 377 + 19) (22, 1)) c i = mI M c i ∧ mR (sA M2 (N + 377 + 19) (22, 1)) c i = mR M c i := fun c hc => ⟨(s2 c (by omega)).1.trans ((t1 c hc).1.trans (s1 c hc).1), fun i => ⟨((s2 c (by omega)).2 i).1.trans (((t1 c hc).2 i).1.trans ((s1 c hc).2 i).1), ((s2 c (by omega)).2 i).2.trans (((t1 c hc).2 i).2.trans ((s1 c hc).2 i).2)⟩⟩
  have s4 : ∀ c j, c < N + 396 → mI (sA M2 (N + 377 + 19) (22, 1)) c j = mI M2 c j := fun c j hc => by rw [i_sA, if_neg (by omega)]
  have hM : IsM (sA M2 (N + 377 + 19) (22, 1)) (N + 377) (tl D0) := by
    refine ⟨⟨by rw [k_sA, if_neg (by omega)]; exact o1.1.1, fun q hq => ?_⟩, fun j hj => ?_, D0_n, fun d hd => absurd hd (Nat.not_lt_zero _), fun p hp => absurd hp (Nat.not_lt_zero _), fun v hv => absurd hv (Nat.not_lt_zero _), fun i hi => ?_⟩
    · have lt : q.2.1 < 19 := (show ∀ q, q ∈ moL → q.2.1 < 19 by decide) q hq
      rw [r_sA, if_neg (by omega), k_sA, if_neg (by omega)]
      exact o1.1.2 q hq
    · rw [s4 _ _ (by omega)]; exact o1.2.1 j hj
    · rw [s4 _ _ (by omega)]; exact o1.2.2.2.2.2.2 i hi
  refine ⟨N, sA M2 (N + 377 + 19) (22, 1), (tl D0, (0, fun _ => 0), -1, (0, fun _ => tl D0, fun _ => 0, fun _ => 0)), ⟨⟨⟨by rw [(s3 b hb).1]; exact kb, hL, hb⟩, fun j hj => by rw [((s3 b hb).2 j).1]; exact ib j hj, hS.x s3, by rw [k_sA, if_pos rfl]⟩, ⟨D0_g, Tl_tl D0, ⟨Nat.zero_le _, rfl, fun j hj => absurd hj (Nat.not_lt_zero _)⟩, fun j hj => absurd hj (Nat.not_lt_zero _), fun j hj v hv => absurd hv (by have : cn (tl D0) 2 = 0 := rfl; exact this ▸ Nat.not_lt_zero _)⟩, ⟨N + 353, N + 365, ⟨⟨a1, ⟨a2 0 (by omega), a2 1 (by omega), a2 2 (by omega), a2 3 (by omega), a2 4 (by omega), a2 5 (by omega), a2 6 (by omega), a2 7 (by omega), a2 8 (by omega), a2 9 (by omega)⟩, Or.inl ⟨rfl, rfl⟩⟩, IsB_t j1, j2.1, ⟨_, _, f1⟩, ⟨_, _, f2⟩, g1, g2, i1, i2, Or.inl ?_, Or.inl ?_, Or.inl ?_⟩, ⟨b1, b2 1, Nat.zero_le _, fun j hj => absurd hj (Nat.not_lt_zero _)⟩, c, ⟨h1, h2 3, fun j hj => absurd hj (Nat.not_lt_zero _)⟩, ?_⟩, hM, ?_, ?_, fun j hj => absurd hj (Nat.not_lt_zero _), ?_, ?_, fun j hj => absurd hj (Nat.not_lt_zero _)⟩, rfl⟩
  · rw [kk, if_neg (by omega)]
  · rw [kk, if_neg (by omega)]
  · rw [kk, if_neg (by omega)]
  · rw [kk, if_pos rfl]
  · rw [s4 _ _ (by omega)]; exact o2
  · rw [s4 _ _ (by omega)]; exact o3
  · rw [s4 _ _ (by omega)]; exact o4
  · rw [s4 _ _ (by omega)]; exact o5
end
