/-! ===== the greatest cost at which the greedy rule funds ===== -/
section
variable {M M' A B : Mem} {x m bb sb : Nat} {D D1 : Bl} {p : Nat}
def Gr (D : Bl) (p r : Nat) : Prop := r ≤ 100000 ∧ (r ≠ 0 → GF D p r) ∧ ∀ c, r < c → c ≤ 100000 → ¬ GF D p c
theorem Gr_one {r r' : Nat} (h : Gr D p r) (h' : Gr D p r') : r = r' := by
  rcases Nat.lt_trichotomy r r' with z | z | z
  · exact absurd (h'.2.1 (by omega)) (h.2.2 r' z h'.1)
  · exact z
  · exact absurd (h.2.1 (by omega)) (h'.2.2 r z h.1)
noncomputable def glm (D : Bl) (p : Nat) : Int32 := by
  classical exact if h : ∃ r, Gr D p r then (if Int32.ofNat (Classical.choose h) = 0 then -1 else Int32.ofNat (Classical.choose h)) else 0
theorem glm_eq {r : Nat} (h : Gr D p r) : glm D p = if Int32.ofNat r = 0 then -1 else Int32.ofNat r := by
  unfold glm
  have hx : ∃ r, Gr D p r := ⟨r, h⟩
  rw [dif_pos hx, Gr_one (Classical.choose_spec hx) h]
theorem up_up (k i : Nat) (y y0 : Int32) : up (up D k i y0) k i y = up D k i y := by
  funext a b
  unfold up
  by_cases c : a = k ∧ b = i
  · rw [if_pos c, if_pos c]
  · rw [if_neg c, if_neg c, if_neg c]
theorem up_id (k i : Nat) : up D k i (D k i) = D := by
  funext a b
  unfold up
  by_cases c : a = k ∧ b = i
  · rw [if_pos c, c.1, c.2]
  · rw [if_neg c]
theorem c_gis (h : CQ M x bb sb D) (hB : IsB M sb D1) (hG : Gd D1) (p : Nat) : ok (f_X8_isGreedilyChosenIfSpare M x (Int32.ofNat p)) (fun o => o.1 = b2i (hs (gh (grd D1)) (Int32.ofNat p)) ∧ Cq x M o.2 ∧ CQ o.2 x bb sb D ∧ IsB o.2 sb D1) := by
  have hin := h.1.in_
  have g := h.2.2.2.2.2.2.1
  unfold f_X8_isGreedilyChosenIfSpare
  rw [h.1.r6, bs, h.1.r9, bs, g.c, bs]
  refine ok.seq (f_gdecide g hB (by omega) hG) ?_
  rintro M1 ⟨F1, E1⟩
  have g1 := g.fi F1
  obtain ⟨-, -, -, -, ⟨rc, rd, e⟩, -⟩ := id h
  have h1 : CQ M1 x bb sb D := h.sp F1.q (Or.inr (Or.inr ⟨rfl, by omega⟩)) (h.2.2.1.fi F1) ⟨rc, rd, e.fi F1⟩ g1
  rw [h1.1.r6, bs, g1.gi, bs, E1.2.2.2.2, f_has8, bs, isBb, bs]
  exact ok.pure ⟨rfl, Cq.of F1.q (by omega) (by omega), h1, hB.fi F1 (by omega)⟩
theorem shr1 : ∀ i, i < 17 → Int32.ofNat (2 ^ (16 - i)) >>> ((1 : Int32) &&& 31) = Int32.ofNat (2 ^ (16 - i) / 2) := by decide +kernel
theorem c_greedyLimit (h : CQ M x bb sb D) (hG : Gd D) (hT : Tl D) (a : Int32) : ok (f_X8_greedyLimit M x a) (ThrC x bb sb D M (inx a (cn D 1)) (glm D (ix a))) := by
  have l1 := h.2.1.n.2.2.1
  have hin := h.1.in_
  unfold f_X8_greedyLimit
  simp only [h.1.r8, bs, h.2.1.g1]
  by_cases c : inx a (cn D 1)
  · obtain ⟨k, hk, rfl⟩ := ix_of (by omega) c
    rw [thB_p (by rw [f_ckx, if_pos c]), h.1.r9, bs, h.1.r8, bs, h.2.2.1.c, bs]
    refine ok.seq (c_copy h) ?_
    rintro M1 ⟨C1, h1, p, q, hB⟩
    rw [h1.1.r9, bs, hB.c, bs]
    refine ok.seq (f_tl hB) ?_
    rintro _ ⟨f, rfl, hf, hB1⟩
    have F1 : Fq sb (sb + 12) M1 (sW M1 f) := Fq.W fun a ha => hf a (by omega) (by omega)
    have h2 : CQ (sW M1 f) x bb sb D := h1.sps F1 hB1.1
    have C2 : Cq x M (sW M1 f) := C1.trans (Cq.of F1 (by omega) (by omega))
    rw [tl_rw, tl_sel0 hT] at hB1
    generalize sW M1 f = M2 at *
    refine it_r (I := fun i (u : Int32 × Int32 × Mem) => ∃ r, u.1 = Int32.ofNat r ∧ r ≤ 100000 ∧ (r ≠ 0 → GF D k r) ∧ (∀ c, r + 2 ^ (17 - i) ≤ c → c ≤ 100000 → ¬ GF D k c) ∧ u.2.1 = Int32.ofNat (2 ^ (17 - i) / 2) ∧ Cq x M u.2.2 ∧ CQ u.2.2 x bb sb D ∧ ∃ y0, IsB u.2.2 sb (up D 4 k y0)) 17 ⟨0, rfl, by omega, fun z => absurd rfl z, fun c z1 z2 => by
      have : 2 ^ (17 - 0) = 131072 := rfl
      omega, rfl, C2, h2, D 4 k, by rw [up_id]; exact hB1⟩ (by omega) ?_ ?_
    · rintro rec i ⟨_, _, M3⟩ hi ⟨r, rfl, r1, r2, r3, rfl, C3, h3, y0, B3⟩ hrec
      dsimp only at r3 C3 h3 B3
      have e2 : 2 ^ (17 - i) = 2 ^ (16 - i) * 2 := by rw [← Nat.pow_succ]; congr 1; omega
      have e3 : 2 ^ (17 - (i + 1)) = 2 ^ (16 - i) := by congr 1; omega
      have sh := shr1 i hi
      have sb_ : 2 ^ (16 - i) ≤ 2 ^ 16 := Nat.pow_le_pow_right (by omega) (by omega)
      have s65 : 2 ^ 16 = 65536 := rfl
      have pos : 0 < 2 ^ (16 - i) := Nat.two_pow_pos _
      rw [e3] at hrec
      have e4 : 2 ^ (17 - i) / 2 = 2 ^ (16 - i) := by rw [e2]; omega
      rw [e4]
      rw [e2] at r3
      generalize 2 ^ (16 - i) = s at *
      have hn0 : ¬ Int32.ofNat s ≤ 0 := by
        rw [show (0 : Int32) = Int32.ofNat 0 from rfl, i_le (by omega) (by omega)]; omega
      have w : wI M3 (sb + 4) (Int32.ofNat k) (Int32.ofNat (r + s)) = some (sI M3 (sb + 4) k (Int32.ofNat (r + s))) := wI_e B3.1.k4 (by omega) (by omega)
      have B4 := B3.cell (k := 4) (i := k) (by omega) (Int32.ofNat (r + s))
      rw [up_up] at B4
      have F4 : Fq sb (sb + 12) M3 (sI M3 (sb + 4) k (Int32.ofNat (r + s))) := Fq.sI ⟨by omega, by omega⟩
      have h4 := h3.sps F4 B4.1
      have C4 := C3.trans (Cq.of F4 (by omega) (by omega))
      unfold bd_X8_greedyLimit_35
      dsimp only
      rw [if_neg hn0, h3.1.r9, bs, B3.1.r4, bs, i_add, w, bs]
      by_cases c1 : r + s ≤ 100000
      · have n1 : ¬ (100000 : Int32) < Int32.ofNat (r + s) := by
          rw [show (100000 : Int32) = Int32.ofNat 100000 from rfl, i_lt (by omega) (by omega)]; omega
        rw [if_neg n1, h4.1.c, bs]
        refine ok.bind (ok.seq (c_gis h4 B4 (gd_up4 hG hT (by omega) c1) k) ?_)
        rintro ⟨o, M5⟩ ⟨q1, C5, h5, B5⟩
        dsimp only at q1 C5 h5 B5 ⊢
        rw [q1, b2i_ite]
        by_cases c2 : GF D k (r + s)
        · rw [if_pos (show hs (gh (grd (up D 4 k (Int32.ofNat (r + s))))) (Int32.ofNat k) = true from c2), ltq]
          refine ok.pure ?_
          rw [ltq, sh]
          exact hrec _ ⟨r + s, rfl, c1, fun _ => c2, fun c z1 z2 => r3 c (by omega) z2, rfl, C4.trans C5, h5, _, B5⟩
        · rw [if_neg (show ¬ hs (gh (grd (up D 4 k (Int32.ofNat (r + s))))) (Int32.ofNat k) = true from c2)]
          refine ok.pure ?_
          rw [ltq, sh]
          exact hrec _ ⟨r, rfl, r1, r2, fun c z1 z2 z3 => c2 (GF_mono hG hT hk (by omega) z1 z2 z3), rfl, C4.trans C5, h5, _, B5⟩
      · have n1 : (100000 : Int32) < Int32.ofNat (r + s) := by
          rw [show (100000 : Int32) = Int32.ofNat 100000 from rfl, i_lt (by omega) (by omega)]; omega
        rw [if_pos n1, bs, ltq, sh]
        exact hrec _ ⟨r, rfl, r1, r2, fun c z1 z2 => by omega, rfl, C4, h4, _, B4⟩
    · rintro rec ⟨_, _, M3⟩ ⟨r, rfl, r1, r2, r3, rfl, C3, h3, -⟩
      dsimp only at r3 C3 h3
      unfold bd_X8_greedyLimit_35
      dsimp only
      rw [if_pos (by decide)]
      have gr : Gr D k r := ⟨r1, r2, fun c z1 z2 => r3 c (by
        have : 2 ^ (17 - 17) = 1 := rfl
        omega) z2⟩
      rw [is_, bs]
      exact ok.pure ⟨fun _ => ⟨by rw [ix_o (by omega), glm_eq gr], C3, h3⟩, fun z => absurd c z⟩
  · rw [thB_n (by rw [f_ckx, if_neg c])]
    exact ok.pure ⟨fun z => absurd z c, fun _ => rfl⟩
end
