/-! ===== the class reads a setting, a text ===== -/
section
variable {M M' M0 M1 M2 : Mem} {t : Nat → Int32} {n p q T R b lim : Nat} {D D' : Bl} {g : Int32} {r : Rs}
theorem f_set {K : Nat} (hk : gFI M T 7 2 = some (Int32.ofNat K)) (hl : K < 15) : f_X7_setting M T = some (if 11 ≤ K then Int32.ofNat (K - 11) else -1) := by
  unfold f_X7_setting
  rw [hk, bs, show (4 : Int32) = Int32.ofNat 4 from rfl, isIx_in, bs, b2i_ite]
  by_cases c : 11 ≤ K
  · have e : Int32.ofNat K - 11 = Int32.ofNat (K - 11) := i_sub c
    rw [e, decide_eq_true (show inx (Int32.ofNat (K - 11)) 4 from ⟨by rw [show (0 : Int32) = Int32.ofNat 0 from rfl, i_le (by omega) (by omega)]; omega, by rw [i_lt (by omega) (by omega)]; omega⟩), if_pos rfl, if_pos c, bs, e]
    rfl
  · have e : (Int32.ofNat K - 11).toInt = (K : Int) - 11 := by
      rw [fb_subI] <;> rw [i_toInt (by omega), show (11 : Int32).toInt = 11 from rfl] <;> omega
    have z : ¬ inx (Int32.ofNat K - 11) 4 := fun w => by
      have w1 := w.1
      rw [le_i, e, show (0 : Int32).toInt = 0 from rfl] at w1
      omega
    rw [decide_eq_false z, if_neg (by decide), if_neg c]
    rfl
theorem c_sS (hL : lim ≤ T ∧ T + 2 ≤ R ∧ R < b) (h : TC M T t n p) (hK : KF lim T R b M0 D g M) : ok (f_X5_setting M R T b) (CR lim T R b t n M0 (sS t n D g (tE t n p))) := by
  unfold f_X5_setting sS
  rw [h.1.c, bs]
  refine ok.seq (c_next h.o hK.2.2.2 hL.1) ?_
  rintro M1 ⟨F1, C1⟩
  have K1 := hK.ft hL F1
  obtain ⟨q, eq⟩ : ∃ q, q = tE t n p := ⟨_, rfl⟩
  rw [← eq] at C1 ⊢
  have lk := tK_r (t := t) (n := n) q
  rw [C1.1.c, bs, f_set C1.k lk, bs]
  by_cases c : 11 ≤ tK t n q
  · obtain ⟨k, ek⟩ : ∃ k, k = tK t n q - 11 := ⟨_, rfl⟩
    have hk : k < 4 := by omega
    rw [if_pos c, if_pos c, ← ek, if_pos ((nn_lt _).mpr (o_nneg (by omega))), gFI_e K1.2.2.1.2, K1.2.2.1.1, bs, f_has8, bs, b2i_ite]
    unfold sS2
    by_cases c1 : hs g (Int32.ofNat k) = true
    · rw [if_pos c1, if_pos c1]
      exact ok.pure ⟨rfl, K1, C1⟩
    · obtain ⟨t1, -, e1, k1, v1⟩ := K1.2.2.2.1 1 (by omega)
      obtain ⟨t2, -, e2, k2, v2⟩ := K1.2.2.2.1 2 (by omega)
      have g1 : gST M1 1 = some t1 := e1
      have g2 : gST M1 2 = some t2 := e2
      have sl := slo_v k hk
      rw [if_neg c1, if_neg c1, g1, bs, aI_e k1 (Or.inr rfl) hk (by omega), bs, v1 k hk, g2, bs, aI_e k2 (Or.inr rfl) hk (by omega), bs, v2 k hk, sl.1, sl.2.1]
      refine ok.seq (c_int (lo := slo k) (hi := shi k) C1.o K1.2.2.2 hL.1 sl.2.2.1 sl.2.2.2) ?_
      rintro ⟨v, M2⟩ ⟨e3, F2, C2⟩
      dsimp only at e3 F2 C2 ⊢
      rw [← e3]
      have K2 := K1.ft hL F2
      unfold sS3
      by_cases c2 : 0 ≤ v
      · rw [if_pos c2, if_pos c2, gFI_e K2.2.2.1.2, K2.2.2.1.1, bs]
        obtain ⟨y, ey⟩ : ∃ y, y = g ||| ((1 : Int32) <<< (Int32.ofNat k &&& 31)) := ⟨_, rfl⟩
        rw [← ey]
        obtain ⟨M3, q3⟩ : ∃ z, z = sI M2 R 0 y := ⟨_, rfl⟩
        have w3 : pFI M2 R 5 0 y = some M3 := by rw [q3]; exact pFI_e K2.2.2.1.2
        have K3 : KF lim T R b M0 D y M3 := by rw [q3]; exact K2.rr hL y
        have C3 : TC M3 T t n (tE t n q) := by rw [q3]; exact C2.fq (lo := R) (hi := R + 1) (Fq.sI ⟨by omega, by omega⟩) (by omega)
        have s3 := K3.2.1.1
        obtain ⟨M4, q4⟩ : ∃ z, z = sI M3 (b + 9) k v := ⟨_, rfl⟩
        have w4 : wI M3 (b + 9) (Int32.ofNat k) v = some M4 := by rw [q4]; exact wI_e s3.k9 hk (by omega)
        have F4 : Fi b (b + 12) M3 M4 := by rw [q4]; exact Fi.sI ⟨by omega, by omega⟩
        have K4 := K3.w hL F4 (by rw [q4]; exact K3.2.1.s9 hk v)
        have C4 := C3.fq F4.q (by omega)
        rw [w3, bs, s3.r9, bs, w4, bs, C4.1.c, bs]
        refine ok.seq (c_next C4.o K4.2.2.2 hL.1) ?_
        rintro M5 ⟨F5, C5⟩
        exact ok.pure ⟨rfl, K4.ft hL F5, C5⟩
      · rw [if_neg c2, if_neg c2]
        exact ok.pure ⟨rfl, K2, C2⟩
  · rw [if_neg c, if_neg c, if_neg (by decide)]
    exact ok.pure ⟨rfl, K1, C1⟩
theorem TO.fq {lo hi : Nat} (h : TO M T t n p) (hF : Fq lo hi M M') (hb : T + 2 ≤ lo ∨ hi ≤ T) : TO M' T t n p := ⟨h.1.fq hF hb, by rw [hF.i (by omega)]; exact h.2.1, h.2.2⟩
theorem ok.jnS {τ α : Type} {g : τ → Option α} {f : (τ → Option α) → Option α} {P : α → Prop} (Q : τ → Prop) (hg : ∀ x, Q x → ok (g x) P) (hf : ∀ k : τ → Option α, (∀ x, Q x → ok (k x) P) → ok (f k) P) : ok (jn_ g f) P := hf g hg
/-- a text, read -/
theorem c_read (hL : lim ≤ T ∧ T + 2 ≤ R ∧ R < b) (h : TO M T t n 0) (hR : (mK M R).1 = 5) (hB : IsBs M b) (hS : Sta M lim) : ok (f_X5_read M R T b) (fun o => o.1 = (rd t n 1201 D0 0 0 0).1 ∧ Fyk T R b M o.2 ∧ IsP o.2 b (rd t n 1201 D0 0 0 0).2.1 ∧ TC o.2 T t n (rd t n 1201 D0 0 0 0).2.2) := by
  unfold f_X5_read
  rw [hB.c, bs]
  refine ok.seq (f_clear hB hS (by omega)) ?_
  rintro M1 ⟨F1, B1⟩
  have K1 : KF lim T R b M D0 (mI M1 R 0) M1 := ⟨F1.fk, B1.pp, ⟨rfl, by rw [F1.1]; exact hR⟩, hS.fq F1 (by omega)⟩
  have K2 := K1.rr hL 0
  have O2 := (h.fq F1 (by omega)).fq (M' := sI M1 R 0 0) (lo := R) (hi := R + 1) (Fq.sI ⟨by omega, by omega⟩) (by omega)
  have w2 : pFI M1 R 5 0 0 = some (sI M1 R 0 0) := pFI_e K1.2.2.1.2
  rw [w2, bs]
  refine it_r (I := fun i (u : Int32 × Int32 × Mem) => u.1 = Int32.ofNat i ∧ u.2.1 = Int32.ofNat i ∧ ∃ D g p, rd t n 1201 D0 0 0 0 = rd t n (1201 - i) D g i p ∧ i ≤ p ∧ KF lim T R b M D g u.2.2 ∧ TO u.2.2 T t n p) 1201 ⟨rfl, rfl, D0, 0, 0, rfl, Nat.le_refl _, K2, O2⟩ (by omega) ?_ ?_
  · rintro rec i ⟨_, _, M3⟩ hi ⟨rfl, rfl, D, g, p, e, hp, K3, O3⟩ hrec
    dsimp only at K3 O3
    unfold bd_X5_read_14
    dsimp only
    rw [show (1200 : Int32) = Int32.ofNat 1200 from rfl, if_neg (by rw [i_lt (by omega) (by omega)]; omega), O3.1.c, bs]
    refine ok.seq (c_next O3 K3.2.2.2 hL.1) ?_
    rintro M4 ⟨F4, C4⟩
    have K4 := K3.ft hL F4
    have lk := tK_r (t := t) (n := n) p
    rw [show 1201 - i = 1200 - i + 1 by omega, rd_s (D := D) (g := g) (k := i) (p := p) (f := 1200 - i)] at e
    rw [C4.k, bs]
    by_cases c0 : tK t n p = 0
    · rw [if_pos c0] at e
      unfold jn_
      dsimp only
      rw [if_pos (by rw [c0]), e]
      exact ok.pure ⟨rfl, K4.1, K4.2.1, C4⟩
    · rw [if_neg c0] at e
      refine ok.jnS (CR lim T R b t n M (stm t n D g p)) ?_ ?_
      · rintro ⟨o, M5⟩ ⟨e5, K5, C5⟩
        dsimp only at e5 K5 C5 ⊢
        have lk5 := tK_r (t := t) (n := n) (stm t n D g p).2.2.2
        have ps := stm_p (t := t) (n := n) (D := D) (g := g) (p := p)
        rw [e5]
        by_cases c1 : 0 ≤ (stm t n D g p).1
        · rw [if_pos c1] at e
          rw [if_pos c1, C5.k, bs, show (3 : Int32) = Int32.ofNat 3 from rfl]
          by_cases c2 : tK t n (stm t n D g p).2.2.2 = 3
          · rw [if_pos c2] at e
            rw [if_pos (by rw [c2])]
            have gt : tS t n (stm t n D g p).2.2.2 < n := by
              rcases Nat.lt_or_ge (tS t n (stm t n D g p).2.2.2) n with z | z
              · exact z
              · unfold tK at c2
                rw [if_pos z] at c2
                omega
            have gt2 := tE_gt gt
            have gt3 := tS_ge (t := t) (n := n) (stm t n D g p).2.2.2
            refine hrec _ ⟨i_succ, i_succ, _, _, _, ?_, ?_, K5, C5.o⟩
            · rw [e, show 1201 - (i + 1) = 1200 - i by omega]
            · omega
          · rw [if_neg c2] at e
            rw [if_neg (fun z => c2 ((i_inj (by omega) (by omega)).mp z)), e]
            exact ok.pure ⟨rfl, K5.1, K5.2.1, C5⟩
        · rw [if_neg c1] at e
          rw [if_neg c1, e]
          exact ok.pure ⟨rfl, K5.1, K5.2.1, C5⟩
      · intro k hk
        have ne : ∀ j, j < 15 → tK t n p ≠ j → ¬ (Int32.ofNat (tK t n p) = Int32.ofNat j) := fun j hj h z => h ((i_inj (by omega) (by omega)).mp z)
        by_cases k5 : tK t n p = 5
        · skip
          have es : stm t n D g p = sD t n D g p := by
            unfold stm
            rw [if_pos k5]
          rw [if_neg (ne 0 (by omega) (by omega)), if_neg (ne 1 (by omega) (by omega)), if_neg (ne 2 (by omega) (by omega)), if_neg (ne 3 (by omega) (by omega)), if_neg (ne 4 (by omega) (by omega)), if_pos (by rw [k5])]
          refine ok.seq (c_sD hL C4 K4) ?_
          intro o z
          exact hk (o.1, o.2) (by rw [es]; exact z)
        by_cases k6 : tK t n p = 6
        · skip
          have es : stm t n D g p = sJ t n D g p := by
            unfold stm
            rw [if_neg k5, if_pos k6]
          rw [if_neg (ne 0 (by omega) (by omega)), if_neg (ne 1 (by omega) (by omega)), if_neg (ne 2 (by omega) (by omega)), if_neg (ne 3 (by omega) (by omega)), if_neg (ne 4 (by omega) (by omega)), if_neg (ne 5 (by omega) (by omega)), if_pos (by rw [k6])]
          refine ok.seq (c_sJ hL C4 K4) ?_
          intro o z
          exact hk (o.1, o.2) (by rw [es]; exact z)
        by_cases k7 : tK t n p = 7
        · skip
          have es : stm t n D g p = sV t n D g p := by
            unfold stm
            rw [if_neg k5, if_neg k6, if_pos k7]
          rw [if_neg (ne 0 (by omega) (by omega)), if_neg (ne 1 (by omega) (by omega)), if_neg (ne 2 (by omega) (by omega)), if_neg (ne 3 (by omega) (by omega)), if_neg (ne 4 (by omega) (by omega)), if_neg (ne 5 (by omega) (by omega)), if_neg (ne 6 (by omega) (by omega)), if_pos (by rw [k7])]
          refine ok.seq (c_sV hL C4 K4) ?_
          intro o z
          exact hk (o.1, o.2) (by rw [es]; exact z)
        by_cases k10 : tK t n p = 10
        · skip
          have es : stm t n D g p = sS t n D g (tE t n p) := by
            unfold stm
            rw [if_neg k5, if_neg k6, if_neg k7, if_pos k10]
          rw [if_neg (ne 0 (by omega) (by omega)), if_neg (ne 1 (by omega) (by omega)), if_neg (ne 2 (by omega) (by omega)), if_neg (ne 3 (by omega) (by omega)), if_neg (ne 4 (by omega) (by omega)), if_neg (ne 5 (by omega) (by omega)), if_neg (ne 6 (by omega) (by omega)), if_neg (ne 7 (by omega) (by omega)), if_neg (ne 8 (by omega) (by omega)), if_neg (ne 9 (by omega) (by omega)), if_pos (by rw [k10]), ck_e K4.2.2.1.2, bs]
          refine ok.seq (c_sS hL C4 K4) ?_
          intro o z
          exact hk (o.1, o.2) (by rw [es]; exact z)
        have es : stm t n D g p = (-11, D, g, p) := by
          unfold stm
          rw [if_neg k5, if_neg k6, if_neg k7, if_neg k10]
        have fin := hk (-11, M4) (by rw [es]; exact ⟨rfl, K4, C4⟩)
        rw [if_neg (ne 0 (by omega) c0)]
        by_cases k1 : tK t n p = 1
        · rw [if_pos (by rw [k1])]; exact fin
        rw [if_neg (ne 1 (by omega) k1)]
        by_cases k2 : tK t n p = 2
        · rw [if_pos (by rw [k2])]; exact fin
        rw [if_neg (ne 2 (by omega) k2)]
        by_cases k3 : tK t n p = 3
        · rw [if_pos (by rw [k3])]; exact fin
        rw [if_neg (ne 3 (by omega) k3)]
        by_cases k4 : tK t n p = 4
        · rw [if_pos (by rw [k4])]; exact fin
        rw [if_neg (ne 4 (by omega) k4)]
        rw [if_neg (ne 5 (by omega) k5)]
        rw [if_neg (ne 6 (by omega) k6)]
        rw [if_neg (ne 7 (by omega) k7)]
        by_cases k8 : tK t n p = 8
        · rw [if_pos (by rw [k8])]; exact fin
        rw [if_neg (ne 8 (by omega) k8)]
        by_cases k9 : tK t n p = 9
        · rw [if_pos (by rw [k9])]; exact fin
        rw [if_neg (ne 9 (by omega) k9)]
        rw [if_neg (ne 10 (by omega) k10)]
        exact fin
  · rintro rec ⟨_, _, M3⟩ ⟨rfl, rfl, D, g, p, e, hp, K3, O3⟩
    dsimp only at O3
    have := O3.lt
    exfalso
    omega
end
