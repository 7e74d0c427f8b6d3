/-! ===== the reference's greedy rule in all, and its equal shares ===== -/
section
variable {M : Mem} {m : Nat} {D : Bl}
theorem hs_rm {w : Int32} {p o : Nat} (hp : p < 32) (ho : o < 32) : hs (w &&& (bt p ^^^ (-1))) (Int32.ofNat o) = (hs w (Int32.ofNat o) && !decide (o = p)) := by
  rw [hs_and ho, hs_not ho]
  unfold bt
  rw [hs_one hp ho]
theorem hs_ad {w : Int32} {p o : Nat} (hp : p < 32) (ho : o < 32) : hs (w ||| bt p) (Int32.ofNat o) = (hs w (Int32.ofNat o) || decide (o = p)) := by
  rw [hs_or ho]
  unfold bt
  rw [hs_one hp ho]
theorem m_lin {α : Type} (h : IsM M m D) {p : Nat} (hp : p < cn D 1) {L : Nat → Int32} (hL : ∀ d, d < cn D 0 → D 2 d - mI M (m + 16) d = L d) (x y z : Int32) (kk : Int32 × Int32 → Option α) : it_ (bd_X9_greedily_76 m (x, y, M) (Int32.ofNat p, z) kk) FU (0, 0) = kk (lin D L (D 5 p), Int32.ofNat (cn D 0)) := by
  have l0 := h.n.2.1
  refine it_s (k := fun a => kk (a, Int32.ofNat (cn D 0))) (cn D 0) _ h.n.m0 (fun rec i a hi => ?_) (fun rec a => ?_)
  · unfold bd_X9_greedily_76
    simp only [h.g5, bs, ile_n hi h.n.l0, h.s.r10, h.d5 hp, f_has9, b2i_ite, h.s.r0, h.d2 hi, h.s.r36, h.s.a36 (show i < 4 by omega), hL i hi, is_, ltq, i_succ]
  · unfold bd_X9_greedily_76
    simp only [h.g5, bs, ile_e]
theorem m_greedily (h : IsM M m D) (hG : Gd D) (hT : Tl D) {s : Rst} (hI : Iv D s) (hZ : Zs s) {L0 : Nat → Int32} (hM : MG M m D s (g0 L0)) : ok (f_X9_greedily M m) (fun M' => Mf m M M' ∧ (∀ x, x = m + 11 ∨ x = m + 13 ∨ x = m + 14 → ∀ k, mI M' x k = mI M x k) ∧ mI M' m 38 = mI M m 38 ∧ mI M' m 39 = mI M m 39 ∧ MG M' m D s (tk D (vo D &&& (sh_ s ^^^ (-1))) (g0 L0) (cn D 1)).2) := by
  have l0 := hG.n.2.1
  have l1 := hG.n.2.2.1
  have l2 := hG.n.2.2.2
  have e30 : mI M m 30 = sh_ s := by rw [hM.2.2.2.2]; exact Int32.or_zero
  unfold f_X9_greedily
  simp only [h.s.gi, bs, e30]
  generalize hw0 : vo D &&& (sh_ s ^^^ (-1)) = w0
  refine ok.itF (fun u : Int32 × Int32 × Mem => ∃ k, ¬ u.2.1 < 0 ∧ Mf m M u.2.2 ∧ (∀ x, x = m + 11 ∨ x = m + 13 ∨ x = m + 14 → ∀ k, mI u.2.2 x k = mI M x k) ∧ (mI u.2.2 m 38 = mI M m 38 ∧ mI u.2.2 m 39 = mI M m 39) ∧ MG u.2.2 m D s (tk D w0 (g0 L0) k).2 ∧ (∀ p, p < cn D 1 → hs (tk D w0 (g0 L0) k).1 (Int32.ofNat p) = (!hs u.1 (Int32.ofNat p) && !decide (D 11 p ≤ 0))) ∧ (∀ o, o < 12 → hs (sh_ s ||| gh (tk D w0 (g0 L0) k).2) (Int32.ofNat o) = true → hs u.1 (Int32.ofNat o) = true) ∧ (∀ o, o < 12 → ¬ hs (gh (tk D w0 (g0 L0) k).2) (Int32.ofNat o) = true → ∀ d, gT_ (tk D w0 (g0 L0) k).2 o d = 0) ∧ sc s + gc (tk D w0 (g0 L0) k).2 = ctB (sh_ s ||| gh (tk D w0 (g0 L0) k).2) (cn D 1) ∧ k ≤ ctB u.1 (cn D 1)) (fun u => cn D 1 - ctB u.1 (cn D 1)) ⟨0, by show ¬ (0 : Int32) < 0; decide, Mf.rf, fun _ _ _ => rfl, ⟨rfl, rfl⟩, hM, fun p hp => ?_, fun o ho z => ?_, fun _ _ _ _ => rfl, ?_, Nat.zero_le _⟩ (by show cn D 1 - _ < _; omega) ?_
  · show hs w0 _ = _
    rw [← hw0, hs_and (by omega), hs_not (by omega), hs_vo hG.n (by omega), decide_eq_true hp, Bool.true_and, Bool.and_comm]
  · have z2 : hs (sh_ s ||| 0) (Int32.ofNat o) = true := z
    rw [Int32.or_zero] at z2
    exact z2
  · show sc s + 0 = ctB (sh_ s ||| 0) (cn D 1)
    rw [Int32.or_zero]
    exact hI.2.1
  · rintro rec ⟨done, f, M1⟩ ⟨k, hf, F1, hx, hf3, hMG, hw, hsub, hgz, hcc, hk⟩ hrec
    dsimp only at hf F1 hx hf3 hMG hw hsub hcc hk
    have h1 := h.mf F1
    unfold bd_X9_greedily_7
    dsimp only
    rw [if_neg hf, ltq, m_gscan h1 hG hT hw]
    dsimp only
    have hk2 := ctB_le done (cn D 1)
    rcases fst_in hG.n (tk D w0 (g0 L0) k).1 with e | ⟨p, hp, e, hwp⟩
    · rw [e, if_neg (by decide)]
      have := tk_stop (D := D) (w := w0) (s := g0 L0) (n := k) (by rw [e]; exact m1_neg) (cn D 1 - k)
      rw [show k + (cn D 1 - k) = cn D 1 by omega] at this
      rw [this]
      exact ok.pure ⟨F1, hx, hf3.1, hf3.2, hMG⟩
    · have e0 : (0 : Int32) ≤ Int32.ofNat p := by
        rw [show (0 : Int32) = Int32.ofNat 0 from rfl, i_le (by omega) (by omega)]; omega
      have hnd : ¬ hs done (Int32.ofNat p) = true := fun z => by
        rw [hw p hp, z] at hwp
        exact Bool.noConfusion hwp
      have hct : ctB (done ||| bt p) (cn D 1) = ctB done (cn D 1) + 1 := by rw [ctB_or (by omega) (by omega) hnd, if_pos hp]
      have hlt := ctB_lt hp hnd
      have hst : tk D w0 (g0 L0) (k + 1) = ((tk D w0 (g0 L0) k).1 &&& (bt p ^^^ (-1)), if lin D (gL (tk D w0 (g0 L0) k).2) (D 5 p) < D 4 p then (tk D w0 (g0 L0) k).2 else gfu D (tk D w0 (g0 L0) k).2 p) := by
        rw [tk_s]
        unfold tkS
        rw [if_neg (by rw [e]; exact o_nneg (by omega)), e, ix_o (by omega)]
      have hw' : ∀ o, o < cn D 1 → hs ((tk D w0 (g0 L0) k).1 &&& (bt p ^^^ (-1))) (Int32.ofNat o) = (!hs (done ||| bt p) (Int32.ofNat o) && !decide (D 11 o ≤ 0)) := fun o ho => by
        rw [hs_rm (by omega) (by omega), hs_ad (by omega) (by omega), hw o ho]
        cases hs done (Int32.ofNat o) <;> cases decide (D 11 o ≤ 0) <;> cases decide (o = p) <;> rfl
      rw [e, if_pos e0, ltq, show (1 : Int32) <<< (Int32.ofNat p &&& 31) = bt p from rfl, m_lin h1 hp hMG.1]
      generalize hg : (tk D w0 (g0 L0) k).2 = g at *
      obtain ⟨z1, z2, z3, z4, z5⟩ := hMG
      simp only [h1.s.r0, bs, h1.d4 hp]
      by_cases c : D 4 p ≤ lin D (gL g) (D 5 p)
      · have cn_ : ¬ lin D (gL g) (D 5 p) < D 4 p := by rw [lt_i]; rw [le_i] at c; omega
        rw [if_neg cn_] at hst
        have hnu : ¬ hs (sh_ s ||| gh g) (Int32.ofNat p) = true := fun z => hnd (hsub p (by omega) z)
        have hnb : ¬ hs (sh_ s) (Int32.ofNat p) = true ∧ ¬ hs (gh g) (Int32.ofNat p) = true := by
          rw [hs_or (by omega), Bool.or_eq_true] at hnu
          exact ⟨fun z => hnu (Or.inl z), fun z => hnu (Or.inr z)⟩
        have hcl := ctB_lt hp hnu
        have hT0 : ∀ d, sT s p d + gT_ g p d = 0 := fun d => by rw [(hZ p (by omega) hnb.1).2 d, hgz p (by omega) hnb.2 d]; rfl
        have hc12 : sc s + gc g < 12 := by omega
        rw [if_pos c, h1.s.c, bs, m_note h1.s z4 z5 hc12, bs]
        have F2 : Mf m M1 (sI (sI (sI M1 m 30 (sh_ s ||| gh g ||| bt p)) (m + 12) (sc s + gc g) (Int32.ofNat p)) m 31 (Int32.ofNat (sc s + gc g + 1))) := (Mf.sI _ (by omega)).trans ((Mf.sIr _ (by omega) (by omega)).trans (Mf.sI _ (by omega)))
        have i1 : ∀ x j, x ≠ m → x ≠ m + 12 → mI (sI (sI (sI M1 m 30 (sh_ s ||| gh g ||| bt p)) (m + 12) (sc s + gc g) (Int32.ofNat p)) m 31 (Int32.ofNat (sc s + gc g + 1))) x j = mI M1 x j := fun x j z1 z2 => by
          rw [i_sI, if_neg (by omega), i_sI, if_neg (by omega), i_sI, if_neg (by omega)]
        have j30 : mI (sI (sI (sI M1 m 30 (sh_ s ||| gh g ||| bt p)) (m + 12) (sc s + gc g) (Int32.ofNat p)) m 31 (Int32.ofNat (sc s + gc g + 1))) m 30 = sh_ s ||| gh g ||| bt p := by
          rw [i_sI, if_neg (by omega), i_sI, if_neg (by omega), i_sI, if_pos ⟨rfl, rfl⟩]
        have j31 : mI (sI (sI (sI M1 m 30 (sh_ s ||| gh g ||| bt p)) (m + 12) (sc s + gc g) (Int32.ofNat p)) m 31 (Int32.ofNat (sc s + gc g + 1))) m 31 = Int32.ofNat (sc s + gc g + 1) := by
          rw [i_sI, if_pos ⟨rfl, rfl⟩]
        have j3 : ∀ j, j = 38 ∨ j = 39 → mI (sI (sI (sI M1 m 30 (sh_ s ||| gh g ||| bt p)) (m + 12) (sc s + gc g) (Int32.ofNat p)) m 31 (Int32.ofNat (sc s + gc g + 1))) m j = mI M1 m j := fun j hj => by
          rw [i_sI, if_neg (by omega), i_sI, if_neg (by omega), i_sI, if_neg (by omega)]
        have j12 : ∀ k, mI (sI (sI (sI M1 m 30 (sh_ s ||| gh g ||| bt p)) (m + 12) (sc s + gc g) (Int32.ofNat p)) m 31 (Int32.ofNat (sc s + gc g + 1))) (m + 12) k = if k = sc s + gc g then Int32.ofNat p else mI M1 (m + 12) k := fun k => by
          rw [i_sI, if_neg (by omega), i_sI]
          by_cases e : k = sc s + gc g
          · rw [if_pos ⟨rfl, e⟩, if_pos e]
          · rw [if_neg (by omega), if_neg e, i_sI, if_neg (by omega)]
        have h2 := h1.mf F2
        generalize sI (sI (sI M1 m 30 (sh_ s ||| gh g ||| bt p)) (m + 12) (sc s + gc g) (Int32.ofNat p)) m 31 (Int32.ofNat (sc s + gc g + 1)) = M2 at *
        have hL2 : ∀ d, d < cn D 0 → D 2 d - mI M2 (m + 16) d = gL g d := fun d hd => by rw [i1 _ _ (by omega) (by omega)]; exact z1 d hd
        rw [h2.s.r0, bs, h2.d4 hp, bs, m_gpay h2 hp hL2]
        dsimp only
        have F3 : Fi (m + 15) (m + 17) M2 (sW M2 (ggF M2 m p (D 5 p) (D 4 p) (gL g) (cn D 0))) := Fi.W fun x hx => by
          funext j
          unfold ggF
          rw [if_neg (show ¬ (x = m + 15 ∧ 4 * p ≤ j ∧ j < 4 * p + cn D 0 ∧ hs (D 5 p) (Int32.ofNat (j - 4 * p)) = true) by omega), if_neg (show ¬ (x = m + 16 ∧ j < cn D 0) by omega)]
        have f3 : ∀ x j, mI (sW M2 (ggF M2 m p (D 5 p) (D 4 p) (gL g) (cn D 0))) x j = ggF M2 m p (D 5 p) (D 4 p) (gL g) (cn D 0) x j := fun x j => rfl
        generalize sW M2 (ggF M2 m p (D 5 p) (D 4 p) (gL g) (cn D 0)) = M3 at *
        refine hrec _ ⟨k + 1, o_nneg (by omega), F1.trans (F2.trans (Mf.of F3 (by omega) (by omega))), fun x q k => ?_, ⟨?_, ?_⟩, ?_, ?_, ?_, ?_, ?_, ?_⟩ ?_
        · show mI M3 x k = _
          rw [F3.i (by omega), i1 _ _ (by omega) (by omega)]; exact hx x q k
        · show mI M3 m 38 = _
          rw [F3.i (by omega), j3 _ (by omega)]; exact hf3.1
        · show mI M3 m 39 = _
          rw [F3.i (by omega), j3 _ (by omega)]; exact hf3.2
        · rw [hst]
          dsimp only
          refine ⟨fun d hd => ?_, fun o ho d hd => ?_, fun k hk => ?_, ?_, ?_⟩
          · rw [f3]
            unfold ggF
            rw [if_neg (show ¬ (m + 16 = m + 15 ∧ 4 * p ≤ d ∧ d < 4 * p + cn D 0 ∧ hs (D 5 p) (Int32.ofNat (d - 4 * p)) = true) by omega), if_pos (show m + 16 = m + 16 ∧ d < cn D 0 by omega), ← i_subsub, hL2 d hd]
            rfl
          · rw [f3]
            unfold ggF
            show _ = sT s o d + (if o = p then gT_ g p d + pt (D 5 p) (gL g) (D 4 p) d else gT_ g o d)
            by_cases eo : o = p
            · subst eo
              rw [if_pos rfl, ← Int32.add_assoc, hT0 d, Int32.zero_add]
              by_cases ch : hs (D 5 o) (Int32.ofNat d) = true
              · have hdn : d < cn D 0 := by
                  rcases Nat.lt_or_ge d (cn D 0) with z | z
                  · exact z
                  · rw [(hG.2.2.1 o hp).2 d z (by omega)] at ch
                    exact Bool.noConfusion ch
                rw [if_pos (show m + 15 = m + 15 ∧ 4 * o ≤ 4 * o + d ∧ 4 * o + d < 4 * o + cn D 0 ∧ hs (D 5 o) (Int32.ofNat (4 * o + d - 4 * o)) = true from ⟨rfl, by omega, by omega, by rw [Nat.add_sub_cancel_left]; exact ch⟩), Nat.add_sub_cancel_left]
              · rw [if_neg (show ¬ (m + 15 = m + 15 ∧ 4 * o ≤ 4 * o + d ∧ 4 * o + d < 4 * o + cn D 0 ∧ hs (D 5 o) (Int32.ofNat (4 * o + d - 4 * o)) = true) from fun z => by
                  have z2 := z.2.2.2
                  rw [Nat.add_sub_cancel_left] at z2
                  exact ch z2), if_neg (show ¬ (m + 15 = m + 16 ∧ 4 * o + d < cn D 0) by omega), i1 _ _ (by omega) (by omega), z2 o ho d hd, hT0 d]
                unfold pt
                rw [if_neg ch]
            · rw [if_neg eo, if_neg (show ¬ (m + 15 = m + 15 ∧ 4 * p ≤ 4 * o + d ∧ 4 * o + d < 4 * p + cn D 0 ∧ hs (D 5 p) (Int32.ofNat (4 * o + d - 4 * p)) = true) by omega), if_neg (show ¬ (m + 15 = m + 16 ∧ 4 * o + d < cn D 0) by omega), i1 _ _ (by omega) (by omega), z2 o ho d hd]
          · have hk' : k < sc s + (gc g + 1) := hk
            rw [F3.i (by omega), j12]
            show _ = if k < sc s then sQ s k else if k - sc s = gc g then Int32.ofNat p else gQ g (k - sc s)
            by_cases e1 : k = sc s + gc g
            · rw [if_pos e1, if_neg (by omega), if_pos (by omega)]
            · rw [if_neg e1, z3 k (by omega)]
              by_cases e2 : k < sc s
              · rw [if_pos e2, if_pos e2]
              · rw [if_neg e2, if_neg e2, if_neg (by omega)]
          · rw [F3.i (by omega)]; exact j31
          · rw [F3.i (by omega), j30]
            show _ = sh_ s ||| (gh g ||| bt p)
            rw [Int32.or_assoc]
        · rw [hst]; exact hw'
        · intro o ho z
          rw [hst] at z
          have z' : hs (sh_ s ||| (gh g ||| bt p)) (Int32.ofNat o) = true := z
          show hs (done ||| bt p) (Int32.ofNat o) = true
          rw [← Int32.or_assoc, hs_ad (by omega) (by omega), Bool.or_eq_true] at z'
          rw [hs_ad (by omega) (by omega), Bool.or_eq_true]
          rcases z' with z' | z'
          · exact Or.inl (hsub o ho z')
          · exact Or.inr z'
        · rw [hst]
          intro o ho z d
          have z' : ¬ hs (gh g ||| bt p) (Int32.ofNat o) = true := z
          rw [hs_ad (by omega) (by omega), Bool.or_eq_true, decide_eq_true_eq] at z'
          show (if o = p then _ else _) = _
          rw [if_neg (fun q => z' (Or.inr q))]
          exact hgz o ho (fun q => z' (Or.inl q)) d
        · rw [hst]
          show sc s + (gc g + 1) = ctB (sh_ s ||| (gh g ||| bt p)) (cn D 1)
          rw [← Int32.or_assoc, ctB_or (by omega) (by omega) hnu, if_pos hp, ← hcc, Nat.add_assoc]
        · show k + 1 ≤ ctB (done ||| bt p) (cn D 1)
          omega
        · show cn D 1 - ctB (done ||| bt p) (cn D 1) < cn D 1 - ctB done (cn D 1)
          omega
      · have cn_ : lin D (gL g) (D 5 p) < D 4 p := by rw [lt_i]; rw [le_i] at c; omega
        rw [if_pos cn_] at hst
        rw [if_neg c]
        refine hrec _ ⟨k + 1, o_nneg (by omega), F1, hx, hf3, ?_, ?_, ?_, ?_, ?_, ?_⟩ ?_
        · rw [hst]; exact ⟨z1, z2, z3, z4, z5⟩
        · rw [hst]; exact hw'
        · rw [hst]
          intro o ho z
          show hs (done ||| bt p) (Int32.ofNat o) = true
          rw [hs_ad (by omega) (by omega), hsub o ho z]
          rfl
        · rw [hst]; exact hgz
        · rw [hst]; exact hcc
        · show k + 1 ≤ ctB (done ||| bt p) (cn D 1)
          omega
        · show cn D 1 - ctB (done ||| bt p) (cn D 1) < cn D 1 - ctB done (cn D 1)
          omega
end
