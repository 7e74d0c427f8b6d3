/-! ===== questions of the rules: ranks, claims, best sets ===== -/
section
variable {M M' : Mem} {x m bb sb : Nat} {D : Bl}
def rkF (g : Nat → Int32) (v i : Nat) : Int32 := if g v < g i then 1 else if g i = g v then (if Int32.ofNat v ≤ Int32.ofNat i then 0 else 1) else 0
noncomputable def rnk (D : Bl) (r : Int32) (v : Nat) : Int32 := if isR r then sm (cn D 2) (rkF (jy D (SS D r)) v) else -2
theorem c_rankOf (h : CQ M x bb sb D) (hG : Gd D) (hT : Tl D) (r a : Int32) : ok (f_X8_rankOf M x r a) (ThrC x bb sb D M (inx a (cn D 2)) (rnk D r (ix a))) := by
  have lm := h.2.1.n.2.2.2
  unfold f_X8_rankOf rnk
  simp only [h.1.r8, bs, h.2.1.g2]
  by_cases c : inx a (cn D 2)
  · obtain ⟨k, hk, rfl⟩ := ix_of (by omega) c
    rw [thB_p (by rw [f_ckx, if_pos c]), f_isR, bs, b2i_ite]
    by_cases hr : isR r
    · rw [if_pos (dR hr), if_pos hr, h.1.c, bs]
      refine c_rule h hG hT hr fun M1 C1 h1 => ?_
      simp only [h1.1.r8, bs, h1.2.1.c, f_jy h1.2.1]
      have key : ∀ kk : Int32 × Int32 → Option (Option Int32 × Mem), it_ (bd_X8_rankOf_44 x (Int32.ofNat k) (SS D r, M1) (jy D (SS D r) k) kk) FU (0, 0) = kk (sm (cn D 2) (rkF (jy D (SS D r)) k), Int32.ofNat (cn D 2)) := fun kk => by
        refine it_s (k := fun a => kk (a, Int32.ofNat (cn D 2))) (cn D 2) _ h.2.1.n.m2 (fun rec i z hi => ?_) (fun rec z => ?_)
        · unfold bd_X8_rankOf_44
          simp only [h1.1.r8, bs, h1.2.1.g2, ile_n hi h1.2.1.n.l2, h1.2.1.c, f_jy h1.2.1, is_, i_succ]
          refine congrArg (fun z => rec (z, Int32.ofNat (i + 1))) ?_
          unfold rkF
          split
          · rfl
          · split
            · split
              · exact (Int32.add_zero _).symm
              · rfl
            · exact (Int32.add_zero _).symm
        · unfold bd_X8_rankOf_44
          simp only [h1.1.r8, bs, h1.2.1.g2, ile_e]
      rw [key]
      exact ok.pure ⟨fun _ => ⟨by rw [ix_o (by omega)], C1, h1⟩, fun z => absurd c z⟩
    · rw [if_neg (dN hr), if_neg hr]
      exact ok.pure ⟨fun _ => ⟨rfl, Cq.rf, h⟩, fun z => absurd c z⟩
  · rw [thB_n (by rw [f_ckx, if_neg c])]
    exact ok.pure ⟨fun z => absurd z c, fun _ => rfl⟩
theorem q_rankOf (h : IsM M m D) (hG : Gd D) (hT : Tl D) (hL : mI M m 37 = 12) (r a : Int32) : ok (f_X9_rankOf M m r a) (ThrM m M (inx a (cn D 2)) (rnk D r (ix a))) := by
  have lm := h.n.2.2.2
  unfold f_X9_rankOf rnk
  simp only [h.s.c, bs, m_isV h, m_fails h.s, b2i_ite]
  by_cases c : inx a (cn D 2)
  · obtain ⟨k, hk, rfl⟩ := ix_of (by omega) c
    have h1 : IsM (sI M m 4 0) m D := h.sIo (by omega) _
    rw [fYb c, if_neg (fY c), h1.s.c, bs]
    by_cases hr : isR r
    · refine q_rule h1 hG hT (L4 hL 0) hr fun M1 F1 h2 e _ _ _ => ?_
      rw [if_pos hr, if_neg (show ¬ (1 : Int32) = 0 by decide)]
      have key : ∀ kk : Int32 × Int32 → Option (Int32 × Mem), it_ (bd_X9_rankOf_30 m (Int32.ofNat k) (1, M1) kk) FU (0, 0) = kk (sm (cn D 2) (rkF (jy D (SS D r)) k), Int32.ofNat (cn D 2)) := fun kk => by
        refine it_s (k := fun a => kk (a, Int32.ofNat (cn D 2))) (cn D 2) _ h.n.m2 (fun rec i z hi => ?_) (fun rec z => ?_)
        · unfold bd_X9_rankOf_30
          simp only [h2.g7, bs, ile_n hi h2.n.l2, h2.s.c, m_joy h2 hT e hi, m_joy h2 hT e hk, is_, ltq, i_succ]
          rfl
        · unfold bd_X9_rankOf_30
          simp only [h2.g7, bs, ile_e]
      rw [key]
      exact ok.pure ⟨fun _ => ⟨by rw [ix_o (by omega)], F1⟩, fun z => absurd c z⟩
    · rw [m_runN _ _ hr, bs, if_pos rfl, if_neg hr]
      exact ok.pure ⟨fun _ => ⟨rfl, Mq.rf⟩, fun z => absurd c z⟩
  · rw [fNb c, if_pos (fN c)]
    exact ok.pure ⟨fun z => absurd z c, fun _ => rfl⟩
noncomputable def dwl (D : Bl) (r : Int32) (d : Nat) : Int32 := if isR r then sm (cn D 2) (fun v => if hs (D 7 v) (Int32.ofNat d) = true then jy D (SS D r) v else 0) else -2
theorem c_districtWelfare (h : CQ M x bb sb D) (hG : Gd D) (hT : Tl D) (r a : Int32) : ok (f_X8_districtWelfare M x r a) (ThrC x bb sb D M (inx a (cn D 0)) (dwl D r (ix a))) := by
  have lm := h.2.1.n.2.1
  unfold f_X8_districtWelfare dwl
  simp only [h.1.r8, bs, h.2.1.g0]
  by_cases c : inx a (cn D 0)
  · obtain ⟨k, hk, rfl⟩ := ix_of (by omega) c
    rw [thB_p (by rw [f_ckx, if_pos c]), f_isR, bs, b2i_ite]
    by_cases hr : isR r
    · rw [if_pos (dR hr), if_pos hr, h.1.c, bs]
      refine c_rule h hG hT hr fun M1 C1 h1 => ?_
      have key : ∀ kk : Int32 × Int32 → Option (Option Int32 × Mem), it_ (bd_X8_districtWelfare_33 x (Int32.ofNat k) (SS D r, M1) kk) FU (0, 0) = kk (sm (cn D 2) (fun v => if hs (D 7 v) (Int32.ofNat k) = true then jy D (SS D r) v else 0), Int32.ofNat (cn D 2)) := fun kk => by
        refine it_s (k := fun a => kk (a, Int32.ofNat (cn D 2))) (cn D 2) _ h.2.1.n.m2 (fun rec i z hi => ?_) (fun rec z => ?_)
        · unfold bd_X8_districtWelfare_33
          simp only [h1.1.r8, bs, h1.2.1.g2, ile_n hi h1.2.1.n.l2, h1.2.1.s.r7, h1.2.1.a7 hi, f_has8, b2i_ite, h1.2.1.c, f_jy h1.2.1, is_, ltq, add_ite, i_succ]
        · unfold bd_X8_districtWelfare_33
          simp only [h1.1.r8, bs, h1.2.1.g2, ile_e]
      rw [key]
      exact ok.pure ⟨fun _ => ⟨by rw [ix_o (by omega)], C1, h1⟩, fun z => absurd c z⟩
    · rw [if_neg (dN hr), if_neg hr]
      exact ok.pure ⟨fun _ => ⟨rfl, Cq.rf, h⟩, fun z => absurd c z⟩
  · rw [thB_n (by rw [f_ckx, if_neg c])]
    exact ok.pure ⟨fun z => absurd z c, fun _ => rfl⟩
theorem q_districtWelfare (h : IsM M m D) (hG : Gd D) (hT : Tl D) (hL : mI M m 37 = 12) (r a : Int32) : ok (f_X9_districtWelfare M m r a) (ThrM m M (inx a (cn D 0)) (dwl D r (ix a))) := by
  have lm := h.n.2.1
  unfold f_X9_districtWelfare dwl
  simp only [h.s.c, bs, m_isD h, m_fails h.s, b2i_ite]
  by_cases c : inx a (cn D 0)
  · obtain ⟨k, hk, rfl⟩ := ix_of (by omega) c
    have h1 : IsM (sI M m 4 0) m D := h.sIo (by omega) _
    rw [fYb c, if_neg (fY c), h1.s.c, bs]
    by_cases hr : isR r
    · refine q_rule h1 hG hT (L4 hL 0) hr fun M1 F1 h2 e _ _ _ => ?_
      rw [if_pos hr, if_neg (show ¬ (1 : Int32) = 0 by decide)]
      have key : ∀ kk : Int32 × Int32 → Option (Int32 × Mem), it_ (bd_X9_districtWelfare_30 m (Int32.ofNat k) (1, M1) kk) FU (0, 0) = kk (sm (cn D 2) (fun v => if hs (D 7 v) (Int32.ofNat k) = true then jy D (SS D r) v else 0), Int32.ofNat (cn D 2)) := fun kk => by
        refine it_s (k := fun a => kk (a, Int32.ofNat (cn D 2))) (cn D 2) _ h.n.m2 (fun rec i z hi => ?_) (fun rec z => ?_)
        · unfold bd_X9_districtWelfare_30
          simp only [h2.g7, bs, ile_n hi h2.n.l2, h2.s.r0, h2.d7 hi, f_has9, b2i_ite, h2.s.c, m_joy h2 hT e hi, is_, ltq, i_succ]
        · unfold bd_X9_districtWelfare_30
          simp only [h2.g7, bs, ile_e]
      rw [key]
      exact ok.pure ⟨fun _ => ⟨by rw [ix_o (by omega)], F1⟩, fun z => absurd c z⟩
    · rw [m_runN _ _ hr, bs, if_pos rfl, if_neg hr]
      exact ok.pure ⟨fun _ => ⟨rfl, Mq.rf⟩, fun z => absurd c z⟩
  · rw [fNb c, if_pos (fN c)]
    exact ok.pure ⟨fun z => absurd z c, fun _ => rfl⟩
/-! a claim that outweighs its cost -/
noncomputable def unF (D : Bl) (set : Int32) (p : Nat) : Int32 := if hs set (Int32.ofNat p) = true then 1 else if cl D set p < D 4 p then 1 else 0
noncomputable def unj (D : Bl) (r : Int32) : Int32 := if isR r then plN (unF D (SS D r)) 0 (cn D 1) else -2
theorem c_unjust (h : CQ M x bb sb D) (hG : Gd D) (hT : Tl D) (r : Int32) : ok (f_X8_unjust M x r) (RetC x bb sb D M (unj D r)) := by
  have l1 := h.2.1.n.2.2.1
  unfold f_X8_unjust unj
  rw [f_isR, bs, b2i_ite]
  by_cases hr : isR r
  · rw [if_pos (dR hr), if_pos hr, h.1.c, bs]
    refine c_rule h hG hT hr fun M1 C1 h1 => ?_
    refine it_r (I := fun i (u : Int32) => u = Int32.ofNat i ∧ ∀ k, k < i → unF D (SS D r) k ≠ 0) (cn D 1) ⟨rfl, fun k hk => absurd hk (Nat.not_lt_zero k)⟩ h.2.1.n.m1 ?_ ?_
    · rintro rec i _ hi ⟨rfl, h0⟩ hrec
      have nx : unF D (SS D r) i ≠ 0 → ∀ k, k < i + 1 → unF D (SS D r) k ≠ 0 := fun z k hk => by
        by_cases e : k = i
        · subst e; exact z
        · exact h0 k (by omega)
      unfold bd_X8_unjust_18
      simp only [h1.1.r8, bs, h1.2.1.g1, ile_n hi h1.2.1.n.l1, f_has8, b2i_ite, h1.2.1.c, f_cl h1.2.1 _ hi, h1.2.1.s.r4, h1.2.1.a4 hi, i_succ]
      refine ok.ite (fun c => hrec _ ⟨rfl, nx (by unfold unF; rw [if_pos c]; decide)⟩) (fun c => ?_)
      refine ok.ite (fun c2 => hrec _ ⟨rfl, nx (by unfold unF; rw [if_neg c, if_pos c2]; decide)⟩) (fun c2 => ?_)
      have e := plN_at (show i < 2147483648 by omega) (show unF D (SS D r) i = 0 by unfold unF; rw [if_neg c, if_neg c2]) h0 (cn D 1 - (i + 1))
      rw [show i + 1 + (cn D 1 - (i + 1)) = cn D 1 by omega] at e
      exact ok.pure ⟨e.symm, C1, h1⟩
    · rintro rec _ ⟨rfl, h0⟩
      unfold bd_X8_unjust_18
      simp only [h1.1.r8, bs, h1.2.1.g1, ile_e]
      exact ok.pure ⟨(plN_no h0).symm, C1, h1⟩
  · rw [if_neg (dN hr), if_neg hr]
    exact ok.pure ⟨rfl, Cq.rf, h⟩
theorem q_unjust (h : IsM M m D) (hG : Gd D) (hT : Tl D) (hL : mI M m 37 = 12) (r : Int32) : ok (f_X9_unjust M m r) (RetM m M (unj D r)) := by
  have l1 := h.n.2.2.1
  have h1 : IsM (sI M m 4 0) m D := h.sIo (by omega) _
  unfold f_X9_unjust unj
  rw [h.s.p, bs, h1.s.c, bs]
  by_cases hr : isR r
  · refine q_rule h1 hG hT (L4 hL 0) hr fun M1 F1 h2 e _ _ _ => ?_
    rw [if_pos hr, if_neg (show ¬ (1 : Int32) = 0 by decide)]
    refine it_r (I := fun i (u : Int32) => u = Int32.ofNat i ∧ ∀ k, k < i → unF D (SS D r) k ≠ 0) (cn D 1) ⟨rfl, fun k hk => absurd hk (Nat.not_lt_zero k)⟩ h.n.m1 ?_ ?_
    · rintro rec i _ hi ⟨rfl, h0⟩ hrec
      have nx : unF D (SS D r) i ≠ 0 → ∀ k, k < i + 1 → unF D (SS D r) k ≠ 0 := fun z k hk => by
        by_cases e : k = i
        · subst e; exact z
        · exact h0 k (by omega)
      unfold bd_X9_unjust_18
      simp only [h2.g6, bs, ile_n hi h2.n.l1, h2.s.gi, e, f_has9, b2i_ite, h2.s.c, m_claim h2 hG hT e hi, h2.s.r0, h2.d4 hi, i_succ]
      refine ok.ite (fun c => hrec _ ⟨rfl, nx (by unfold unF; rw [if_pos c]; decide)⟩) (fun c => ?_)
      refine ok.ite (fun c2 => hrec _ ⟨rfl, nx (by unfold unF; rw [if_neg c, if_pos c2]; decide)⟩) (fun c2 => ?_)
      have e := plN_at (show i < 2147483648 by omega) (show unF D (SS D r) i = 0 by unfold unF; rw [if_neg c, if_neg c2]) h0 (cn D 1 - (i + 1))
      rw [show i + 1 + (cn D 1 - (i + 1)) = cn D 1 by omega] at e
      exact ok.pure ⟨e.symm, F1⟩
    · rintro rec _ ⟨rfl, h0⟩
      unfold bd_X9_unjust_18
      simp only [h2.g6, bs, ile_e]
      exact ok.pure ⟨(plN_no h0).symm, F1⟩
  · rw [m_runN _ _ hr, bs, if_pos rfl, if_neg hr]
    exact ok.pure ⟨rfl, Mq.rf⟩
end
