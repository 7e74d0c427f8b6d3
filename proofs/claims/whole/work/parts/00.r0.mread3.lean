/-! ===== the reference reads a new name, a list ===== -/
section
variable {M M' M0 M1 M2 : Mem} {t : Nat → Int32} {n p q m hi : Nat} {D : Bl} {c : Int32}
theorem plc {x : Int32} (y : Int32) {α : Type} (a b : α) : (if 0 ≤ x then a else b) = if x < 0 then b else a := by
  by_cases z : x < 0
  · rw [if_pos z, if_neg (fun w => (nn_lt _).mp w z)]
  · rw [if_neg z, if_pos ((nn_lt _).mpr z)]
theorem m_nameF (M : Mem) (m : Nat) (hN : IsN M m D) (x : Int32) {P : Int32 × Mem → Prop} (h : ok (f_X9_check M m (b2i (decide (plN (D 1) x (cn D 0) < 0 ∧ plN (D 3) x (cn D 1) < 0))) (-14) >>= fun (o7 : Mem) => ck o7 m 9 >>= fun _ => f_X9_advanceIfGood o7 m >>= fun (o8 : Mem) => some (x, o8)) P) : ok (gFR M m 9 14 >>= fun (r3 : Nat) => gFI M m 9 11 >>= fun (x4 : Int32) => f_X9_indexOf M r3 x4 x >>= fun (o5 : Int32) => (if 0 ≤ o5 then (some (0 : Int32)) else (gFR M m 9 15 >>= fun (r9 : Nat) => gFI M m 9 12 >>= fun (x10 : Int32) => f_X9_indexOf M r9 x10 x >>= fun (o11 : Int32) => if 0 ≤ o11 then (some 0) else (some 1))) >>= fun (j6 : Int32) => ck M m 9 >>= fun _ => f_X9_check M m j6 (-14) >>= fun (o7 : Mem) => ck o7 m 9 >>= fun _ => f_X9_advanceIfGood o7 m >>= fun (o8 : Mem) => some (x, o8)) P := by
  have e : (if 0 ≤ plN (D 1) x (cn D 0) then (some (0 : Int32)) else (gFR M m 9 15 >>= fun (r9 : Nat) => gFI M m 9 12 >>= fun (x10 : Int32) => f_X9_indexOf M r9 x10 x >>= fun (o11 : Int32) => if 0 ≤ o11 then (some 0) else (some 1))) = some (b2i (decide (plN (D 1) x (cn D 0) < 0 ∧ plN (D 3) x (cn D 1) < 0))) := by
    rw [plc 0, hN.1.r15, bs, hN.g1, bs, m_ix3 hN, bs, plc 0]
    by_cases c1 : plN (D 1) x (cn D 0) < 0
    · rw [if_pos c1]
      by_cases c2 : plN (D 3) x (cn D 1) < 0
      · rw [if_pos c2, decide_eq_true ⟨c1, c2⟩]; rfl
      · rw [if_neg c2, decide_eq_false (fun z => c2 z.2)]; rfl
    · rw [if_neg c1, decide_eq_false (fun z => c1 z.1)]; rfl
  rw [hN.1.r14, bs, hN.g0, bs, m_ix1 hN, bs, e, bs, hN.1.c, bs]
  exact h
theorem m_name (h : GN m t n M0 q M) (hN0 : IsN M0 m D) : ok (f_X9_readNewName M m) (fun o => (0 ≤ nN t n D q → o.1 = nN t n D q ∧ GN m t n M0 (tE t n q) o.2) ∧ (¬ 0 ≤ nN t n D q → BN m t n M0 (nN t n D q) q o.2)) := by
  have hN := hN0.nt h.1
  unfold f_X9_readNewName
  rw [h.s.gi, bs, h.2.1, if_pos rfl, h.s.c, bs]
  by_cases k : tK t n q = 1
  · refine ok.seq (ok.pr (m_lh h k)) ?_
    rintro _ rfl
    dsimp only
    obtain ⟨v, hv, ev⟩ := tL_v k
    refine m_nameF M m hN _ ?_
    by_cases c1 : plN (D 1) (tL t n q) (cn D 0) < 0 ∧ plN (D 3) (tL t n q) (cn D 1) < 0
    · have e2 : nN t n D q = tL t n q := by
        unfold nN
        rw [if_pos k, if_pos c1]
      rw [ck_t (decide_eq_true c1), bs, h.s.c, bs]
      refine ok.seq (aG_g h) ?_
      intro M' G'
      rw [e2]
      exact ok.pure ⟨fun _ => ⟨rfl, G'⟩, fun z => absurd (by rw [ev]; exact i_nn (by omega)) z⟩
    · have e2 : nN t n D q = -14 := by
        unfold nN
        rw [if_pos k, if_neg c1]
      obtain ⟨M', e3, e4, -⟩ := ck_f (c := -14) h (decide_eq_false c1) (by decide)
      rw [e3, bs, e4.s.c, bs, aG_e e4, bs, e2]
      exact ok.pure ⟨fun z => absurd z (by decide), fun _ => e4⟩
  · have e2 : nN t n D q = -11 := by
      unfold nN
      rw [if_neg k]
    refine ok.seq (ok.pr (m_lh0 h k)) ?_
    rintro ⟨x, M'⟩ e4
    dsimp only at e4 ⊢
    refine m_nameF M' m (hN0.nt e4.1) x ?_
    rw [ck_e0 e4, bs, e4.s.c, bs, aG_e e4, bs, e2]
    exact ok.pure ⟨fun z => absurd z (by decide), fun _ => e4⟩
theorem m_name_e (h : BN m t n M0 c q M) (hN0 : IsN M0 m D) : ok (f_X9_readNewName M m) (fun o => o.2 = M) := by
  unfold f_X9_readNewName
  rw [h.s.gi, bs, h.2.1, if_neg h.2.2.1, bs]
  refine m_nameF M m (hN0.nt h.1) _ ?_
  rw [ck_e0 h, bs, h.s.c, bs, aG_e h, bs]
  exact ok.pure rfl
/-- what reading a list leaves: l is what it comes to, plainly -/
def LB (m : Nat) (t : Nat → Int32) (n : Nat) (M0 : Mem) (l : Int32 × Nat) (M : Mem) : Prop := (l.1 < 0 ∧ BN m t n M0 l.1 l.2 M) ∨ (0 ≤ l.1 ∧ tC t n l.2 = 1 ∧ tK t n l.2 ≠ 9 ∧ BN m t n M0 (-11) l.2 M)
def LR (m : Nat) (t : Nat → Int32) (n : Nat) (M0 : Mem) (l : Int32 × Nat) (o : Int32 × Mem) : Prop := LB m t n M0 l o.2 ∨ (0 ≤ l.1 ∧ o.1 = l.1 ∧ GN m t n M0 l.2 o.2)
theorem LB.b {l : Int32 × Nat} (h : LB m t n M0 l M) : ∃ c q, BN m t n M0 c q M := by
  rcases h with h | h
  · exact ⟨_, _, h.2⟩
  · exact ⟨_, _, h.2.2.2⟩
theorem m_list_e {a k : Nat} (h : BN m t n M0 c q M) : ok (f_X9_readList M m a (Int32.ofNat k)) (fun o => o.2 = M) := by
  unfold f_X9_readList
  refine it_r (I := fun _ (u : Int32 × Int32 × Mem) => u.2.2 = M) 0 rfl (by omega) (fun _ i _ hi => absurd hi (Nat.not_lt_zero i)) ?_
  rintro rec ⟨s, f, _⟩ rfl
  unfold bd_X9_readList_5
  dsimp only
  rw [h.s.gi, bs, h.2.1, if_neg h.2.2.1]
  exact ok.pure rfl
/-- the body of the loop, when a token is to be taken for a name -/
theorem m_list {a k N : Nat} {r : Nat → Int32} (h : GN m t n M0 q M) (hk : mK M0 a = (20, N)) (ha : a ≠ m) (hkN : k ≤ N) (hN : N ≤ 12) (hr : ∀ i, i < k → mI M0 a i = r i) : ok (f_X9_readList M m a (Int32.ofNat k)) (LR m t n M0 (lst t n r k (k + 1) 0 q)) := by
  obtain ⟨l, el⟩ : ∃ l, l = lst t n r k (k + 1) 0 q := ⟨_, rfl⟩
  rw [← el]
  have ixF : ∀ (M1 : Mem) (x : Int32), Nt m 27 M0 M1 → f_X9_indexOf M1 a (Int32.ofNat k) x = some (plN r x k) := fun M1 x F => m_index (by rw [F.1]; exact hk) (Or.inl rfl) hkN (by omega) (fun i hi => by rw [F.i (Or.inl ha)]; exact hr i hi) x
  unfold f_X9_readList
  refine it_r (I := fun i (u : Int32 × Int32 × Mem) => (∃ q', u.2.1 = (if i = 0 then 1 else 0) ∧ GN m t n M0 q' u.2.2 ∧ l = lst t n r k (k + 1 - i) u.1 q' ∧ fre k u.1 + i = k ∧ (∀ d, k ≤ d → d < 32 → hs u.1 (Int32.ofNat d) = false) ∧ (i = 0 → u.1 = 0)) ∨ LB m t n M0 l u.2.2) (k + 2) (Or.inl ⟨q, rfl, h, el, by rw [fre_0 (by omega)]; rfl, fun d _ hd => hs_0 hd, fun _ => rfl⟩) (by omega) ?_ ?_
  · rintro rec i ⟨s, f, M1⟩ hi hI hrec
    dsimp only at hI
    rcases hI with ⟨q', rfl, G, e1, e2, e3, si⟩ | hB
    · have s0 : 0 ≤ s := by
        have := hs31 (e3 31 (by omega) (by omega))
        rw [le_i, show (0 : Int32).toInt = 0 from rfl]; exact this
      have sz : s = 0 → i = 0 := fun z => by rw [z, fre_0 (by omega)] at e2; omega
      rw [show k + 1 - i = k - i + 1 by omega, lst_s (s := s) (q := q') (f := k - i)] at e1
      unfold bd_X9_readList_5
      dsimp only
      rw [G.s.gi, bs, G.2.1, if_pos rfl]
      have lc : tC t n q' < 5 := by unfold tC; split; omega; split; omega; split; omega; split <;> omega
      refine ok.jnS (fun _ => i = 0 ∨ (tC t n q' = 1 ∧ tK t n q' ≠ 9)) ?_ ?_
      · intro _ hQ
        rw [G.s.c, bs]
        by_cases k1 : tK t n q' = 1
        · rw [if_pos k1] at e1
          refine ok.seq (m_lh G k1) ?_
          rintro _ rfl
          dsimp only
          rw [ixF M1 _ G.1, bs]
          by_cases k2 : plN r (tL t n q') k < 0
          · rw [if_pos k2] at e1
            obtain ⟨M2, e4, e5, -⟩ := ck_f (b := false) (c := -13) G rfl (by decide)
            rw [show b2i false = 0 from rfl] at e4
            rw [if_pos k2, bs, G.s.c, bs, e4, bs, if_pos k2, bs, e5.s.c, bs, ck_1, bs, if_neg (fun w => (nn_lt _).mp w k2), bs, ltq, e5.s.c, bs, aG_e e5, bs]
            exact hrec _ (Or.inr (Or.inl (by rw [e1]; exact ⟨show (-13 : Int32) < 0 by decide, e5⟩)))
          · rw [if_neg k2] at e1
            obtain ⟨j, kc, ke⟩ := plN_r k (by omega) k2
            rw [if_neg k2, bs, G.s.c, bs, ck_1, bs, if_neg k2, f_has9, bs, b2i_ite]
            by_cases k3 : hs s (plN r (tL t n q') k) = true
            · rw [if_pos k3] at e1
              obtain ⟨M2, e4, e5, -⟩ := ck_f (b := false) (c := -14) G rfl (by decide)
              rw [show b2i false = 0 from rfl] at e4
              rw [if_pos k3, bs, G.s.c, bs, e4, bs, if_pos ((nn_lt _).mpr k2), bs, ltq, e5.s.c, bs, aG_e e5, bs]
              exact hrec _ (Or.inr (Or.inl (by rw [e1]; exact ⟨show (-14 : Int32) < 0 by decide, e5⟩)))
            · rw [if_neg k3] at e1
              have k4 : hs s (Int32.ofNat j) = false := by rw [← ke]; exact Bool.eq_false_iff.mpr k3
              have k5 := fre_s (s := s) kc (by omega) k4
              rw [if_neg k3, bs, G.s.c, bs, ck_1, bs, if_pos ((nn_lt _).mpr k2), bs, ltq, G.s.c, bs]
              refine ok.seq (aG_g G) ?_
              intro M2 G2
              refine hrec _ (Or.inl ⟨tE t n q', (if_neg (by omega)).symm, G2, ?_, ?_, ?_, fun z => by omega⟩)
              · dsimp only
                rw [e1, show k + 1 - (i + 1) = k - i by omega]
              · dsimp only
                rw [ke]
                omega
              · intro d d1 d2
                dsimp only
                rw [ke, hs_or d2, hs_one (by omega) d2, e3 d d1 d2, decide_eq_false (by omega)]
                rfl
        · rw [if_neg k1] at e1
          refine ok.seq (m_lh0 G k1) ?_
          rintro ⟨x, M2⟩ e5
          dsimp only at e5 ⊢
          have fin : LB m t n M0 l M2 := by
            by_cases z : s = 0
            · rw [if_pos z] at e1
              rw [e1]
              exact Or.inl ⟨show (-11 : Int32) < 0 by decide, e5⟩
            · rw [if_neg z] at e1
              rw [e1]
              have := hQ.resolve_left (fun w => z (si w))
              exact Or.inr ⟨s0, this.1, this.2, e5⟩
          rw [ixF M2 _ e5.1, bs]
          by_cases k2 : plN r x k < 0
          · rw [if_pos k2, bs, e5.s.c, bs, ck_e0 e5, bs, if_pos k2, bs, e5.s.c, bs, ck_e0 e5, bs, if_neg (fun w => (nn_lt _).mp w k2), bs, ltq, e5.s.c, bs, aG_e e5, bs]
            exact hrec _ (Or.inr fin)
          · rw [if_neg k2, bs, e5.s.c, bs, ck_e0 e5, bs, if_neg k2, f_has9, bs, is_, bs, e5.s.c, bs, ck_e0 e5, bs, if_pos ((nn_lt _).mpr k2), bs, ltq, e5.s.c, bs, aG_e e5, bs]
            exact hrec _ (Or.inr fin)
      · intro kj hkj
        by_cases i0 : i = 0
        · rw [if_pos i0, if_neg (by decide)]
          exact hkj () (Or.inl i0)
        · have s1 : ¬ s = 0 := fun z => i0 (sz z)
          have out : tK t n q' ≠ 1 → ok (some (s, M1)) (LR m t n M0 l) := fun z => by
            rw [if_neg z, if_neg s1] at e1
            rw [e1]
            exact ok.pure (Or.inr ⟨s0, rfl, G⟩)
          rw [if_neg i0, if_pos rfl, G.s.gi, bs, G.2.2.2.2.2.2.1, show (1 : Int32) = Int32.ofNat 1 from rfl]
          have j9 := tK_j (t := t) (n := n) (p := q') (j := 4) (by omega)
          by_cases c1 : tC t n q' = 1
          · have eW : tW t n q' = wd t (tS t n q') (tE t n q') := if_pos c1
            have key := lg6 G.2.2.2 (k := cW 4) (by decide)
            rw [if_pos (by rw [c1]), G.s.gl, bs, show (6642 : Int64) = Int64.ofNat (cW 4) from rfl]
            by_cases c2 : tW t n q' = cW 4
            · have c3 := j9.mpr ⟨c1, by rw [← eW]; exact c2⟩
              rw [if_pos (key.mpr c2)]
              exact out (by omega)
            · rw [if_neg (fun z => c2 (key.mp z))]
              exact hkj () (Or.inr ⟨c1, fun z => c2 (by rw [eW]; exact (j9.mp z).2)⟩)
          · rw [if_neg (fun z => c1 ((i_inj (by omega) (by omega)).mp z))]
            exact out (fun z => c1 (tK_1.mp z).1)
    · obtain ⟨c', q', hb⟩ := hB.b
      unfold bd_X9_readList_5
      dsimp only
      rw [hb.s.gi, bs, hb.2.1, if_neg hb.2.2.1]
      exact ok.pure (Or.inl hB)
  · rintro rec ⟨s, f, M1⟩ hI
    dsimp only at hI
    rcases hI with ⟨q', rfl, G, e1, e2, e3, si⟩ | hB
    · omega
    · obtain ⟨c', q', hb⟩ := hB.b
      unfold bd_X9_readList_5
      dsimp only
      rw [hb.s.gi, bs, hb.2.1, if_neg hb.2.2.1]
      exact ok.pure (Or.inl hB)
end
