/-! ===== the class reads statements ===== -/
section
variable {M M' M0 M1 M2 : Mem} {t : Nat → Int32} {n p q T R b lim : Nat} {D D' : Bl} {g : Int32} {r : Rs}
/-- what the reading writes: the token, the reader's field, the ballot -/
def Fyk (T R b : Nat) (M M' : Mem) : Prop := mK M' = mK M ∧ mN M' = mN M ∧ (∀ a, (a < b ∨ b + 12 ≤ a) → mL M' a = mL M a ∧ mR M' a = mR M a) ∧ ∀ a j, ¬ (a = T ∧ 2 ≤ j ∧ j ≠ 4) → a ≠ R → (a < b ∨ b + 12 ≤ a) → mI M' a j = mI M a j
theorem Fyk.rf : Fyk T R b M M := ⟨rfl, rfl, fun _ _ => ⟨rfl, rfl⟩, fun _ _ _ _ _ => rfl⟩
theorem Fyk.trans (h1 : Fyk T R b M M1) (h2 : Fyk T R b M1 M2) : Fyk T R b M M2 := ⟨h2.1.trans h1.1, h2.2.1.trans h1.2.1, fun a z => ⟨(h2.2.2.1 a z).1.trans (h1.2.2.1 a z).1, (h2.2.2.1 a z).2.trans (h1.2.2.1 a z).2⟩, fun a j z1 z2 z3 => (h2.2.2.2 a j z1 z2 z3).trans (h1.2.2.2 a j z1 z2 z3)⟩
theorem Ft.fk (h : Ft T M M') : Fyk T R b M M' := ⟨h.1, h.2.2.2.1, fun _ _ => ⟨by rw [h.2.1], by rw [h.2.2.1]⟩, fun a j z1 _ _ => h.2.2.2.2 a j z1⟩
theorem Fq.fk (h : Fq b (b + 12) M M') : Fyk T R b M M' := ⟨h.1, h.2.1, fun a z => (h.2.2 a z).2, fun a j _ _ z3 => h.i z3 j⟩
theorem Fi.fk (h : Fi b (b + 12) M M') : Fyk T R b M M' := h.q.fk
/-- the reading under way -/
def KF (lim T R b : Nat) (M0 : Mem) (D : Bl) (g : Int32) (M : Mem) : Prop := Fyk T R b M0 M ∧ IsP M b D ∧ (mI M R 0 = g ∧ (mK M R).1 = 5) ∧ Sta M lim
theorem KF.ft (h : KF lim T R b M0 D g M) (hL : lim ≤ T ∧ T + 2 ≤ R ∧ R < b) (hF : Ft T M M') : KF lim T R b M0 D g M' := ⟨h.1.trans hF.fk, h.2.1.fq hF.fq (by omega), ⟨by rw [hF.2.2.2.2 _ _ (by omega)]; exact h.2.2.1.1, by rw [hF.1]; exact h.2.2.1.2⟩, h.2.2.2.fq hF.fq hL.1⟩
theorem KF.w (h : KF lim T R b M0 D g M) (hL : lim ≤ T ∧ T + 2 ≤ R ∧ R < b) (hF : Fi b (b + 12) M M') (hP : IsP M' b D') : KF lim T R b M0 D' g M' := ⟨h.1.trans hF.fk, hP, ⟨by rw [hF.i (by omega)]; exact h.2.2.1.1, by rw [hF.1]; exact h.2.2.1.2⟩, h.2.2.2.fq hF.q (by omega)⟩
theorem KF.rr (h : KF lim T R b M0 D g M) (hL : lim ≤ T ∧ T + 2 ≤ R ∧ R < b) (y : Int32) : KF lim T R b M0 D y (sI M R 0 y) := by
  have F : Fi R (R + 1) M (sI M R 0 y) := Fi.sI ⟨Nat.le_refl _, by omega⟩
  exact ⟨h.1.trans ⟨rfl, rfl, fun _ _ => ⟨rfl, rfl⟩, fun a j _ z2 _ => by rw [i_sI, if_neg (fun z => z2 z.1)]⟩, h.2.1.fq F.q (by omega), ⟨by rw [i_sI, if_pos ⟨rfl, rfl⟩], h.2.2.1.2⟩, h.2.2.2.fq F.q (by omega)⟩
/-- what a statement's reading leaves -/
def CR (lim T R b : Nat) (t : Nat → Int32) (n : Nat) (M0 : Mem) (r : Rs) (o : Int32 × Mem) : Prop := o.1 = r.1 ∧ KF lim T R b M0 r.2.1 r.2.2.1 o.2 ∧ TC o.2 T t n r.2.2.2
theorem ok.pr {α β : Type} {X : Option (α × β)} {P : α × β → Prop} (h : ok X P) : ok (X >>= fun (o : α × β) => some (o.1, o.2)) P := ok.bind (h.mono fun _ z => ok.pure z)
theorem nnF : (0 : Int32) ≤ 0 := by decide
theorem c_sD (hL : lim ≤ T ∧ T + 2 ≤ R ∧ R < b) (h : TC M T t n p) (hK : KF lim T R b M0 D g M) : ok (f_X5_district M T b) (CR lim T R b t n M0 (sD t n D g p)) := by
  unfold f_X5_district sD
  rw [hK.2.1.g0, bs, show (4 : Int32) = Int32.ofNat 4 from rfl]
  by_cases c : cn D 0 < 4
  · rw [if_pos ((i_lt (by omega) (by omega)).mpr c), if_pos c]
    obtain ⟨x, y, hB⟩ := hK.2.1.bl
    refine ok.seq (c_name h.o hK.2.2.2 hL.1 hB (by omega)) ?_
    rintro ⟨w, M1⟩ ⟨e1, F1, C1⟩
    dsimp only at e1 F1 C1 ⊢
    replace e1 : w = nN t n D (tE t n p) := e1
    rw [← e1]
    have K1 := hK.ft hL F1
    unfold sD1
    by_cases c1 : 0 ≤ w
    · rw [if_pos c1, if_pos c1]
      refine ok.seq (c_int (lo := 0) (hi := 100000) C1.o K1.2.2.2 hL.1 (by omega) (by omega)) ?_
      rintro ⟨v, M2⟩ ⟨e2, F2, C2⟩
      dsimp only at e2 F2 C2 ⊢
      rw [← e2]
      have K2 := K1.ft hL F2
      unfold sD2
      by_cases c2 : 0 ≤ v
      · rw [if_pos c2, if_pos c2]
        have s2 := K2.2.1.1
        obtain ⟨M3, q3⟩ : ∃ z, z = sI M2 (b + 1) (cn D 0) w := ⟨_, rfl⟩
        have w3 : wI M2 (b + 1) (Int32.ofNat (cn D 0)) w = some M3 := by rw [q3]; exact wI_e s2.k1 c (by omega)
        have s3 : IsBs M3 b := by rw [q3]; exact s2
        obtain ⟨M4, q4⟩ : ∃ z, z = sI M3 (b + 2) (cn D 0) v := ⟨_, rfl⟩
        have w4 : wI M3 (b + 2) (Int32.ofNat (cn D 0)) v = some M4 := by rw [q4]; exact wI_e s3.k2 c (by omega)
        have s4 : IsBs M4 b := by rw [q4]; exact s3
        obtain ⟨M5, q5⟩ : ∃ z, z = sI M4 b 0 (Int32.ofNat (cn D 0 + 1)) := ⟨_, rfl⟩
        have w5 : pFI M4 b 0 0 (Int32.ofNat (cn D 0) + 1) = some M5 := by rw [q5, i_succ]; exact pFI_e s4.1
        have F3 : Fi b (b + 12) M2 M5 := by
          rw [q5, q4, q3]
          exact (Fi.sI ⟨by omega, by omega⟩).trans ((Fi.sI ⟨by omega, by omega⟩).trans (Fi.sI ⟨by omega, by omega⟩))
        have P5 : IsP M5 b (dD D w v) := by
          refine K2.2.1.ps (Or.inl ⟨rfl, c⟩) F3.1 F3.r ?_ (fun j hj => ?_) (fun k z1 z2 z3 => ?_) (fun k i z1 z2 z3 => ?_)
          · rw [q5, i_sI, if_pos ⟨rfl, rfl⟩]
          · rw [q5, i_sI, if_neg (fun z => hj z.2), q4, i_sI, if_neg (by omega), q3, i_sI, if_neg (by omega)]
          · rcases (show k = 1 ∨ k = 2 ∨ k = 3 ∨ k = 4 ∨ k = 5 ∨ k = 6 ∨ k = 7 ∨ k = 8 ∨ k = 9 by omega) with e | e | e | e | e | e | e | e | e <;> subst e
            · rw [q5, i_sI, if_neg (by omega), q4, i_sI, if_neg (by omega), q3, i_sI, if_pos ⟨rfl, rfl⟩]; rfl
            · rw [q5, i_sI, if_neg (by omega), q4, i_sI, if_pos ⟨rfl, rfl⟩]; rfl
            all_goals exact absurd z3 (by decide)
          · have z4 : ¬ (k = 1 ∧ i = cn D 0) := fun z => by
              rcases z3 with y | y
              · exact y (by rw [z.1]; rfl)
              · exact y z.2
            have z5 : ¬ (k = 2 ∧ i = cn D 0) := fun z => by
              rcases z3 with y | y
              · exact y (by rw [z.1]; rfl)
              · exact y z.2
            rw [q5, i_sI, if_neg (by omega), q4, i_sI, if_neg (by omega), q3, i_sI, if_neg (by omega)]
        have K5 := K2.w hL F3 P5
        have C5 := C2.fq F3.q (by omega)
        rw [s2.r1, bs, w3, bs, s3.r2, bs, w4, bs, w5, bs, C5.1.c, bs]
        refine ok.seq (c_next C5.o K5.2.2.2 hL.1) ?_
        rintro M6 ⟨F6, C6⟩
        exact ok.pure ⟨rfl, K5.ft hL F6, C6⟩
      · rw [if_neg c2, if_neg c2]
        exact ok.pure ⟨rfl, K2, C2⟩
    · rw [if_neg c1, if_neg c1]
      exact ok.pure ⟨rfl, K1, C1⟩
  · rw [if_neg (fun z => c ((i_lt (by have := hK.2.1.nn.2.1; omega) (by omega)).mp z)), if_neg c]
    exact ok.pure ⟨rfl, hK, h⟩
theorem c_sJ (hL : lim ≤ T ∧ T + 2 ≤ R ∧ R < b) (h : TC M T t n p) (hK : KF lim T R b M0 D g M) : ok (f_X5_project M T b) (CR lim T R b t n M0 (sJ t n D g p)) := by
  unfold f_X5_project sJ
  rw [hK.2.1.g1, bs, show (12 : Int32) = Int32.ofNat 12 from rfl]
  by_cases c : cn D 1 < 12
  · rw [if_pos ((i_lt (by omega) (by omega)).mpr c), if_pos c]
    obtain ⟨x, y, hB⟩ := hK.2.1.bl
    refine ok.seq (c_name h.o hK.2.2.2 hL.1 hB (by omega)) ?_
    rintro ⟨w, M1⟩ ⟨e1, F1, C1⟩
    dsimp only at e1 F1 C1 ⊢
    replace e1 : w = nN t n D (tE t n p) := e1
    rw [← e1]
    have K1 := hK.ft hL F1
    unfold sJ1
    by_cases c1 : 0 ≤ w
    · rw [if_pos c1, if_pos c1]
      refine ok.seq (c_int (lo := 1) (hi := 100000) C1.o K1.2.2.2 hL.1 (by omega) (by omega)) ?_
      rintro ⟨v, M2⟩ ⟨e2, F2, C2⟩
      dsimp only at e2 F2 C2 ⊢
      rw [← e2]
      have K2 := K1.ft hL F2
      unfold sJ2
      by_cases c2 : 0 ≤ v
      · have l0 := K2.2.1.nn.2.1
        rw [if_pos c2, if_pos c2, K2.2.1.1.r1, bs, K2.2.1.g0, bs]
        refine ok.seq (c_list (N := 4) (r := D 1) C2.o K2.2.2.2 hL.1 (by omega) K2.2.1.1.k1 l0 (by omega) (fun i hi => K2.2.1.2.2.2 1 (by omega) (by omega) i hi)) ?_
        rintro ⟨s, M2'⟩ ⟨e3, F2', C2'⟩
        obtain ⟨l, el⟩ : ∃ l, l = lst t n (D 1) (cn D 0) (cn D 0 + 1) 0 (tE t n (tE t n (tE t n p))) := ⟨_, rfl⟩
        dsimp only at e3 F2' C2' ⊢
        rw [← el] at e3 C2' ⊢
        have K3 := K2.ft hL F2'
        unfold sJ3
        rw [← e3]
        by_cases c3 : 0 ≤ s
        · rw [if_pos c3, if_pos c3]
          have s2 := K3.2.1.1
          obtain ⟨M3, q3⟩ : ∃ z, z = sI M2' (b + 3) (cn D 1) w := ⟨_, rfl⟩
          have w3 : wI M2' (b + 3) (Int32.ofNat (cn D 1)) w = some M3 := by rw [q3]; exact wI_e s2.k3 c (by omega)
          have s3 : IsBs M3 b := by rw [q3]; exact s2
          obtain ⟨M4, q4⟩ : ∃ z, z = sI M3 (b + 4) (cn D 1) v := ⟨_, rfl⟩
          have w4 : wI M3 (b + 4) (Int32.ofNat (cn D 1)) v = some M4 := by rw [q4]; exact wI_e s3.k4 c (by omega)
          have s4 : IsBs M4 b := by rw [q4]; exact s3
          obtain ⟨M5, q5⟩ : ∃ z, z = sI M4 (b + 5) (cn D 1) s := ⟨_, rfl⟩
          have w5 : wI M4 (b + 5) (Int32.ofNat (cn D 1)) s = some M5 := by rw [q5]; exact wI_e s4.k5 c (by omega)
          have s5 : IsBs M5 b := by rw [q5]; exact s4
          obtain ⟨M6, q6⟩ : ∃ z, z = sI M5 b 1 (Int32.ofNat (cn D 1 + 1)) := ⟨_, rfl⟩
          have w6 : pFI M5 b 0 1 (Int32.ofNat (cn D 1) + 1) = some M6 := by rw [q6, i_succ]; exact pFI_e s5.1
          have F3 : Fi b (b + 12) M2' M6 := by
            rw [q6, q5, q4, q3]
            exact (Fi.sI ⟨by omega, by omega⟩).trans ((Fi.sI ⟨by omega, by omega⟩).trans ((Fi.sI ⟨by omega, by omega⟩).trans (Fi.sI ⟨by omega, by omega⟩)))
          have P6 : IsP M6 b (dP D w v s) := by
            refine K3.2.1.ps (Or.inr (Or.inl ⟨rfl, c⟩)) F3.1 F3.r ?_ (fun j hj => ?_) (fun k z1 z2 z3 => ?_) (fun k i z1 z2 z3 => ?_)
            · rw [q6, i_sI, if_pos ⟨rfl, rfl⟩]
            · rw [q6, i_sI, if_neg (fun z => hj z.2), q5, i_sI, if_neg (by omega), q4, i_sI, if_neg (by omega), q3, i_sI, if_neg (by omega)]
            · rcases (show k = 3 ∨ k = 4 ∨ k = 5 ∨ k = 1 ∨ k = 2 ∨ k = 6 ∨ k = 7 ∨ k = 8 ∨ k = 9 by omega) with e | e | e | e | e | e | e | e | e <;> subst e
              · rw [q6, i_sI, if_neg (by omega), q5, i_sI, if_neg (by omega), q4, i_sI, if_neg (by omega), q3, i_sI, if_pos ⟨rfl, rfl⟩]; rfl
              · rw [q6, i_sI, if_neg (by omega), q5, i_sI, if_neg (by omega), q4, i_sI, if_pos ⟨rfl, rfl⟩]; rfl
              · rw [q6, i_sI, if_neg (by omega), q5, i_sI, if_pos ⟨rfl, rfl⟩]; rfl
              all_goals exact absurd z3 (by decide)
            · have z4 : ¬ ((k = 3 ∨ k = 4 ∨ k = 5) ∧ i = cn D 1) := fun z => by
                rcases z3 with y | y
                · rcases z.1 with e | e | e <;> exact y (by rw [e]; rfl)
                · exact y z.2
              rw [q6, i_sI, if_neg (by omega), q5, i_sI, if_neg (by omega), q4, i_sI, if_neg (by omega), q3, i_sI, if_neg (by omega)]
          have K6 := K3.w hL F3 P6
          have C6 := C2'.fq F3.q (by omega)
          rw [s2.r3, bs, w3, bs, s3.r4, bs, w4, bs, s4.r5, bs, w5, bs, w6, bs]
          exact ok.pure ⟨rfl, K6, C6⟩
        · rw [if_neg c3, if_neg c3]
          exact ok.pure ⟨rfl, K3, C2'⟩
      · rw [if_neg c2, if_neg c2]
        exact ok.pure ⟨rfl, K2, C2⟩
    · rw [if_neg c1, if_neg c1]
      exact ok.pure ⟨rfl, K1, C1⟩
  · rw [if_neg (fun z => c ((i_lt (by have := hK.2.1.nn.2.2.1; omega) (by omega)).mp z)), if_neg c]
    exact ok.pure ⟨rfl, hK, h⟩
theorem c_sV (hL : lim ≤ T ∧ T + 2 ≤ R ∧ R < b) (h : TC M T t n p) (hK : KF lim T R b M0 D g M) : ok (f_X5_voter M T b) (CR lim T R b t n M0 (sV t n D g p)) := by
  unfold f_X5_voter sV
  rw [hK.2.1.g2, bs, show (24 : Int32) = Int32.ofNat 24 from rfl]
  by_cases c : cn D 2 < 24
  · rw [if_pos ((i_lt (by omega) (by omega)).mpr c), if_pos c]
    refine ok.seq (c_int (lo := 1) (hi := 9) h.o hK.2.2.2 hL.1 (by omega) (by omega)) ?_
    rintro ⟨w, M1⟩ ⟨e1, F1, C1⟩
    dsimp only at e1 F1 C1 ⊢
    rw [← e1]
    have K1 := hK.ft hL F1
    unfold sV1
    by_cases c1 : 0 ≤ w
    · rw [if_pos c1, if_pos c1, C1.1.c, bs]
      refine ok.seq (c_next C1.o K1.2.2.2 hL.1) ?_
      rintro M2 ⟨F2, C2⟩
      have K2 := K1.ft hL F2
      have lk := tK_r (t := t) (n := n) (tE t n (tE t n p))
      rw [C2.k, bs, show (8 : Int32) = Int32.ofNat 8 from rfl]
      unfold sV2
      by_cases c2 : tK t n (tE t n (tE t n p)) = 8
      · have l0 := K2.2.1.nn.2.1
        have l1 := K2.2.1.nn.2.2.1
        rw [if_pos (by rw [c2]), if_pos c2, K2.2.1.1.r1, bs, K2.2.1.g0, bs]
        refine ok.seq (c_list (N := 4) (r := D 1) C2.o K2.2.2.2 hL.1 (by omega) K2.2.1.1.k1 l0 (by omega) (fun i hi => K2.2.1.2.2.2 1 (by omega) (by omega) i hi)) ?_
        rintro ⟨s, M3⟩ ⟨e3, F3, C3⟩
        obtain ⟨l, el⟩ : ∃ l, l = lst t n (D 1) (cn D 0) (cn D 0 + 1) 0 (tE t n (tE t n (tE t n p))) := ⟨_, rfl⟩
        dsimp only at e3 F3 C3 ⊢
        rw [← el] at e3 C3 ⊢
        have K3 := K2.ft hL F3
        have lk3 := tK_r (t := t) (n := n) l.2
        unfold sV3
        rw [← e3]
        by_cases c3 : 0 ≤ s
        · rw [if_pos c3, if_pos c3, C3.k, bs, show (9 : Int32) = Int32.ofNat 9 from rfl]
          have key : ∀ (l2 : Int32 × Nat) (M4 : Mem), KF lim T R b M0 D g M4 → TC M4 T t n l2.2 → ok (if 0 ≤ l2.1 then (gFR M4 b 0 8 >>= fun (r10 : Nat) => wI M4 r10 (Int32.ofNat (cn D 2)) w >>= fun (M11 : Mem) => gFR M11 b 0 9 >>= fun (r12 : Nat) => wI M11 r12 (Int32.ofNat (cn D 2)) s >>= fun (M13 : Mem) => gFR M13 b 0 10 >>= fun (r14 : Nat) => wI M13 r14 (Int32.ofNat (cn D 2)) l2.1 >>= fun (M15 : Mem) => pFI M15 b 0 2 (Int32.ofNat (cn D 2) + 1) >>= fun (M16 : Mem) => some ((0 : Int32), M16)) else some (l2.1, M4)) (CR lim T R b t n M0 (sV4 D g w s l2)) := by
            rintro ⟨a, r2⟩ M4 K4 C4
            dsimp only at C4 ⊢
            unfold sV4
            dsimp only
            by_cases c4 : 0 ≤ a
            · rw [if_pos c4, if_pos c4]
              have s4 := K4.2.1.1
              obtain ⟨M5, q5⟩ : ∃ z, z = sI M4 (b + 6) (cn D 2) w := ⟨_, rfl⟩
              have w5 : wI M4 (b + 6) (Int32.ofNat (cn D 2)) w = some M5 := by rw [q5]; exact wI_e s4.k6 c (by omega)
              have s5 : IsBs M5 b := by rw [q5]; exact s4
              obtain ⟨M6, q6⟩ : ∃ z, z = sI M5 (b + 7) (cn D 2) s := ⟨_, rfl⟩
              have w6 : wI M5 (b + 7) (Int32.ofNat (cn D 2)) s = some M6 := by rw [q6]; exact wI_e s5.k7 c (by omega)
              have s6 : IsBs M6 b := by rw [q6]; exact s5
              obtain ⟨M7, q7⟩ : ∃ z, z = sI M6 (b + 8) (cn D 2) a := ⟨_, rfl⟩
              have w7 : wI M6 (b + 8) (Int32.ofNat (cn D 2)) a = some M7 := by rw [q7]; exact wI_e s6.k8 c (by omega)
              have s7 : IsBs M7 b := by rw [q7]; exact s6
              obtain ⟨M8, q8⟩ : ∃ z, z = sI M7 b 2 (Int32.ofNat (cn D 2 + 1)) := ⟨_, rfl⟩
              have w8 : pFI M7 b 0 2 (Int32.ofNat (cn D 2) + 1) = some M8 := by rw [q8, i_succ]; exact pFI_e s7.1
              have F5 : Fi b (b + 12) M4 M8 := by
                rw [q8, q7, q6, q5]
                exact (Fi.sI ⟨by omega, by omega⟩).trans ((Fi.sI ⟨by omega, by omega⟩).trans ((Fi.sI ⟨by omega, by omega⟩).trans (Fi.sI ⟨by omega, by omega⟩)))
              have P8 : IsP M8 b (dV D w s a) := by
                refine K4.2.1.ps (Or.inr (Or.inr ⟨rfl, c⟩)) F5.1 F5.r ?_ (fun j hj => ?_) (fun k z1 z2 z3 => ?_) (fun k i z1 z2 z3 => ?_)
                · rw [q8, i_sI, if_pos ⟨rfl, rfl⟩]
                · rw [q8, i_sI, if_neg (fun z => hj z.2), q7, i_sI, if_neg (by omega), q6, i_sI, if_neg (by omega), q5, i_sI, if_neg (by omega)]
                · rcases (show k = 6 ∨ k = 7 ∨ k = 8 ∨ k = 1 ∨ k = 2 ∨ k = 3 ∨ k = 4 ∨ k = 5 ∨ k = 9 by omega) with e | e | e | e | e | e | e | e | e <;> subst e
                  · rw [q8, i_sI, if_neg (by omega), q7, i_sI, if_neg (by omega), q6, i_sI, if_neg (by omega), q5, i_sI, if_pos ⟨rfl, rfl⟩]; rfl
                  · rw [q8, i_sI, if_neg (by omega), q7, i_sI, if_neg (by omega), q6, i_sI, if_pos ⟨rfl, rfl⟩]; rfl
                  · rw [q8, i_sI, if_neg (by omega), q7, i_sI, if_pos ⟨rfl, rfl⟩]; rfl
                  all_goals exact absurd z3 (by decide)
                · have z4 : ¬ ((k = 6 ∨ k = 7 ∨ k = 8) ∧ i = cn D 2) := fun z => by
                    rcases z3 with y | y
                    · rcases z.1 with e | e | e <;> exact y (by rw [e]; rfl)
                    · exact y z.2
                  rw [q8, i_sI, if_neg (by omega), q7, i_sI, if_neg (by omega), q6, i_sI, if_neg (by omega), q5, i_sI, if_neg (by omega)]
              rw [s4.r6, bs, w5, bs, s5.r7, bs, w6, bs, s6.r8, bs, w7, bs, w8, bs]
              exact ok.pure ⟨rfl, K4.w hL F5 P8, C4.fq F5.q (by omega)⟩
            · rw [if_neg c4, if_neg c4]
              exact ok.pure ⟨rfl, K4, C4⟩
          by_cases c4 : tK t n l.2 = 9
          · rw [if_pos (by rw [c4]), if_pos c4, K3.2.1.1.r3, bs, K3.2.1.g1, bs]
            refine ok.seq (ok.pr (c_list (N := 12) (r := D 3) C3.o K3.2.2.2 hL.1 (by omega) K3.2.1.1.k3 l1 (by omega) (fun i hi => K3.2.1.2.2.2 3 (by omega) (by omega) i hi))) ?_
            rintro ⟨a, M4⟩ ⟨e4, F4, C4⟩
            dsimp only at e4 F4 C4 ⊢
            have := key (lst t n (D 3) (cn D 1) (cn D 1 + 1) 0 (tE t n l.2)) M4 (K3.ft hL F4) C4
            rw [← e4] at this
            exact this
          · rw [if_neg (fun z => c4 ((i_inj (by omega) (by omega)).mp z)), if_neg c4, bs]
            exact key (0, l.2) M3 K3 C3
        · rw [if_neg c3, if_neg c3]
          exact ok.pure ⟨rfl, K3, C3⟩
      · rw [if_neg (fun z => c2 ((i_inj (by omega) (by omega)).mp z)), if_neg c2]
        exact ok.pure ⟨rfl, K2, C2⟩
    · rw [if_neg c1, if_neg c1]
      exact ok.pure ⟨rfl, K1, C1⟩
  · rw [if_neg (fun z => c ((i_lt (by have := hK.2.1.nn.2.2.2; omega) (by omega)).mp z)), if_neg c]
    exact ok.pure ⟨rfl, hK, h⟩
end
