/-! ===== text fed ===== -/
section
variable {M M' M1 M2 : Mem} {b x m L i : Nat} {xs : Nat → Int32} {S : St} {t : Tx}
def byt (v : Int32) (j : Nat) : Int32 := ((v >>> (Int32.ofNat (24 - 8 * j) &&& 31) : Int32).toInt8.toInt32)
def app (t : Tx) (v : Int32) : Tx := (t.1 + 4, fun j => if t.1 ≤ j then byt v (j - t.1) else t.2 j)
theorem i8_rt (z : Int8) : z.toInt32.toInt8 = z := by simp
theorem app_Tb (h : Tb t) (v : Int32) : Tb (app t v) := by
  intro j hj
  have hj' : j < t.1 + 4 := hj
  show -128 ≤ (if t.1 ≤ j then byt v (j - t.1) else t.2 j).toInt ∧ (if t.1 ≤ j then byt v (j - t.1) else t.2 j).toInt < 128
  split
  · unfold byt
    rw [Int8.toInt_toInt32]
    exact ⟨Int8.le_toInt _, Int8.toInt_lt _⟩
  · exact h j (by omega)
theorem f_app {a : Nat} (h : TX M a t) (hl : t.1 + 4 ≤ 1200) (v : Int32) : ok (f_X7_append M a v) (fun M' => Fi a (a + 2) M M' ∧ TX M' a (app t v)) := by
  obtain ⟨⟨s1, s2, s3⟩, c, -, r⟩ := h
  unfold f_X7_append
  refine it_r (I := fun n (u : Int32 × Mem) => u.1 = Int32.ofInt (24 - 8 * (n : Int)) ∧ Fi a (a + 2) M u.2 ∧ mI u.2 a 1 = Int32.ofNat (t.1 + n) ∧ ∀ j, j < t.1 + n → mI u.2 (a + 1) j = (app t v).2 j) 4 ⟨rfl, Fi.rf, c, fun j hj => by
    rw [r j (by omega)]
    exact (if_neg (by omega)).symm⟩ (by omega) ?_ ?_
  · rintro rec n ⟨_, M1⟩ hn ⟨rfl, F1, c1, r1⟩ hrec
    dsimp only at F1 c1 r1
    have k1 : mK M1 (a + 1) = (21, 1200) := by rw [F1.k]; exact s3
    have g1 : ∀ j, gFI M1 a 7 j = some (mI M1 a j) := fun j => gFI_e (by rw [F1.k]; exact s1)
    have gr : gFR M1 a 7 0 = some (a + 1) := gFR_e (by rw [F1.k]; exact s1) (by rw [F1.r]; exact s2)
    have hpos : ¬ Int32.ofInt (24 - 8 * (n : Int)) < 0 := by
      rcases (show n = 0 ∨ n = 1 ∨ n = 2 ∨ n = 3 by omega) with e | e | e | e <;> subst e <;> decide
    have e24 : Int32.ofInt (24 - 8 * (n : Int)) = Int32.ofNat (24 - 8 * n) := by
      rcases (show n = 0 ∨ n = 1 ∨ n = 2 ∨ n = 3 by omega) with e | e | e | e <;> subst e <;> rfl
    have nxt : Int32.ofInt (24 - 8 * (n : Int)) + (-8) = Int32.ofInt (24 - 8 * ((n + 1 : Nat) : Int)) := by
      rcases (show n = 0 ∨ n = 1 ∨ n = 2 ∨ n = 3 by omega) with e | e | e | e <;> subst e <;> decide
    have w1 : wB M1 (a + 1) (Int32.ofNat (t.1 + n)) ((v >>> (Int32.ofInt (24 - 8 * (n : Int)) &&& 31) : Int32).toInt8.toInt32) = some (sI M1 (a + 1) (t.1 + n) (byt v n)) := by
      rw [wB_e k1 (by omega) (by omega), e24, i8_rt]
      rfl
    obtain ⟨M2, q2⟩ : ∃ z, z = sI M1 (a + 1) (t.1 + n) (byt v n) := ⟨_, rfl⟩
    have F2 : Fi a (a + 2) M1 M2 := by rw [q2]; exact Fi.sI ⟨by omega, by omega⟩
    have g2 : gFI M2 a 7 1 = some (Int32.ofNat (t.1 + n)) := by
      rw [gFI_e (by rw [F2.k, F1.k]; exact s1), q2, i_sI, if_neg (by omega), c1]
    have p2 : ∀ y, pFI M2 a 7 1 y = some (sI M2 a 1 y) := fun y => pFI_e (by rw [F2.k, F1.k]; exact s1)
    unfold bd_X7_append_3
    dsimp only
    rw [if_neg hpos, g1, bs, c1, show (1200 : Int32) = Int32.ofNat 1200 from rfl, ile_n (by omega) (by omega)]
    simp only [gr, bs, g1, c1, w1, ← q2, g2, p2, i_succ, nxt]
    refine hrec _ ⟨rfl, F1.trans (F2.trans (Fi.sI (a := a) ⟨by omega, by omega⟩)), ?_, fun j hj => ?_⟩
    · dsimp only
      rw [i_sI, if_pos ⟨rfl, rfl⟩]; rfl
    · dsimp only
      rw [i_sI, if_neg (by omega), q2, i_sI]
      by_cases e : j = t.1 + n
      · rw [if_pos ⟨rfl, e⟩, e]
        show _ = if t.1 ≤ t.1 + n then byt v (t.1 + n - t.1) else _
        rw [if_pos (by omega), Nat.add_sub_cancel_left]
      · rw [if_neg (fun z => e z.2)]; exact r1 j (by omega)
  · rintro rec ⟨_, M1⟩ ⟨rfl, F1, c1, r1⟩
    dsimp only at F1 c1 r1
    unfold bd_X7_append_3
    dsimp only
    rw [if_pos (by decide)]
    exact ok.pure ⟨F1, ⟨by rw [F1.k]; exact s1, by rw [F1.r]; exact s2, by rw [F1.k]; exact s3⟩, c1, hl, r1⟩
/-- the reference's text -/
def TM (M : Mem) (m : Nat) (t : Tx) : Prop := mI M m 18 = Int32.ofNat t.1 ∧ ∀ j, j < t.1 → mI M (m + 10) j = t.2 j
def Mt (m : Nat) (M M' : Mem) : Prop := mK M' = mK M ∧ mL M' = mL M ∧ mR M' = mR M ∧ mN M' = mN M ∧ ∀ x j, x ≠ m + 10 → ¬ (x = m ∧ j = 18) → mI M' x j = mI M x j
theorem Mt.rf : Mt m M M := ⟨rfl, rfl, rfl, rfl, fun _ _ _ _ => rfl⟩
theorem Mt.trans (h1 : Mt m M M1) (h2 : Mt m M1 M2) : Mt m M M2 := ⟨h2.1.trans h1.1, h2.2.1.trans h1.2.1, h2.2.2.1.trans h1.2.2.1, h2.2.2.2.1.trans h1.2.2.2.1, fun x j z1 z2 => (h2.2.2.2.2 x j z1 z2).trans (h1.2.2.2.2 x j z1 z2)⟩
theorem q_app (s : IsMo M m) (h : TM M m t) (hl : t.1 + 4 ≤ 1200) (v : Int32) : ok (f_X9_append M m v) (fun M' => Mt m M M' ∧ TM M' m (app t v)) := by
  obtain ⟨c, r⟩ := h
  unfold f_X9_append
  refine it_r (I := fun n (u : Int32 × Mem) => u.1 = Int32.ofInt (24 - 8 * (n : Int)) ∧ Mt m M u.2 ∧ mI u.2 m 18 = Int32.ofNat (t.1 + n) ∧ ∀ j, j < t.1 + n → mI u.2 (m + 10) j = (app t v).2 j) 4 ⟨rfl, Mt.rf, c, fun j hj => by
    rw [r j (by omega)]
    exact (if_neg (by omega)).symm⟩ (by omega) ?_ ?_
  · rintro rec n ⟨_, M1⟩ hn ⟨rfl, F1, c1, r1⟩ hrec
    dsimp only at F1 c1 r1
    have s1 : IsMo M1 m := s.e F1.1 F1.2.2.1
    have hpos : ¬ Int32.ofInt (24 - 8 * (n : Int)) < 0 := by
      rcases (show n = 0 ∨ n = 1 ∨ n = 2 ∨ n = 3 by omega) with e | e | e | e <;> subst e <;> decide
    have e24 : Int32.ofInt (24 - 8 * (n : Int)) = Int32.ofNat (24 - 8 * n) := by
      rcases (show n = 0 ∨ n = 1 ∨ n = 2 ∨ n = 3 by omega) with e | e | e | e <;> subst e <;> rfl
    have nxt : Int32.ofInt (24 - 8 * (n : Int)) + (-8) = Int32.ofInt (24 - 8 * ((n + 1 : Nat) : Int)) := by
      rcases (show n = 0 ∨ n = 1 ∨ n = 2 ∨ n = 3 by omega) with e | e | e | e <;> subst e <;> decide
    have w1 : wB M1 (m + 10) (Int32.ofNat (t.1 + n)) ((v >>> (Int32.ofInt (24 - 8 * (n : Int)) &&& 31) : Int32).toInt8.toInt32) = some (sI M1 (m + 10) (t.1 + n) (byt v n)) := by
      rw [wB_e s1.k17 (by omega) (by omega), e24, i8_rt]
      rfl
    obtain ⟨M2, q2⟩ : ∃ z, z = sI M1 (m + 10) (t.1 + n) (byt v n) := ⟨_, rfl⟩
    have s2 : IsMo M2 m := by rw [q2]; exact s1.e rfl rfl
    have c2 : mI M2 m 18 = Int32.ofNat (t.1 + n) := by rw [q2, i_sI, if_neg (by omega), c1]
    unfold bd_X9_append_3
    dsimp only
    rw [if_neg hpos]
    simp only [s1.r17, bs, s1.gi, c1, w1, ← q2, s2.gi, c2, s2.p, i_succ, nxt]
    refine hrec _ ⟨rfl, ⟨?_, ?_, ?_, ?_, fun x j z1 z2 => ?_⟩, ?_, fun j hj => ?_⟩
    · dsimp only
      rw [q2]; exact F1.1
    · dsimp only
      rw [q2]; exact F1.2.1
    · dsimp only
      rw [q2]; exact F1.2.2.1
    · dsimp only
      rw [q2]; exact F1.2.2.2.1
    · dsimp only
      rw [i_sI, if_neg z2, q2, i_sI, if_neg (fun z => z1 z.1)]
      exact F1.2.2.2.2 x j z1 z2
    · dsimp only
      rw [i_sI, if_pos ⟨rfl, rfl⟩]; rfl
    · dsimp only
      rw [i_sI, if_neg (by omega), q2, i_sI]
      by_cases e : j = t.1 + n
      · rw [if_pos ⟨rfl, e⟩, e]
        show _ = if t.1 ≤ t.1 + n then byt v (t.1 + n - t.1) else _
        rw [if_pos (by omega), Nat.add_sub_cancel_left]
      · rw [if_neg (fun z => e z.2)]; exact r1 j (by omega)
  · rintro rec ⟨_, M1⟩ ⟨rfl, F1, c1, r1⟩
    dsimp only at F1 c1 r1
    unfold bd_X9_append_3
    dsimp only
    rw [if_pos (by decide)]
    exact ok.pure ⟨F1, c1, r1⟩
end
