/-! ===== the reference's advance ===== -/
section
variable {M M' M0 M1 M2 : Mem} {t : Nat → Int32} {n p m hi s : Nat}
theorem n_le {α : Type} {kk : Mem → Option α} {Q : α → Prop} (h : NO M m t n s) (hw : mI M m 21 = Int32.ofNat s ∧ mI M m 22 = 1 ∧ mI M m 24 = 0 ∧ mL M m 23 = 0) (hk : ∀ M', Nt m 25 M M' → NO M' m t n (ru isL t n s) → (mI M' m 21 = Int32.ofNat s ∧ mI M' m 22 = 1 ∧ mI M' m 24 = 0 ∧ mL M' m 23 = Int64.ofNat (wd t s (ru isL t n s))) → ok (kk M') Q) : ok (it_ (bd_X9_advance_82 m kk) FU M) Q := by
  have l := h.1.2.2.1
  refine n_run (kk := kk) isL (fun q u => (mI u m 21 = Int32.ofNat s ∧ mI u m 22 = 1 ∧ mI u m 24 = 0 ∧ mL u m 23 = Int64.ofNat (wd t s q)) ∧ ∀ i, s ≤ i → i < q → isL (t i) = true) h ⟨⟨hw.1, hw.2.1, hw.2.2.1, ?_⟩, fun i h1 h2 => by omega⟩ ?_ ?_ fun M' a b c => hk M' a b c.1
  · rw [hw.2.2.2]
    unfold wd
    rw [if_pos (by omega), Nat.sub_self]
    rfl
  · rintro rec u q hu ⟨⟨g1, g2, g3, g4⟩, gl⟩ hpq hq hP
    have s' := hu.1.1
    have hc := isL_i hP
    have ep := pk_t hu hq (by omega)
    have dl := dg_l hP
    obtain ⟨u1, q1⟩ : ∃ z, z = sL u m 23 (Int64.ofNat (wd t s (q + 1))) := ⟨_, rfl⟩
    have F1 : Nt m 25 u u1 := by rw [q1]; exact Nt.sL _
    have s1 : IsMo u1 m := s'.e F1.1 F1.2.1
    have e20 : mI u1 m 20 = Int32.ofNat q := by rw [q1]; exact hu.2.1
    have F2 : Nt m 25 u (sI u1 m 20 (Int32.ofNat (q + 1))) := F1.trans (Nt.sI (by omega) (by omega) _)
    refine ⟨sI u1 m 20 (Int32.ofNat (q + 1)), ?_, F2, hu.nx hq F2 (by rw [i_sI, if_pos ⟨rfl, rfl⟩]), ⟨?_, ?_, ?_, ?_⟩, fun i h1 h2 => ?_⟩
    · unfold bd_X9_advance_82
      rw [s'.c, bs, m_peek hu, bs, m_rL hu, bs, b2i_ite, if_pos (decide_eq_true ⟨hq, hP⟩), s'.gi, bs, hu.2.1, s'.gi, bs, g1, i_sub hpq, show (12 : Int32) = Int32.ofNat 12 from rfl]
      have key : (if Int32.ofNat 12 ≤ Int32.ofNat (q - s) then some (0 : Int64) else gFL u m 9 23 >>= fun (x50 : Int64) => some () >>= fun _ => some (pk t n q) >>= fun (o51 : Int32) => some ((x50 <<< ((5 : Int32).toInt64 &&& 63)) ||| ((o51 - 96 : Int32).toInt64))) = some (Int64.ofNat (wd t s (q + 1))) := by
        by_cases c : 12 ≤ q - s
        · rw [if_pos ((i_le (by omega) (by omega)).mpr c), wd_0 (by omega)]; rfl
        · rw [if_neg (fun z => c ((i_le (by omega) (by omega)).mp z)), s'.gl, bs, g4, bs, bs, ep, dg_L hP, sh5L _ (Nat.lt_of_lt_of_le (wd_lt (k := 11) (by omega) (by omega) gl) (by decide)) dl.2.1, wd_s hpq (by omega)]
      rw [key, bs, s'.pl, bs, ← q1, s1.gi, bs, e20, i_succ, s1.p, bs]
    · rw [i_sI, if_neg (by omega), q1]; exact g1
    · rw [i_sI, if_neg (by omega), q1]; exact g2
    · rw [i_sI, if_neg (by omega), q1]; exact g3
    · show mL u1 m 23 = _
      rw [q1, l_sL, if_pos ⟨rfl, rfl⟩]
    · by_cases e : i = q
      · rw [e]; exact hP
      · exact gl i h1 (by omega)
  · intro rec u q hu hq
    have s' := hu.1.1
    unfold bd_X9_advance_82
    rw [s'.c, bs, m_peek hu, bs, m_rL hu, bs, b2i_ite, if_neg (fun z => by
      have := of_decide_eq_true z
      rw [hq this.1] at this
      exact Bool.noConfusion this.2)]
theorem dn_j {c : Int32} (h : isD c = true) {v : Nat} (hv : v ≤ 100000000) : (10 * Int32.ofNat v) + c - 48 = Int32.ofNat (10 * v + dn c) := by
  have h1 := isD_i h
  have h2 := dn_l h
  have e1 : (48 : Int32).toInt = 48 := rfl
  rw [show (10 : Int32) = Int32.ofNat 10 from rfl, i_mul]
  have e2 : (Int32.ofNat (10 * v)).toInt = ((10 * v : Nat) : Int) := i_toInt (by omega)
  have e3 : (Int32.ofNat (10 * v) + c).toInt = (Int32.ofNat (10 * v)).toInt + c.toInt := by
    rw [fb_addI] <;> rw [e2] <;> omega
  rw [eq_i, i_toInt (by omega), fb_subI] <;> rw [e1, e3, e2] <;> omega
theorem iv_lt : ∀ k, (∀ i, i < k → isD (t (s + i)) = true) → iv t s k ≤ 1000000009 := by
  intro k
  induction k with
  | zero => intro _; exact Nat.zero_le _
  | succ k ih =>
    intro h
    have d := dn_l (h k (by omega))
    show (if iv t s k ≤ 100000000 then 10 * iv t s k + dn (t (s + k)) else 1000000000) ≤ _
    split <;> omega
/-- both count a number's value alike, as far as it matters -/
theorem iv_nv : ∀ k, (∀ i, i < k → isD (t (s + i)) = true) → iv t s k = nv t s k ∨ (100000000 < iv t s k ∧ 100000000 < nv t s k) := by
  intro k
  induction k with
  | zero => intro _; exact Or.inl rfl
  | succ k ih =>
    intro h
    have d := dn_l (h k (by omega))
    have i1 := ih (fun i hi => h i (by omega))
    have e1 : iv t s (k + 1) = if iv t s k ≤ 100000000 then 10 * iv t s k + dn (t (s + k)) else 1000000000 := rfl
    have e2 : nv t s (k + 1) = nv t s k * 10 + dn (t (s + k)) := rfl
    rw [e1, e2]
    split <;> omega
theorem n_di {α : Type} {kk : Mem → Option α} {Q : α → Prop} (h : NO M m t n s) (hw : mI M m 21 = Int32.ofNat s ∧ mI M m 22 = 2 ∧ mI M m 24 = 0 ∧ mL M m 23 = 0) (hk : ∀ M', Nt m 25 M M' → NO M' m t n (ru isD t n s) → (mI M' m 21 = Int32.ofNat s ∧ mI M' m 22 = 2 ∧ mI M' m 24 = Int32.ofNat (iv t s (ru isD t n s - s)) ∧ mL M' m 23 = 0) → ok (kk M') Q) : ok (it_ (bd_X9_advance_184 m kk) FU M) Q := by
  have l := h.1.2.2.1
  refine n_run (kk := kk) isD (fun q u => (mI u m 21 = Int32.ofNat s ∧ mI u m 22 = 2 ∧ mI u m 24 = Int32.ofNat (iv t s (q - s)) ∧ mL u m 23 = 0) ∧ ∀ i, s ≤ i → i < q → isD (t i) = true) h ⟨⟨hw.1, hw.2.1, ?_, hw.2.2.2⟩, fun i h1 h2 => by omega⟩ ?_ ?_ fun M' a b c => hk M' a b c.1
  · rw [hw.2.2.1, Nat.sub_self]; rfl
  · rintro rec u q hu ⟨⟨g1, g2, g3, g4⟩, gl⟩ hpq hq hP
    have s' := hu.1.1
    have hc := isD_i hP
    have ep := pk_t hu hq (by omega)
    have il := iv_lt (t := t) (s := s) (q - s) (fun i hi => gl (s + i) (by omega) (by omega))
    have es : iv t s (q + 1 - s) = if iv t s (q - s) ≤ 100000000 then 10 * iv t s (q - s) + dn (t q) else 1000000000 := by
      rw [show q + 1 - s = q - s + 1 by omega]
      show (if iv t s (q - s) ≤ 100000000 then 10 * iv t s (q - s) + dn (t (s + (q - s))) else 1000000000) = _
      rw [show s + (q - s) = q by omega]
    obtain ⟨u1, q1⟩ : ∃ z, z = sI u m 24 (Int32.ofNat (iv t s (q + 1 - s))) := ⟨_, rfl⟩
    have F1 : Nt m 25 u u1 := by rw [q1]; exact Nt.sI (by omega) (by omega) _
    have s1 : IsMo u1 m := s'.e F1.1 F1.2.1
    have e20 : mI u1 m 20 = Int32.ofNat q := by rw [q1, i_sI, if_neg (by omega)]; exact hu.2.1
    have F2 : Nt m 25 u (sI u1 m 20 (Int32.ofNat (q + 1))) := F1.trans (Nt.sI (by omega) (by omega) _)
    refine ⟨sI u1 m 20 (Int32.ofNat (q + 1)), ?_, F2, hu.nx hq F2 (by rw [i_sI, if_pos ⟨rfl, rfl⟩]), ⟨?_, ?_, ?_, ?_⟩, fun i h1 h2 => ?_⟩
    · unfold bd_X9_advance_184
      rw [s'.c, bs, m_peek hu, bs, m_rD hu, bs, b2i_ite, if_pos (decide_eq_true ⟨hq, hP⟩), s'.gi, bs, g3]
      have key : (if Int32.ofNat (iv t s (q - s)) ≤ 100000000 then (some (Int32.ofNat (iv t s (q - s))) >>= fun (x35 : Int32) => some () >>= fun _ => some (pk t n q) >>= fun (o36 : Int32) => some (((10 * x35) + o36) - 48)) else some (1000000000 : Int32)) = some (Int32.ofNat (iv t s (q + 1 - s))) := by
        rw [es, show (100000000 : Int32) = Int32.ofNat 100000000 from rfl]
        by_cases c : iv t s (q - s) ≤ 100000000
        · rw [if_pos ((i_le (by omega) (by omega)).mpr c), if_pos c, bs, bs, bs, ep, dn_j hP c]
        · rw [if_neg (fun z => c ((i_le (by omega) (by omega)).mp z)), if_neg c]; rfl
      rw [key, bs, s'.p, bs, ← q1, s1.gi, bs, e20, i_succ, s1.p, bs]
    · rw [i_sI, if_neg (by omega), q1, i_sI, if_neg (by omega)]; exact g1
    · rw [i_sI, if_neg (by omega), q1, i_sI, if_neg (by omega)]; exact g2
    · rw [i_sI, if_neg (by omega), q1, i_sI, if_pos ⟨rfl, rfl⟩]
    · show mL u1 m 23 = _
      rw [q1]; exact g4
    · by_cases e : i = q
      · rw [e]; exact hP
      · exact gl i h1 (by omega)
  · intro rec u q hu hq
    have s' := hu.1.1
    unfold bd_X9_advance_184
    rw [s'.c, bs, m_peek hu, bs, m_rD hu, bs, b2i_ite, if_neg (fun z => by
      have := of_decide_eq_true z
      rw [hq this.1] at this
      exact Bool.noConfusion this.2)]
theorem m_adv (h : NO M m t n p) : ok (f_X9_advance M m) (fun M' => Nt m 25 M M' ∧ NC M' m t n p) := by
  have l := h.1.2.2.1
  unfold f_X9_advance
  refine n_sp h fun M1 F1 O1 => ?_
  obtain ⟨s, es⟩ : ∃ s, s = ru isS t n p := ⟨_, rfl⟩
  have es2 : tS t n p = s := es.symm
  rw [← es] at O1
  have ls : s ≤ n := O1.2.2
  have s1 := O1.1.1
  rw [s1.gi, bs, O1.2.1, s1.p, bs]
  obtain ⟨M2, q2⟩ : ∃ z, z = sI M1 m 21 (Int32.ofNat s) := ⟨_, rfl⟩
  have F2 : Nt m 25 M1 M2 := by rw [q2]; exact Nt.sI (by omega) (by omega) _
  have s2 : IsMo M2 m := s1.e F2.1 F2.2.1
  obtain ⟨M3, q3⟩ : ∃ z, z = sL M2 m 23 0 := ⟨_, rfl⟩
  have F3 : Nt m 25 M1 M3 := F2.trans (by rw [q3]; exact Nt.sL _)
  have s3 : IsMo M3 m := s1.e F3.1 F3.2.1
  obtain ⟨M4, q4⟩ : ∃ z, z = sI M3 m 24 0 := ⟨_, rfl⟩
  have F4 : Nt m 25 M1 M4 := F3.trans (by rw [q4]; exact Nt.sI (by omega) (by omega) _)
  have s4 : IsMo M4 m := s1.e F4.1 F4.2.1
  have O4 : NO M4 m t n s := ⟨O1.1.nt F4, by rw [q4, i_sI, if_neg (by omega), q3, i_sL, q2, i_sI, if_neg (by omega)]; exact O1.2.1, ls⟩
  have v21 : mI M4 m 21 = Int32.ofNat s := by rw [q4, i_sI, if_neg (by omega), q3, i_sL, q2, i_sI, if_pos ⟨rfl, rfl⟩]
  have v24 : mI M4 m 24 = 0 := by rw [q4, i_sI, if_pos ⟨rfl, rfl⟩]
  have v23 : mL M4 m 23 = 0 := by
    rw [q4]
    show mL M3 m 23 = 0
    rw [q3, l_sL, if_pos ⟨rfl, rfl⟩]
  have fin : ∀ (M5 : Mem) (e c w v : Nat), Nt m 25 M4 M5 → mI M5 m 21 = Int32.ofNat s → mI M5 m 20 = Int32.ofNat e → mI M5 m 22 = Int32.ofNat c → mL M5 m 23 = Int64.ofNat w → mI M5 m 24 = Int32.ofNat v → tE t n p = e → tC t n p = c → tW t n p = w → tI t n p = v → Nt m 25 M M5 ∧ NC M5 m t n p := fun M5 e c w v a a1 a2 a3 a4 a5 e1 e2 e3 e4 => ⟨F1.trans (F4.trans a), O4.1.nt a, by rw [es2]; exact a1, by rw [e1]; exact a2, by rw [e2]; exact a3, by rw [e3]; exact a4, by rw [e4]; exact a5, h.2.2⟩
  rw [← q2, s2.pl, bs, ← q3, s3.p, bs, ← q4, s4.c, bs, m_peek O4, bs]
  refine ok.bid ?_
  by_cases c : s < n
  · have c' : ¬ n ≤ tS t n p := by omega
    have c3 : (0 : Int32) ≤ pk t n s := by
      rw [le_i, (pk_v O4).2 c, show (0 : Int32).toInt = 0 from rfl]
      have := O4.1.2.2.2 s c
      split <;> omega
    rw [if_pos c3, m_rL O4, bs, b2i_ite]
    by_cases c1 : isL (t s) = true
    · obtain ⟨M5, q5⟩ : ∃ z, z = sI M4 m 22 1 := ⟨_, rfl⟩
      have F5 : Nt m 25 M4 M5 := by rw [q5]; exact Nt.sI (by omega) (by omega) _
      have O5 : NO M5 m t n s := ⟨O4.1.nt F5, by rw [q5, i_sI, if_neg (by omega)]; exact O4.2.1, ls⟩
      rw [if_pos (decide_eq_true ⟨c, c1⟩), s4.p, bs, ← q5]
      have eC : tC t n p = 1 := by
        unfold tC
        rw [if_neg c', es2, if_pos c1]
      have eE : tE t n p = ru isL t n s := by
        unfold tE
        rw [if_neg c', es2, if_pos c1]
      have eW : tW t n p = wd t s (ru isL t n s) := by
        unfold tW
        rw [if_pos eC, eE, es2]
      have eI : tI t n p = 0 := by
        unfold tI
        rw [if_neg (by omega)]
      refine n_le O5 ⟨?_, ?_, ?_, ?_⟩ fun M6 F6 O6 g6 => ?_
      · rw [q5, i_sI, if_neg (by omega)]; exact v21
      · rw [q5, i_sI, if_pos ⟨rfl, rfl⟩]
      · rw [q5, i_sI, if_neg (by omega)]; exact v24
      · rw [q5]; exact v23
      · have s6 := O6.1.1
        have l6 := O6.2.2
        rw [s6.gi, bs, O6.2.1, s6.gi, bs, g6.1, i_sub (ru_ge _), show (12 : Int32) = Int32.ofNat 12 from rfl]
        by_cases c2 : ru isL t n s - s ≤ 12
        · rw [if_pos ((i_le (by omega) (by omega)).mpr c2)]
          exact ok.pure (fin M6 _ 1 _ 0 (F5.trans F6) g6.1 O6.2.1 g6.2.1 g6.2.2.2 g6.2.2.1 eE eC eW eI)
        · rw [if_neg (fun z => c2 ((i_le (by omega) (by omega)).mp z)), s6.pl, bs]
          exact ok.pure (fin _ _ 1 0 0 (F5.trans (F6.trans (Nt.sL _))) g6.1 O6.2.1 g6.2.1 (by rw [l_sL, if_pos ⟨rfl, rfl⟩]; rfl) g6.2.2.1 eE eC (by rw [eW]; exact wd_0 (by omega)) eI)
    · rw [if_neg (fun z => c1 (of_decide_eq_true z).2), m_rD O4, bs, b2i_ite]
      by_cases c2 : isD (t s) = true
      · obtain ⟨M5, q5⟩ : ∃ z, z = sI M4 m 22 2 := ⟨_, rfl⟩
        have F5 : Nt m 25 M4 M5 := by rw [q5]; exact Nt.sI (by omega) (by omega) _
        have O5 : NO M5 m t n s := ⟨O4.1.nt F5, by rw [q5, i_sI, if_neg (by omega)]; exact O4.2.1, ls⟩
        rw [if_pos (decide_eq_true ⟨c, c2⟩), s4.p, bs, ← q5]
        have eC : tC t n p = 2 := by
          unfold tC
          rw [if_neg c', es2, if_neg c1, if_pos c2]
        have eE : tE t n p = ru isD t n s := by
          unfold tE
          rw [if_neg c', es2, if_neg c1, if_pos c2]
        have eW : tW t n p = 0 := by
          unfold tW
          rw [if_neg (by omega)]
        have eI : tI t n p = iv t s (ru isD t n s - s) := by
          unfold tI
          rw [if_pos eC, eE, es2]
        refine n_di O5 ⟨?_, ?_, ?_, ?_⟩ fun M6 F6 O6 g6 => ?_
        · rw [q5, i_sI, if_neg (by omega)]; exact v21
        · rw [q5, i_sI, if_pos ⟨rfl, rfl⟩]
        · rw [q5, i_sI, if_neg (by omega)]; exact v24
        · rw [q5]; exact v23
        · exact ok.pure (fin M6 _ 2 0 _ (F5.trans F6) g6.1 O6.2.1 g6.2.1 g6.2.2.2 g6.2.2.1 eE eC eW eI)
      · have e59 : (if pk t n s = 59 then (3 : Int32) else 4) = Int32.ofNat (if t s = 59 then 3 else 4) := by
          have key := pk_iff O4 (c := 59) (by decide) (by decide)
          by_cases z : t s = 59
          · rw [if_pos (key.mpr ⟨c, z⟩), if_pos z]; rfl
          · rw [if_neg (fun y => z (key.mp y).2), if_neg z]; rfl
        rw [if_neg (fun z => c2 (of_decide_eq_true z).2), is_, bs, e59, s4.p, bs]
        obtain ⟨M5, q5⟩ : ∃ z, z = sI M4 m 22 (Int32.ofNat (if t s = 59 then 3 else 4)) := ⟨_, rfl⟩
        have F5 : Nt m 25 M4 M5 := by rw [q5]; exact Nt.sI (by omega) (by omega) _
        have s5 : IsMo M5 m := s4.e F5.1 F5.2.1
        have e20 : mI M5 m 20 = Int32.ofNat s := by rw [q5, i_sI, if_neg (by omega)]; exact O4.2.1
        rw [← q5, s5.gi, bs, e20, i_succ, s5.p, bs]
        have eC : tC t n p = if t s = 59 then 3 else 4 := by
          unfold tC
          rw [if_neg c', es2, if_neg c1, if_neg c2]
        have eE : tE t n p = s + 1 := by
          unfold tE
          rw [if_neg c', es2, if_neg c1, if_neg c2]
        have c34 : (if t s = 59 then 3 else 4) = 3 ∨ (if t s = 59 then 3 else 4) = 4 := by split <;> omega
        refine ok.pure (fin _ (s + 1) _ 0 0 (F5.trans (Nt.sI (by omega) (by omega) _)) ?_ ?_ ?_ ?_ ?_ eE eC ?_ ?_)
        · rw [i_sI, if_neg (by omega), q5, i_sI, if_neg (by omega)]; exact v21
        · rw [i_sI, if_pos ⟨rfl, rfl⟩]
        · rw [i_sI, if_neg (by omega), q5, i_sI, if_pos ⟨rfl, rfl⟩]
        · show mL M5 m 23 = _
          rw [q5]; exact v23
        · rw [i_sI, if_neg (by omega), q5, i_sI, if_neg (by omega)]; exact v24
        · unfold tW
          rw [if_neg (by omega)]
        · unfold tI
          rw [if_neg (by omega)]
  · have c' : n ≤ tS t n p := by omega
    have c3 : ¬ (0 : Int32) ≤ pk t n s := by
      rw [le_i, (pk_v O4).1 (by omega), show (0 : Int32).toInt = 0 from rfl]
      omega
    have eC : tC t n p = 0 := by
      unfold tC
      rw [if_pos c']
    rw [if_neg c3, s4.p, bs]
    refine ok.pure (fin _ s 0 0 0 (Nt.sI (by omega) (by omega) _) ?_ ?_ ?_ ?_ ?_ ?_ eC ?_ ?_)
    · rw [i_sI, if_neg (by omega)]; exact v21
    · rw [i_sI, if_neg (by omega)]; exact O4.2.1
    · rw [i_sI, if_pos ⟨rfl, rfl⟩]; rfl
    · exact v23
    · rw [i_sI, if_neg (by omega)]; exact v24
    · unfold tE
      rw [if_pos c', es2]
    · unfold tW
      rw [if_neg (by omega)]
    · unfold tI
      rw [if_neg (by omega)]
end
