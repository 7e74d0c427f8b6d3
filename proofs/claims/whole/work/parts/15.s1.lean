theorem st_tt {t : Nat} {f g : Nat → Value} {A : Nat → Prop} {s : State} {H : Heap} (h1 : va_T .int t 4 f A s H) (h2 : va_T .int t 4 g A s H) (k : Nat) (hk : k < 4) : f k = g k := by
  obtain ⟨c1, a1, -, -, -, -, a2, -⟩ := h1
  obtain ⟨c2, b1, -, -, -, -, b2, -⟩ := h2
  cases Option.some.inj (a1.symm.trans b1)
  exact Option.some.inj ((a2 k hk).symm.trans (b2 k hk))
theorem st_tx {t L : Nat} {xs : Nat → Int32} {g : Nat → Value} {A : Nat → Prop} {s : State} {H : Heap} (hL : L ≤ 3072) (h1 : va_X t L xs s H) (h2 : va_T .int t 4 g A s H) : L = 4 ∧ ∀ k, k < 4 → .int (xs k) = g k := by
  obtain ⟨c1, a1, -, -, a3, a2⟩ := h1
  obtain ⟨c2, b1, -, -, b3, b4, b2, -⟩ := h2
  cases Option.some.inj (a1.symm.trans b1)
  rw [a3] at b4
  have e : L = 4 := by
    have h := congrArg Int32.toNatClampNeg b4
    rw [show L.toInt32 = Int32.ofNat L from rfl, Int32.toNatClampNeg_ofNat_of_lt (by omega), Int32.toNatClampNeg_ofNat_of_lt (by omega)] at h
    exact h
  exact ⟨e, fun k hk => Option.some.inj ((a2 k (by omega)).symm.trans (b2 k hk))⟩
set_option maxHeartbeats 400000 in
theorem st_mk {s : State} {b L : Nat} {xs : Nat → Int32} (hts : ∀ w ∈ lw_tbl, w.before #[Value.ref b] s = true) (hg : (Cond.and given_1 narrow_1).before #[Value.ref b] s = true) (hX : va_X b L xs s s.heap) (hb : b < s.heap.size) (hL : L ≤ 3072) : ∃ (G : Gx) (M : Mem), Wd G M s s.heap ∧ Wf G M s s.heap ∧ Fo G s s.heap ∧ gB G = s.heap.size ∧ Start M b L xs := by
  have hA : ∀ a : Nat, a < s.heap.size → ¬ (fun q : Nat => s.heap.size ≤ q) a := fun a h z => Nat.lt_irrefl _ (Nat.lt_of_lt_of_le h z)
  have h1 : ∀ c : Nat, ∃ p : ClassId × (Nat → Nat), ∀ q, vwCl[c]? = some q → u_Kn s q.1 q.2.1 q.2.2 p.1 p.2 := by
    intro c
    cases hq : vwCl[c]? with
    | none => exact ⟨((0 : Nat), fun _ => 0), fun q h => by cases h⟩
    | some q =>
      obtain ⟨cC, iS, h⟩ := u_known (ws := TT) (C := q.1) (T := q.2.1) (N := q.2.2) (fun w hw => hts w (tt_tbl hw)) (fun w hw => uw_ok w (List.mem_flatten.mpr ⟨_, List.mem_map.mpr ⟨q, List.mem_of_getElem? hq, rfl⟩, hw⟩)) (hts _ (st_a6.1 q (List.mem_of_getElem? hq)))
      exact ⟨(cC, iS), fun q' h' => by cases h'; exact h⟩
  obtain ⟨D, hD⟩ := Classical.axiomOfChoice h1
  obtain ⟨c0, a0, f0⟩ := st_arr (hts _ st_a6.2.1)
  obtain ⟨c1, a1, f1⟩ := st_arr (hts _ st_a6.2.2.1)
  obtain ⟨c2, a2, f2⟩ := st_arr (hts _ st_a6.2.2.2.1)
  obtain ⟨c3, a3, f3⟩ := st_over (hts _ st_a6.2.2.2.2.1)
  have h2 : ∀ j : Nat, ∃ t : Nat, j < 3 → (stz j).eval #[Value.ref b] s none [] s = some (.ref t) ∧ va_T .int t 4 (fun k => .int (stv j k)) (fun q => s.heap.size ≤ q) s s.heap := by
    intro j
    by_cases hj : j < 3
    · obtain ⟨q1, q2, q3, q4⟩ := st_a1 j hj
      obtain ⟨t, ht, hT⟩ := va_Tof (N := 4) (f := fun k => .int (stv j k)) (A := fun q => s.heap.size ≤ q) (by decide) (st_wd hg q1) (va_eqt (st_wd hg q2)) (fun k hk => va_eqt (st_wd hg (q3 k hk))) hA
      exact ⟨t, fun _ => ⟨ht, hT⟩⟩
    · exact ⟨0, fun h => absurd h hj⟩
  obtain ⟨F, hF⟩ := Classical.axiomOfChoice h2
  obtain ⟨gs, gv, hS, hSe⟩ := vk_Sof (args := #[Value.ref b]) (s := s) (N := 10) (tm := sgm) (len := strL) (byt := strI) (A := fun q => s.heap.size ≤ q) (fun i hi => (st_a4 i hi).1) (fun i hi => st_wd hg (st_a4 i hi).2.1) (fun i hi => st_wd hg (st_a4 i hi).2.2.1) (fun i hi => st_wd hg (st_a4 i hi).2.2.2.1) (fun i hi => st_wd hg (st_a4 i hi).2.2.2.2.1) (fun i hi k hk => st_wd hg ((st_a4 i hi).2.2.2.2.2.1 k hk)) (fun i j hi hj hij => (st_a5 i hi j hj hij).imp (fun h => st_wd hg h) (fun h => st_wd hg h)) hA
  have hFlt : ∀ j, j < 3 → F j < s.heap.size := fun j hj => by
    obtain ⟨-, cell, g1, -⟩ := hF j hj
    exact (Array.getElem?_eq_some_iff.mp g1).1
  obtain ⟨G, hG⟩ : ∃ G : Gx, G = ((fun c => (D c).1, fun c => (D c).2), fun k => if k = 0 then c0 else if k = 1 then c1 else if k = 2 then c2 else c3, s.heap.size, F, gs, gv) := ⟨_, rfl⟩
  obtain ⟨K, hK⟩ : ∃ K : Nat → Nat × Nat, K = fun a => if a = b then (25, L) else if a = F 0 ∨ a = F 1 ∨ a = F 2 then (25, 4) else (99, 0) := ⟨_, rfl⟩
  obtain ⟨I, hI⟩ : ∃ I : Nat → Nat → Int32, I = fun a j => if a = b then xs j else if a = F 0 then stv 0 j else if a = F 1 then stv 1 j else if a = F 2 then stv 2 j else 0 := ⟨_, rfl⟩
  obtain ⟨R, hR⟩ : ∃ R : Nat → Nat → Option Nat, R = fun a j => if a = 0 then (if j < 3 then some (F j) else if j < 10 then none else if j < 20 then some (gs (j - 10)) else some (gv (j - 20))) else none := ⟨_, rfl⟩
  have eF : ∀ j, j < 3 → K (F j) = (25, 4) ∧ ∀ k, k < 4 → I (F j) k = stv j k := by
    intro j hj
    obtain ⟨-, hTj⟩ := hF j hj
    by_cases hjb : F j = b
    · obtain ⟨e1, e2⟩ := st_tx hL hX (by rw [← hjb]; exact hTj)
      refine ⟨by rw [hK]; show (if F j = b then _ else _) = _; rw [if_pos hjb, e1], fun k hk => ?_⟩
      rw [hI]
      show (if F j = b then _ else _) = _
      rw [if_pos hjb]
      exact Value.int.inj (e2 k hk)
    · have h3 : F j = F 0 ∨ F j = F 1 ∨ F j = F 2 := by
        have h012 : j = 0 ∨ j = 1 ∨ j = 2 := by omega
        rcases h012 with h | h | h
        · exact Or.inl (by rw [h])
        · exact Or.inr (Or.inl (by rw [h]))
        · exact Or.inr (Or.inr (by rw [h]))
      refine ⟨by rw [hK]; show (if F j = b then _ else _) = _; rw [if_neg hjb, if_pos h3], fun k hk => ?_⟩
      rw [hI]
      show (if F j = b then _ else if F j = F 0 then _ else if F j = F 1 then _ else if F j = F 2 then _ else _) = _
      rw [if_neg hjb]
      have key : ∀ i, i < 3 → F j = F i → stv i k = stv j k := by
        intro i hi e
        obtain ⟨-, hTi⟩ := hF i hi
        rw [← e] at hTi
        exact Value.int.inj (st_tt hTi hTj k hk)
      by_cases e0 : F j = F 0
      · rw [if_pos e0]; exact key 0 (by decide) e0
      · rw [if_neg e0]
        by_cases e1 : F j = F 1
        · rw [if_pos e1]; exact key 1 (by decide) e1
        · rw [if_neg e1]
          have e2 : F j = F 2 := (h3.resolve_left e0).resolve_left e1
          rw [if_pos e2]; exact key 2 (by decide) e2
  have eR : ∀ i, i < 10 → R 0 (10 + i) = some (gs i) ∧ R 0 (20 + i) = some (gv i) := by
    intro i hi
    rw [hR]
    refine ⟨?_, ?_⟩
    · show (if (0 : Nat) = 0 then (if 10 + i < 3 then _ else if 10 + i < 10 then _ else if 10 + i < 20 then _ else _) else _) = _
      rw [if_pos rfl, if_neg (by omega), if_neg (by omega), if_pos (by omega), show 10 + i - 10 = i by omega]
    · show (if (0 : Nat) = 0 then (if 20 + i < 3 then _ else if 20 + i < 10 then _ else if 20 + i < 20 then _ else _) else _) = _
      rw [if_pos rfl, if_neg (by omega), if_neg (by omega), if_neg (by omega), show 20 + i - 20 = i by omega]
  have eS : ∀ j, j < 3 → R 0 j = some (F j) := by
    intro j hj
    rw [hR]
    show (if (0 : Nat) = 0 then (if j < 3 then _ else _) else _) = _
    rw [if_pos rfl, if_pos hj]
  have eK : ∀ a, ¬ ow (K a).1 := by
    intro a
    rw [hK]
    show ¬ ow (if a = b then _ else if _ then _ else _ : Nat × Nat).1
    split
    · show ¬ ow 25; unfold ow; omega
    · split
      · show ¬ ow 25; unfold ow; omega
      · show ¬ ow 99; unfold ow; omega
  have gb : gB G = s.heap.size := by rw [hG]; rfl
  have gaa : gAA G = fun q => s.heap.size ≤ q := by unfold gAA; rw [gb]
  have hpos : 0 < s.heap.size := Nat.lt_of_le_of_lt (Nat.zero_le _) hb
  refine ⟨G, (K, I, fun _ _ => 0, R, some s.heap.size), ⟨fun a ha => absurd ha (eK a), fun n hn => Option.some.inj hn, fun c q hq => ?_, fun k q hq => ?_⟩, ⟨fun a ha => ?_, trivial, fun j hj => ?_, fun i hi => ?_, ?_, ?_⟩, ?_, gb, s.heap.size, rfl, hb, ?_, fun j hj => ?_, fun j hj => ⟨F j, hFlt j hj, eS j hj, (eF j hj).1, (eF j hj).2⟩, fun i hi => ⟨gs i, (eR i hi).1, ?_⟩, hpos⟩
  · rw [hG]; exact hD c q hq
  · rw [hG] at hq
    have hT : gT (((fun c => (D c).1, fun c => (D c).2), fun k => if k = 0 then c0 else if k = 1 then c1 else if k = 2 then c2 else c3, s.heap.size, F, gs, gv) : Gx) = [(c0, .int), (c1, .byte), (c2, .long), (c3, .array .int)] := rfl
    rw [hT] at hq
    have hm := List.mem_of_getElem? hq
    simp only [List.mem_cons, List.not_mem_nil, or_false] at hm
    rcases hm with h | h | h | h <;> rw [h]
    · exact ⟨a0, f0⟩
    · exact ⟨a1, f1⟩
    · exact ⟨a2, f2⟩
    · exact ⟨a3, f3⟩
  · rw [gb, gaa]
    have ha' : (K a).1 = 25 := ha
    show va_T .int a (K a).2 (fun j => .int (I a j)) (fun q => s.heap.size ≤ q) s s.heap ∧ a < s.heap.size
    by_cases hab : a = b
    · subst hab
      have e1 : K a = (25, L) := by rw [hK]; exact if_pos rfl
      have e2 : I a = xs := by rw [hI]; funext j; exact if_pos rfl
      rw [e1, e2]
      obtain ⟨scr, g1, g2, g3, g4, g5⟩ := hX
      exact ⟨⟨scr, g1, g2, g3, Nat.le_of_eq g4.symm, (by rw [g4]), g5, hA a hb⟩, hb⟩
    · have h3 : a = F 0 ∨ a = F 1 ∨ a = F 2 := by
        by_cases h : a = F 0 ∨ a = F 1 ∨ a = F 2
        · exact h
        · have e : K a = (99, 0) := by
            rw [hK]
            show (if a = b then _ else if _ then _ else _) = _
            rw [if_neg hab, if_neg h]
          rw [e] at ha'
          cases ha'
      have h4 : ∃ j, j < 3 ∧ a = F j := by
        rcases h3 with h | h | h
        · exact ⟨0, by decide, h⟩
        · exact ⟨1, by decide, h⟩
        · exact ⟨2, by decide, h⟩
      obtain ⟨j, hj, rfl⟩ := h4
      obtain ⟨-, cell, g1, g2, g3, g4, g5, g6, g7⟩ := hF j hj
      rw [(eF j hj).1]
      exact ⟨⟨cell, g1, g2, g3, g4, g5, fun k hk => (g6 k hk).trans (congrArg (fun z => some (Value.int z)) ((eF j hj).2 k hk).symm), g7⟩, hFlt j hj⟩
  · rw [show gF G = F by rw [hG]; rfl]; exact eS j hj
  · rw [show gS G = gs by rw [hG]; rfl, show gV G = gv by rw [hG]; rfl]; exact eR i hi
  · rw [gb]; exact hpos
  · rw [gb]; exact Nat.le_refl _
  · have wF : gF G = F := by rw [hG]; rfl
    have wS : gS G = gs := by rw [hG]; rfl
    have wV : gV G = gv := by rw [hG]; rfl
    unfold Fo
    rw [gaa, wF, wS, wV]
    refine ⟨⟨va_Zref (hts _ (st_a1 0 (by decide)).2.2.2) (hts _ st_a3.2.2.2.2.2.2.2) (hF 0 (by decide)).1 hA, va_Zref (hts _ (st_a1 1 (by decide)).2.2.2) (hts _ st_a3.2.2.2.2.2.2.2) (hF 1 (by decide)).1 hA, va_Zref (hts _ (st_a1 2 (by decide)).2.2.2) (hts _ st_a3.2.2.2.2.2.2.2) (hF 2 (by decide)).1 hA, va_Zof (hts _ st_a3.1) (hts _ st_a3.2.2.2.2.1) (va_eqt (st_wd hg st_a2.1)) hA, va_Zqof (hts _ st_a3.2.1) (hts _ st_a3.2.2.2.2.2.1) (st_wd hg st_a2.2.1) hA⟩, hS, ⟨vx_Zqof (hts _ st_a3.2.2.1) (hts _ st_a3.2.2.2.2.2.2.1) (st_wd hg st_a2.2.2.1) hA, vx_Zqof (hts _ st_a3.2.2.2.1) (hts _ st_a3.2.2.2.2.2.2.1) (st_wd hg st_a2.2.2.2) hA⟩, fun i hi => vk_R.of (hts _ (st_a4 i hi).2.2.2.2.2.2) (hSe i hi), ?_, fun w hw => ?_, fun w hw => ?_⟩
    · have h := hts _ st_a6.2.2.2.2.1
      exact h
    · exact xcd_moved (List.all_eq_true.mp xCB_k w hw) (Vm.Alike.refl _) (hts _ (st_a6.2.2.2.2.2.1 w hw))
    · exact va_Nw.of (xnw_on (List.all_eq_true.mp xNW_k w hw)) (hts _ (st_a6.2.2.2.2.2.2 w hw))
  · show K b = (25, L)
    rw [hK]
    exact if_pos rfl
  · show I b j = xs j
    rw [hI]
    exact if_pos rfl
  · unfold sIx
    refine List.find?_range_eq_some.mpr ⟨decide_eq_true (eR i hi).1, List.mem_range.mpr hi, fun j hj => ?_⟩
    rw [Bool.not_eq_true', decide_eq_false_iff_not]
    intro h
    have e := hS.2 j i (by omega) hi (Option.some.inj ((eR j (by omega)).1.symm.trans h))
    omega
