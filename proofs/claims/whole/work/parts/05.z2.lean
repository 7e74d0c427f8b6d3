section ZR
variable {ρ : Type} {X : Cxt} {Qo : ρ → State → Prop} {C S pc : Nat} {lv : List (Nat × Value)} {st : List Value} {M : Mem} {t : Option ρ} {cc : ByteArray} {own : String} {R0 : Room} {rt : Option FieldType} {nL : Nat}
theorem z_iconst (hX : okX X cc own R0 rt nL) {n : Int} {v : Int32} (hv : Int32.ofInt n = v) (hd : decode cc pc = .ok (.iconst n, 1)) (k : Zj X Qo C S (pc + 1) lv (.int v :: st) M t) : Zj X Qo C S pc lv (st) M t := by
  obtain ⟨p, l, e, R, s, m, args, below, meth, c, G, n9⟩ := X
  obtain ⟨hx, hb, hml, hown, hts, hFo, hlk, hR, hstk, hrt, hnL⟩ := hX
  intro out ho H locs ls hW hF hS hl
  exact lv_iconst hx hb hd hv (k out ho H locs ls hW hF hS hl)
theorem z_bipush (hX : okX X cc own R0 rt nL) {n : Int} {v : Int32} (hv : (Int8.ofInt n).toInt32 = v) (hd : decode cc pc = .ok (.bipush n, 2)) (k : Zj X Qo C S (pc + 2) lv (.int v :: st) M t) : Zj X Qo C S pc lv (st) M t := by
  obtain ⟨p, l, e, R, s, m, args, below, meth, c, G, n9⟩ := X
  obtain ⟨hx, hb, hml, hown, hts, hFo, hlk, hR, hstk, hrt, hnL⟩ := hX
  intro out ho H locs ls hW hF hS hl
  exact lv_bipush hx hb hd hv (k out ho H locs ls hW hF hS hl)
theorem z_sipush (hX : okX X cc own R0 rt nL) {n : Int} {v : Int32} (hv : (Int16.ofInt n).toInt32 = v) (hd : decode cc pc = .ok (.sipush n, 3)) (k : Zj X Qo C S (pc + 3) lv (.int v :: st) M t) : Zj X Qo C S pc lv (st) M t := by
  obtain ⟨p, l, e, R, s, m, args, below, meth, c, G, n9⟩ := X
  obtain ⟨hx, hb, hml, hown, hts, hFo, hlk, hR, hstk, hrt, hnL⟩ := hX
  intro out ho H locs ls hW hF hS hl
  exact lv_sipush hx hb hd hv (k out ho H locs ls hW hF hS hl)
theorem z_lconst (hX : okX X cc own R0 rt nL) {n : Fin 2} {v : Int64} (hv : Int64.ofNat (n : Nat) = v) (hd : decode cc pc = .ok (.lconst n, 1)) (k : Zj X Qo C S (pc + 1) lv (.long v :: st) M t) : Zj X Qo C S pc lv (st) M t := by
  obtain ⟨p, l, e, R, s, m, args, below, meth, c, G, n9⟩ := X
  obtain ⟨hx, hb, hml, hown, hts, hFo, hlk, hR, hstk, hrt, hnL⟩ := hX
  intro out ho H locs ls hW hF hS hl
  exact lv_lconst hx hb hd hv (k out ho H locs ls hW hF hS hl)
theorem z_ldc (hX : okX X cc own R0 rt nL) {ix : Nat} {v : Int32} (hc : Cond.constant own ix v ∈ TT) (hd : decode cc pc = .ok (.ldc ix, 2)) (k : Zj X Qo C S (pc + 2) lv (.int v :: st) M t) : Zj X Qo C S pc lv (st) M t := by
  obtain ⟨p, l, e, R, s, m, args, below, meth, c, G, n9⟩ := X
  obtain ⟨hx, hb, hml, hown, hts, hFo, hlk, hR, hstk, hrt, hnL⟩ := hX
  intro out ho H locs ls hW hF hS hl
  exact lv_ldc hx hb hown (hts _ hc) hd (k out ho H locs ls hW hF hS hl)
theorem z_ldcw (hX : okX X cc own R0 rt nL) {ix : Nat} {v : Int32} (hc : Cond.constant own ix v ∈ TT) (hd : decode cc pc = .ok (.ldc_w ix, 3)) (k : Zj X Qo C S (pc + 3) lv (.int v :: st) M t) : Zj X Qo C S pc lv (st) M t := by
  obtain ⟨p, l, e, R, s, m, args, below, meth, c, G, n9⟩ := X
  obtain ⟨hx, hb, hml, hown, hts, hFo, hlk, hR, hstk, hrt, hnL⟩ := hX
  intro out ho H locs ls hW hF hS hl
  exact lv_ldcw hx hb hown (hts _ hc) hd (k out ho H locs ls hW hF hS hl)
theorem z_ldc2 (hX : okX X cc own R0 rt nL) {ix : Nat} {v : Int64} (hc : Cond.constantLong own ix v ∈ TT) (hd : decode cc pc = .ok (.ldc2_w ix, 3)) (k : Zj X Qo C S (pc + 3) lv (.long v :: st) M t) : Zj X Qo C S pc lv (st) M t := by
  obtain ⟨p, l, e, R, s, m, args, below, meth, c, G, n9⟩ := X
  obtain ⟨hx, hb, hml, hown, hts, hFo, hlk, hR, hstk, hrt, hnL⟩ := hX
  intro out ho H locs ls hW hF hS hl
  exact lv_ldc2 hx hb hown (hts _ hc) hd (k out ho H locs ls hW hF hS hl)
theorem z_iload_n (hX : okX X cc own R0 rt nL) (q : Nat) {f : Fin 4} {i : Nat} {x : Int32} (hi : (f : Nat) = i) (hq : lv[q]? = some (i, .int x)) (hd : decode cc pc = .ok (.iload_n f, 1)) (k : Zj X Qo C S (pc + 1) lv (.int x :: st) M t) : Zj X Qo C S pc lv (st) M t := by
  obtain ⟨p, l, e, R, s, m, args, below, meth, c, G, n9⟩ := X
  obtain ⟨hx, hb, hml, hown, hts, hFo, hlk, hR, hstk, hrt, hnL⟩ := hX
  intro out ho H locs ls hW hF hS hl
  exact lv_iload_n hx hb hd hi (lv_at hl q hq) (k out ho H locs ls hW hF hS hl)
theorem z_iload (hX : okX X cc own R0 rt nL) (q : Nat) {i : Nat} {x : Int32} (hq : lv[q]? = some (i, .int x)) (hd : decode cc pc = .ok (.iload i, 2)) (k : Zj X Qo C S (pc + 2) lv (.int x :: st) M t) : Zj X Qo C S pc lv (st) M t := by
  obtain ⟨p, l, e, R, s, m, args, below, meth, c, G, n9⟩ := X
  obtain ⟨hx, hb, hml, hown, hts, hFo, hlk, hR, hstk, hrt, hnL⟩ := hX
  intro out ho H locs ls hW hF hS hl
  exact lv_iload hx hb hd (lv_at hl q hq) (k out ho H locs ls hW hF hS hl)
theorem z_lload_n (hX : okX X cc own R0 rt nL) (q : Nat) {f : Fin 4} {i : Nat} {x : Int64} (hi : (f : Nat) = i) (hq : lv[q]? = some (i, .long x)) (hd : decode cc pc = .ok (.lload_n f, 1)) (k : Zj X Qo C S (pc + 1) lv (.long x :: st) M t) : Zj X Qo C S pc lv (st) M t := by
  obtain ⟨p, l, e, R, s, m, args, below, meth, c, G, n9⟩ := X
  obtain ⟨hx, hb, hml, hown, hts, hFo, hlk, hR, hstk, hrt, hnL⟩ := hX
  intro out ho H locs ls hW hF hS hl
  exact lv_lload_n hx hb hd hi (lv_at hl q hq) (k out ho H locs ls hW hF hS hl)
theorem z_lload (hX : okX X cc own R0 rt nL) (q : Nat) {i : Nat} {x : Int64} (hq : lv[q]? = some (i, .long x)) (hd : decode cc pc = .ok (.lload i, 2)) (k : Zj X Qo C S (pc + 2) lv (.long x :: st) M t) : Zj X Qo C S pc lv (st) M t := by
  obtain ⟨p, l, e, R, s, m, args, below, meth, c, G, n9⟩ := X
  obtain ⟨hx, hb, hml, hown, hts, hFo, hlk, hR, hstk, hrt, hnL⟩ := hX
  intro out ho H locs ls hW hF hS hl
  exact lv_lload hx hb hd (lv_at hl q hq) (k out ho H locs ls hW hF hS hl)
theorem z_aload_n (hX : okX X cc own R0 rt nL) (q : Nat) {f : Fin 4} {i : Nat} {x : Nat} (hi : (f : Nat) = i) (hq : lv[q]? = some (i, .ref x)) (hd : decode cc pc = .ok (.aload_n f, 1)) (k : Zj X Qo C S (pc + 1) lv (.ref x :: st) M t) : Zj X Qo C S pc lv (st) M t := by
  obtain ⟨p, l, e, R, s, m, args, below, meth, c, G, n9⟩ := X
  obtain ⟨hx, hb, hml, hown, hts, hFo, hlk, hR, hstk, hrt, hnL⟩ := hX
  intro out ho H locs ls hW hF hS hl
  exact lv_aload_n hx hb hd hi (lv_at hl q hq) (k out ho H locs ls hW hF hS hl)
theorem z_aload (hX : okX X cc own R0 rt nL) (q : Nat) {i : Nat} {x : Nat} (hq : lv[q]? = some (i, .ref x)) (hd : decode cc pc = .ok (.aload i, 2)) (k : Zj X Qo C S (pc + 2) lv (.ref x :: st) M t) : Zj X Qo C S pc lv (st) M t := by
  obtain ⟨p, l, e, R, s, m, args, below, meth, c, G, n9⟩ := X
  obtain ⟨hx, hb, hml, hown, hts, hFo, hlk, hR, hstk, hrt, hnL⟩ := hX
  intro out ho H locs ls hW hF hS hl
  exact lv_aload hx hb hd (lv_at hl q hq) (k out ho H locs ls hW hF hS hl)
theorem z_istore_n (hX : okX X cc own R0 rt nL) (lv' : List (Nat × Value)) {f : Fin 4} {i : Nat} {x : Int32} (hi : (f : Nat) = i) (hn : i < nL) (hl2 : (i, Value.int x) :: lv.filter (fun q => !(q.1 == i) && !(q.1 + 1 == i && q.2.category == 2)) = lv') (hd : decode cc pc = .ok (.istore_n f, 1)) (k : Zj X Qo C S (pc + 1) lv' (st) M t) : Zj X Qo C S pc lv (Value.int x :: st) M t := by
  obtain ⟨p, l, e, R, s, m, args, below, meth, c, G, n9⟩ := X
  obtain ⟨hx, hb, hml, hown, hts, hFo, hlk, hR, hstk, hrt, hnL⟩ := hX
  intro out ho H locs ls hW hF hS hl
  exact lv_istore_n hx hb hd hi hl (by rw [hnL]; exact hn) hl2 (fun ls hl => k out ho H locs ls hW hF hS hl)
theorem z_istore (hX : okX X cc own R0 rt nL) (lv' : List (Nat × Value)) {i : Nat} {x : Int32} (hn : i < nL) (hl2 : (i, Value.int x) :: lv.filter (fun q => !(q.1 == i) && !(q.1 + 1 == i && q.2.category == 2)) = lv') (hd : decode cc pc = .ok (.istore i, 2)) (k : Zj X Qo C S (pc + 2) lv' (st) M t) : Zj X Qo C S pc lv (Value.int x :: st) M t := by
  obtain ⟨p, l, e, R, s, m, args, below, meth, c, G, n9⟩ := X
  obtain ⟨hx, hb, hml, hown, hts, hFo, hlk, hR, hstk, hrt, hnL⟩ := hX
  intro out ho H locs ls hW hF hS hl
  exact lv_istore hx hb hd hl (by rw [hnL]; exact hn) hl2 (fun ls hl => k out ho H locs ls hW hF hS hl)
theorem z_lstore_n (hX : okX X cc own R0 rt nL) (lv' : List (Nat × Value)) {f : Fin 4} {i : Nat} {x : Int64} (hi : (f : Nat) = i) (hn : i + 1 < nL) (hl2 : (i, Value.long x) :: lv.filter (fun q => !(q.1 == i) && (!(q.1 == i + 1) && !(q.1 + 1 == i && q.2.category == 2))) = lv') (hd : decode cc pc = .ok (.lstore_n f, 1)) (k : Zj X Qo C S (pc + 1) lv' (st) M t) : Zj X Qo C S pc lv (Value.long x :: st) M t := by
  obtain ⟨p, l, e, R, s, m, args, below, meth, c, G, n9⟩ := X
  obtain ⟨hx, hb, hml, hown, hts, hFo, hlk, hR, hstk, hrt, hnL⟩ := hX
  intro out ho H locs ls hW hF hS hl
  exact lv_lstore_n hx hb hd hi hl (by rw [hnL]; exact hn) hl2 (fun ls hl => k out ho H locs ls hW hF hS hl)
theorem z_lstore (hX : okX X cc own R0 rt nL) (lv' : List (Nat × Value)) {i : Nat} {x : Int64} (hn : i + 1 < nL) (hl2 : (i, Value.long x) :: lv.filter (fun q => !(q.1 == i) && (!(q.1 == i + 1) && !(q.1 + 1 == i && q.2.category == 2))) = lv') (hd : decode cc pc = .ok (.lstore i, 2)) (k : Zj X Qo C S (pc + 2) lv' (st) M t) : Zj X Qo C S pc lv (Value.long x :: st) M t := by
  obtain ⟨p, l, e, R, s, m, args, below, meth, c, G, n9⟩ := X
  obtain ⟨hx, hb, hml, hown, hts, hFo, hlk, hR, hstk, hrt, hnL⟩ := hX
  intro out ho H locs ls hW hF hS hl
  exact lv_lstore hx hb hd hl (by rw [hnL]; exact hn) hl2 (fun ls hl => k out ho H locs ls hW hF hS hl)
theorem z_astore_n (hX : okX X cc own R0 rt nL) (lv' : List (Nat × Value)) {f : Fin 4} {i : Nat} {x : Nat} (hi : (f : Nat) = i) (hn : i < nL) (hl2 : (i, Value.ref x) :: lv.filter (fun q => !(q.1 == i) && !(q.1 + 1 == i && q.2.category == 2)) = lv') (hd : decode cc pc = .ok (.astore_n f, 1)) (k : Zj X Qo C S (pc + 1) lv' (st) M t) : Zj X Qo C S pc lv (Value.ref x :: st) M t := by
  obtain ⟨p, l, e, R, s, m, args, below, meth, c, G, n9⟩ := X
  obtain ⟨hx, hb, hml, hown, hts, hFo, hlk, hR, hstk, hrt, hnL⟩ := hX
  intro out ho H locs ls hW hF hS hl
  exact lv_astore_n hx hb hd hi hl (by rw [hnL]; exact hn) hl2 (fun ls hl => k out ho H locs ls hW hF hS hl)
theorem z_astore (hX : okX X cc own R0 rt nL) (lv' : List (Nat × Value)) {i : Nat} {x : Nat} (hn : i < nL) (hl2 : (i, Value.ref x) :: lv.filter (fun q => !(q.1 == i) && !(q.1 + 1 == i && q.2.category == 2)) = lv') (hd : decode cc pc = .ok (.astore i, 2)) (k : Zj X Qo C S (pc + 2) lv' (st) M t) : Zj X Qo C S pc lv (Value.ref x :: st) M t := by
  obtain ⟨p, l, e, R, s, m, args, below, meth, c, G, n9⟩ := X
  obtain ⟨hx, hb, hml, hown, hts, hFo, hlk, hR, hstk, hrt, hnL⟩ := hX
  intro out ho H locs ls hW hF hS hl
  exact lv_astore hx hb hd hl (by rw [hnL]; exact hn) hl2 (fun ls hl => k out ho H locs ls hW hF hS hl)
theorem z_iinc (hX : okX X cc own R0 rt nL) (q : Nat) (lv' : List (Nat × Value)) {i : Nat} {n : Int} {x v : Int32} (hq : lv[q]? = some (i, .int x)) (hv : x + Int32.ofInt n = v) (hn : i < nL) (hl2 : (i, Value.int v) :: lv.filter (fun q => !(q.1 == i) && !(q.1 + 1 == i && q.2.category == 2)) = lv') (hd : decode cc pc = .ok (.iinc i n, 3)) (k : Zj X Qo C S (pc + 3) lv' (st) M t) : Zj X Qo C S pc lv (st) M t := by
  obtain ⟨p, l, e, R, s, m, args, below, meth, c, G, n9⟩ := X
  obtain ⟨hx, hb, hml, hown, hts, hFo, hlk, hR, hstk, hrt, hnL⟩ := hX
  intro out ho H locs ls hW hF hS hl
  exact lv_iinc hx hb hd hl hq hv (by rw [hnL]; exact hn) hl2 (fun ls hl => k out ho H locs ls hW hF hS hl)
theorem z_iadd (hX : okX X cc own R0 rt nL) {x y : Int32} (hd : decode cc pc = .ok (.iadd, 1)) (k : Zj X Qo C S (pc + 1) lv (.int (x + y) :: st) M t) : Zj X Qo C S pc lv (.int y :: .int x :: st) M t := by
  obtain ⟨p, l, e, R, s, m, args, below, meth, c, G, n9⟩ := X
  obtain ⟨hx, hb, hml, hown, hts, hFo, hlk, hR, hstk, hrt, hnL⟩ := hX
  intro out ho H locs ls hW hF hS hl
  exact lv_iadd hx hb hd (k out ho H locs ls hW hF hS hl)
theorem z_isub (hX : okX X cc own R0 rt nL) {x y : Int32} (hd : decode cc pc = .ok (.isub, 1)) (k : Zj X Qo C S (pc + 1) lv (.int (x - y) :: st) M t) : Zj X Qo C S pc lv (.int y :: .int x :: st) M t := by
  obtain ⟨p, l, e, R, s, m, args, below, meth, c, G, n9⟩ := X
  obtain ⟨hx, hb, hml, hown, hts, hFo, hlk, hR, hstk, hrt, hnL⟩ := hX
  intro out ho H locs ls hW hF hS hl
  exact lv_isub hx hb hd (k out ho H locs ls hW hF hS hl)
theorem z_imul (hX : okX X cc own R0 rt nL) {x y : Int32} (hd : decode cc pc = .ok (.imul, 1)) (k : Zj X Qo C S (pc + 1) lv (.int (x * y) :: st) M t) : Zj X Qo C S pc lv (.int y :: .int x :: st) M t := by
  obtain ⟨p, l, e, R, s, m, args, below, meth, c, G, n9⟩ := X
  obtain ⟨hx, hb, hml, hown, hts, hFo, hlk, hR, hstk, hrt, hnL⟩ := hX
  intro out ho H locs ls hW hF hS hl
  exact lv_imul hx hb hd (k out ho H locs ls hW hF hS hl)
theorem z_iand (hX : okX X cc own R0 rt nL) {x y : Int32} (hd : decode cc pc = .ok (.iand, 1)) (k : Zj X Qo C S (pc + 1) lv (.int (x &&& y) :: st) M t) : Zj X Qo C S pc lv (.int y :: .int x :: st) M t := by
  obtain ⟨p, l, e, R, s, m, args, below, meth, c, G, n9⟩ := X
  obtain ⟨hx, hb, hml, hown, hts, hFo, hlk, hR, hstk, hrt, hnL⟩ := hX
  intro out ho H locs ls hW hF hS hl
  exact lv_iand hx hb hd (k out ho H locs ls hW hF hS hl)
theorem z_ior (hX : okX X cc own R0 rt nL) {x y : Int32} (hd : decode cc pc = .ok (.ior, 1)) (k : Zj X Qo C S (pc + 1) lv (.int (x ||| y) :: st) M t) : Zj X Qo C S pc lv (.int y :: .int x :: st) M t := by
  obtain ⟨p, l, e, R, s, m, args, below, meth, c, G, n9⟩ := X
  obtain ⟨hx, hb, hml, hown, hts, hFo, hlk, hR, hstk, hrt, hnL⟩ := hX
  intro out ho H locs ls hW hF hS hl
  exact lv_ior hx hb hd (k out ho H locs ls hW hF hS hl)
theorem z_ixor (hX : okX X cc own R0 rt nL) {x y : Int32} (hd : decode cc pc = .ok (.ixor, 1)) (k : Zj X Qo C S (pc + 1) lv (.int (x ^^^ y) :: st) M t) : Zj X Qo C S pc lv (.int y :: .int x :: st) M t := by
  obtain ⟨p, l, e, R, s, m, args, below, meth, c, G, n9⟩ := X
  obtain ⟨hx, hb, hml, hown, hts, hFo, hlk, hR, hstk, hrt, hnL⟩ := hX
  intro out ho H locs ls hW hF hS hl
  exact lv_ixor hx hb hd (k out ho H locs ls hW hF hS hl)
theorem z_ishl (hX : okX X cc own R0 rt nL) {x y : Int32} (hd : decode cc pc = .ok (.ishl, 1)) (k : Zj X Qo C S (pc + 1) lv (.int (x <<< (y &&& 31)) :: st) M t) : Zj X Qo C S pc lv (.int y :: .int x :: st) M t := by
  obtain ⟨p, l, e, R, s, m, args, below, meth, c, G, n9⟩ := X
  obtain ⟨hx, hb, hml, hown, hts, hFo, hlk, hR, hstk, hrt, hnL⟩ := hX
  intro out ho H locs ls hW hF hS hl
  exact lv_ishl hx hb hd (k out ho H locs ls hW hF hS hl)
theorem z_ishr (hX : okX X cc own R0 rt nL) {x y : Int32} (hd : decode cc pc = .ok (.ishr, 1)) (k : Zj X Qo C S (pc + 1) lv (.int (x >>> (y &&& 31)) :: st) M t) : Zj X Qo C S pc lv (.int y :: .int x :: st) M t := by
  obtain ⟨p, l, e, R, s, m, args, below, meth, c, G, n9⟩ := X
  obtain ⟨hx, hb, hml, hown, hts, hFo, hlk, hR, hstk, hrt, hnL⟩ := hX
  intro out ho H locs ls hW hF hS hl
  exact lv_ishr hx hb hd (k out ho H locs ls hW hF hS hl)
theorem z_iushr (hX : okX X cc own R0 rt nL) {x y v : Int32} (hv : (x.toUInt32 >>> (y.toUInt32 &&& Int32.toUInt32 31)).toInt32 = v) (hd : decode cc pc = .ok (.iushr, 1)) (k : Zj X Qo C S (pc + 1) lv (.int v :: st) M t) : Zj X Qo C S pc lv (.int y :: .int x :: st) M t := by
  obtain ⟨p, l, e, R, s, m, args, below, meth, c, G, n9⟩ := X
  obtain ⟨hx, hb, hml, hown, hts, hFo, hlk, hR, hstk, hrt, hnL⟩ := hX
  intro out ho H locs ls hW hF hS hl
  exact lv_iushr hx hb hd hv (k out ho H locs ls hW hF hS hl)
theorem z_ineg (hX : okX X cc own R0 rt nL) {x : Int32} (hd : decode cc pc = .ok (.ineg, 1)) (k : Zj X Qo C S (pc + 1) lv (.int (-x) :: st) M t) : Zj X Qo C S pc lv (.int x :: st) M t := by
  obtain ⟨p, l, e, R, s, m, args, below, meth, c, G, n9⟩ := X
  obtain ⟨hx, hb, hml, hown, hts, hFo, hlk, hR, hstk, hrt, hnL⟩ := hX
  intro out ho H locs ls hW hF hS hl
  exact lv_ineg hx hb hd (k out ho H locs ls hW hF hS hl)
theorem z_ladd (hX : okX X cc own R0 rt nL) {x y : Int64} (hd : decode cc pc = .ok (.ladd, 1)) (k : Zj X Qo C S (pc + 1) lv (.long (x + y) :: st) M t) : Zj X Qo C S pc lv (.long y :: .long x :: st) M t := by
  obtain ⟨p, l, e, R, s, m, args, below, meth, c, G, n9⟩ := X
  obtain ⟨hx, hb, hml, hown, hts, hFo, hlk, hR, hstk, hrt, hnL⟩ := hX
  intro out ho H locs ls hW hF hS hl
  exact lv_ladd hx hb hd (k out ho H locs ls hW hF hS hl)
theorem z_lsub (hX : okX X cc own R0 rt nL) {x y : Int64} (hd : decode cc pc = .ok (.lsub, 1)) (k : Zj X Qo C S (pc + 1) lv (.long (x - y) :: st) M t) : Zj X Qo C S pc lv (.long y :: .long x :: st) M t := by
  obtain ⟨p, l, e, R, s, m, args, below, meth, c, G, n9⟩ := X
  obtain ⟨hx, hb, hml, hown, hts, hFo, hlk, hR, hstk, hrt, hnL⟩ := hX
  intro out ho H locs ls hW hF hS hl
  exact lv_lsub hx hb hd (k out ho H locs ls hW hF hS hl)
theorem z_lmul (hX : okX X cc own R0 rt nL) {x y : Int64} (hd : decode cc pc = .ok (.lmul, 1)) (k : Zj X Qo C S (pc + 1) lv (.long (x * y) :: st) M t) : Zj X Qo C S pc lv (.long y :: .long x :: st) M t := by
  obtain ⟨p, l, e, R, s, m, args, below, meth, c, G, n9⟩ := X
  obtain ⟨hx, hb, hml, hown, hts, hFo, hlk, hR, hstk, hrt, hnL⟩ := hX
  intro out ho H locs ls hW hF hS hl
  exact lv_lmul hx hb hd (k out ho H locs ls hW hF hS hl)
theorem z_land (hX : okX X cc own R0 rt nL) {x y : Int64} (hd : decode cc pc = .ok (.land, 1)) (k : Zj X Qo C S (pc + 1) lv (.long (x &&& y) :: st) M t) : Zj X Qo C S pc lv (.long y :: .long x :: st) M t := by
  obtain ⟨p, l, e, R, s, m, args, below, meth, c, G, n9⟩ := X
  obtain ⟨hx, hb, hml, hown, hts, hFo, hlk, hR, hstk, hrt, hnL⟩ := hX
  intro out ho H locs ls hW hF hS hl
  exact lv_land hx hb hd (k out ho H locs ls hW hF hS hl)
theorem z_lor (hX : okX X cc own R0 rt nL) {x y : Int64} (hd : decode cc pc = .ok (.lor, 1)) (k : Zj X Qo C S (pc + 1) lv (.long (x ||| y) :: st) M t) : Zj X Qo C S pc lv (.long y :: .long x :: st) M t := by
  obtain ⟨p, l, e, R, s, m, args, below, meth, c, G, n9⟩ := X
  obtain ⟨hx, hb, hml, hown, hts, hFo, hlk, hR, hstk, hrt, hnL⟩ := hX
  intro out ho H locs ls hW hF hS hl
  exact lv_lor hx hb hd (k out ho H locs ls hW hF hS hl)
theorem z_lshl (hX : okX X cc own R0 rt nL) {x v : Int64} {y : Int32} (hv : x <<< (y.toInt64 &&& 63) = v) (hd : decode cc pc = .ok (.lshl, 1)) (k : Zj X Qo C S (pc + 1) lv (.long v :: st) M t) : Zj X Qo C S pc lv (.int y :: .long x :: st) M t := by
  obtain ⟨p, l, e, R, s, m, args, below, meth, c, G, n9⟩ := X
  obtain ⟨hx, hb, hml, hown, hts, hFo, hlk, hR, hstk, hrt, hnL⟩ := hX
  intro out ho H locs ls hW hF hS hl
  exact lv_lshl hx hb hd hv (k out ho H locs ls hW hF hS hl)
theorem z_lcmp (hX : okX X cc own R0 rt nL) {x y : Int64} (hd : decode cc pc = .ok (.lcmp, 1)) (k : Zj X Qo C S (pc + 1) lv (.int (lg_cmp x y) :: st) M t) : Zj X Qo C S pc lv (.long y :: .long x :: st) M t := by
  obtain ⟨p, l, e, R, s, m, args, below, meth, c, G, n9⟩ := X
  obtain ⟨hx, hb, hml, hown, hts, hFo, hlk, hR, hstk, hrt, hnL⟩ := hX
  intro out ho H locs ls hW hF hS hl
  exact W.lcmp hx hb hd (k out ho H locs ls hW hF hS hl)
theorem z_i2l (hX : okX X cc own R0 rt nL) {x : Int32} {v : Int64} (hv : x.toInt64 = v) (hd : decode cc pc = .ok (.i2l, 1)) (k : Zj X Qo C S (pc + 1) lv (.long v :: st) M t) : Zj X Qo C S pc lv (.int x :: st) M t := by
  obtain ⟨p, l, e, R, s, m, args, below, meth, c, G, n9⟩ := X
  obtain ⟨hx, hb, hml, hown, hts, hFo, hlk, hR, hstk, hrt, hnL⟩ := hX
  intro out ho H locs ls hW hF hS hl
  exact lv_i2l hx hb hd hv (k out ho H locs ls hW hF hS hl)
theorem z_l2i (hX : okX X cc own R0 rt nL) {x : Int64} {v : Int32} (hv : x.toInt32 = v) (hd : decode cc pc = .ok (.l2i, 1)) (k : Zj X Qo C S (pc + 1) lv (.int v :: st) M t) : Zj X Qo C S pc lv (.long x :: st) M t := by
  obtain ⟨p, l, e, R, s, m, args, below, meth, c, G, n9⟩ := X
  obtain ⟨hx, hb, hml, hown, hts, hFo, hlk, hR, hstk, hrt, hnL⟩ := hX
  intro out ho H locs ls hW hF hS hl
  exact lv_l2i hx hb hd hv (k out ho H locs ls hW hF hS hl)
theorem z_i2b (hX : okX X cc own R0 rt nL) {x : Int32} {v : Int32} (hv : x.toInt8.toInt32 = v) (hd : decode cc pc = .ok (.i2b, 1)) (k : Zj X Qo C S (pc + 1) lv (.int v :: st) M t) : Zj X Qo C S pc lv (.int x :: st) M t := by
  obtain ⟨p, l, e, R, s, m, args, below, meth, c, G, n9⟩ := X
  obtain ⟨hx, hb, hml, hown, hts, hFo, hlk, hR, hstk, hrt, hnL⟩ := hX
  intro out ho H locs ls hW hF hS hl
  exact lv_i2b hx hb hd hv (k out ho H locs ls hW hF hS hl)
theorem z_dup (hX : okX X cc own R0 rt nL) {v : Value} (hv : v.category = 1) (hd : decode cc pc = .ok (.dup, 1)) (k : Zj X Qo C S (pc + 1) lv (v :: v :: st) M t) : Zj X Qo C S pc lv (v :: st) M t := by
  obtain ⟨p, l, e, R, s, m, args, below, meth, c, G, n9⟩ := X
  obtain ⟨hx, hb, hml, hown, hts, hFo, hlk, hR, hstk, hrt, hnL⟩ := hX
  intro out ho H locs ls hW hF hS hl
  exact lv_dup hx hb hd hv (k out ho H locs ls hW hF hS hl)
theorem z_pop (hX : okX X cc own R0 rt nL) {v : Value} (hv : v.category = 1) (hd : decode cc pc = .ok (.pop, 1)) (k : Zj X Qo C S (pc + 1) lv (st) M t) : Zj X Qo C S pc lv (v :: st) M t := by
  obtain ⟨p, l, e, R, s, m, args, below, meth, c, G, n9⟩ := X
  obtain ⟨hx, hb, hml, hown, hts, hFo, hlk, hR, hstk, hrt, hnL⟩ := hX
  intro out ho H locs ls hW hF hS hl
  exact lv_pop hx hb hd hv (k out ho H locs ls hW hF hS hl)
theorem z_dup2 (hX : okX X cc own R0 rt nL) {v w : Value} (hv : v.category = 1) (hw : w.category = 1) (hd : decode cc pc = .ok (.dup2, 1)) (k : Zj X Qo C S (pc + 1) lv (v :: w :: v :: w :: st) M t) : Zj X Qo C S pc lv (v :: w :: st) M t := by
  obtain ⟨p, l, e, R, s, m, args, below, meth, c, G, n9⟩ := X
  obtain ⟨hx, hb, hml, hown, hts, hFo, hlk, hR, hstk, hrt, hnL⟩ := hX
  intro out ho H locs ls hW hF hS hl
  exact lv_dup2_11 hx hb hd hv hw (k out ho H locs ls hW hF hS hl)
theorem z_goto (hX : okX X cc own R0 rt nL) {off : Int} (tgt : Nat) (ht : (pc : Int) + off = (tgt : Int)) (hd : decode cc pc = .ok (.goto off, 3)) (k : Zj X Qo C S tgt lv st M t) : Zj X Qo C S pc lv st M t := by
  obtain ⟨p, l, e, R, s, m, args, below, meth, c, G, n9⟩ := X
  obtain ⟨hx, hb, hml, hown, hts, hFo, hlk, hR, hstk, hrt, hnL⟩ := hX
  intro out ho H locs ls hW hF hS hl
  exact lv_goto hx hb hd ht (k out ho H locs ls hW hF hS hl)
theorem z_if_eq (hX : okX X cc own R0 rt nL) {off : Int} (tgt : Nat) {x : Int32} {t1 t2 : Option ρ} (ht : (pc : Int) + off = (tgt : Int)) (hd : decode cc pc = .ok (.ifCond .eq off, 3)) (kt : x = 0 → Zj X Qo C S tgt lv st M t1) (kf : ¬ x = 0 → Zj X Qo C S (pc + 3) lv st M t2) : Zj X Qo C S pc lv (.int x :: st) M (if x = 0 then t1 else t2) := by
  obtain ⟨p, l, e, R, s, m, args, below, meth, c, G, n9⟩ := X
  obtain ⟨hx, hb, hml, hown, hts, hFo, hlk, hR, hstk, hrt, hnL⟩ := hX
  intro out ho H locs ls hW hF hS hl
  exact lv_if_eq hx hb hd ht (fun hc => kt hc out (by rw [if_pos hc] at ho; exact ho) H locs ls hW hF hS hl) (fun hc => kf hc out (by rw [if_neg hc] at ho; exact ho) H locs ls hW hF hS hl)
theorem z_if_ne (hX : okX X cc own R0 rt nL) {off : Int} (tgt : Nat) {x : Int32} {t1 t2 : Option ρ} (ht : (pc : Int) + off = (tgt : Int)) (hd : decode cc pc = .ok (.ifCond .ne off, 3)) (kt : ¬ x = 0 → Zj X Qo C S tgt lv st M t2) (kf : x = 0 → Zj X Qo C S (pc + 3) lv st M t1) : Zj X Qo C S pc lv (.int x :: st) M (if x = 0 then t1 else t2) := by
  obtain ⟨p, l, e, R, s, m, args, below, meth, c, G, n9⟩ := X
  obtain ⟨hx, hb, hml, hown, hts, hFo, hlk, hR, hstk, hrt, hnL⟩ := hX
  intro out ho H locs ls hW hF hS hl
  exact lv_if_ne hx hb hd ht (fun hc => kt hc out (by rw [if_neg hc] at ho; exact ho) H locs ls hW hF hS hl) (fun hc => kf hc out (by rw [if_pos hc] at ho; exact ho) H locs ls hW hF hS hl)
theorem z_if_lt (hX : okX X cc own R0 rt nL) {off : Int} (tgt : Nat) {x : Int32} {t1 t2 : Option ρ} (ht : (pc : Int) + off = (tgt : Int)) (hd : decode cc pc = .ok (.ifCond .lt off, 3)) (kt : x < 0 → Zj X Qo C S tgt lv st M t1) (kf : ¬ x < 0 → Zj X Qo C S (pc + 3) lv st M t2) : Zj X Qo C S pc lv (.int x :: st) M (if x < 0 then t1 else t2) := by
  obtain ⟨p, l, e, R, s, m, args, below, meth, c, G, n9⟩ := X
  obtain ⟨hx, hb, hml, hown, hts, hFo, hlk, hR, hstk, hrt, hnL⟩ := hX
  intro out ho H locs ls hW hF hS hl
  exact lv_if_lt hx hb hd ht (fun hc => kt hc out (by rw [if_pos hc] at ho; exact ho) H locs ls hW hF hS hl) (fun hc => kf hc out (by rw [if_neg hc] at ho; exact ho) H locs ls hW hF hS hl)
theorem z_if_ge (hX : okX X cc own R0 rt nL) {off : Int} (tgt : Nat) {x : Int32} {t1 t2 : Option ρ} (ht : (pc : Int) + off = (tgt : Int)) (hd : decode cc pc = .ok (.ifCond .ge off, 3)) (kt : 0 ≤ x → Zj X Qo C S tgt lv st M t1) (kf : ¬ 0 ≤ x → Zj X Qo C S (pc + 3) lv st M t2) : Zj X Qo C S pc lv (.int x :: st) M (if 0 ≤ x then t1 else t2) := by
  obtain ⟨p, l, e, R, s, m, args, below, meth, c, G, n9⟩ := X
  obtain ⟨hx, hb, hml, hown, hts, hFo, hlk, hR, hstk, hrt, hnL⟩ := hX
  intro out ho H locs ls hW hF hS hl
  exact lv_if_ge hx hb hd ht (fun hc => kt hc out (by rw [if_pos hc] at ho; exact ho) H locs ls hW hF hS hl) (fun hc => kf hc out (by rw [if_neg hc] at ho; exact ho) H locs ls hW hF hS hl)
theorem z_if_gt (hX : okX X cc own R0 rt nL) {off : Int} (tgt : Nat) {x : Int32} {t1 t2 : Option ρ} (ht : (pc : Int) + off = (tgt : Int)) (hd : decode cc pc = .ok (.ifCond .gt off, 3)) (kt : 0 < x → Zj X Qo C S tgt lv st M t1) (kf : ¬ 0 < x → Zj X Qo C S (pc + 3) lv st M t2) : Zj X Qo C S pc lv (.int x :: st) M (if 0 < x then t1 else t2) := by
  obtain ⟨p, l, e, R, s, m, args, below, meth, c, G, n9⟩ := X
  obtain ⟨hx, hb, hml, hown, hts, hFo, hlk, hR, hstk, hrt, hnL⟩ := hX
  intro out ho H locs ls hW hF hS hl
  exact lv_if_gt hx hb hd ht (fun hc => kt hc out (by rw [if_pos hc] at ho; exact ho) H locs ls hW hF hS hl) (fun hc => kf hc out (by rw [if_neg hc] at ho; exact ho) H locs ls hW hF hS hl)
theorem z_if_le (hX : okX X cc own R0 rt nL) {off : Int} (tgt : Nat) {x : Int32} {t1 t2 : Option ρ} (ht : (pc : Int) + off = (tgt : Int)) (hd : decode cc pc = .ok (.ifCond .le off, 3)) (kt : x ≤ 0 → Zj X Qo C S tgt lv st M t1) (kf : ¬ x ≤ 0 → Zj X Qo C S (pc + 3) lv st M t2) : Zj X Qo C S pc lv (.int x :: st) M (if x ≤ 0 then t1 else t2) := by
  obtain ⟨p, l, e, R, s, m, args, below, meth, c, G, n9⟩ := X
  obtain ⟨hx, hb, hml, hown, hts, hFo, hlk, hR, hstk, hrt, hnL⟩ := hX
  intro out ho H locs ls hW hF hS hl
  exact lv_if_le hx hb hd ht (fun hc => kt hc out (by rw [if_pos hc] at ho; exact ho) H locs ls hW hF hS hl) (fun hc => kf hc out (by rw [if_neg hc] at ho; exact ho) H locs ls hW hF hS hl)
theorem z_icmp_eq (hX : okX X cc own R0 rt nL) {off : Int} (tgt : Nat) {x y : Int32} {t1 t2 : Option ρ} (ht : (pc : Int) + off = (tgt : Int)) (hd : decode cc pc = .ok (.if_icmp .eq off, 3)) (kt : x = y → Zj X Qo C S tgt lv st M t1) (kf : ¬ x = y → Zj X Qo C S (pc + 3) lv st M t2) : Zj X Qo C S pc lv (.int y :: .int x :: st) M (if x = y then t1 else t2) := by
  obtain ⟨p, l, e, R, s, m, args, below, meth, c, G, n9⟩ := X
  obtain ⟨hx, hb, hml, hown, hts, hFo, hlk, hR, hstk, hrt, hnL⟩ := hX
  intro out ho H locs ls hW hF hS hl
  exact lv_icmp_eq hx hb hd ht (fun hc => kt hc out (by rw [if_pos hc] at ho; exact ho) H locs ls hW hF hS hl) (fun hc => kf hc out (by rw [if_neg hc] at ho; exact ho) H locs ls hW hF hS hl)
theorem z_icmp_ne (hX : okX X cc own R0 rt nL) {off : Int} (tgt : Nat) {x y : Int32} {t1 t2 : Option ρ} (ht : (pc : Int) + off = (tgt : Int)) (hd : decode cc pc = .ok (.if_icmp .ne off, 3)) (kt : ¬ x = y → Zj X Qo C S tgt lv st M t2) (kf : x = y → Zj X Qo C S (pc + 3) lv st M t1) : Zj X Qo C S pc lv (.int y :: .int x :: st) M (if x = y then t1 else t2) := by
  obtain ⟨p, l, e, R, s, m, args, below, meth, c, G, n9⟩ := X
  obtain ⟨hx, hb, hml, hown, hts, hFo, hlk, hR, hstk, hrt, hnL⟩ := hX
  intro out ho H locs ls hW hF hS hl
  exact lv_icmp_ne hx hb hd ht (fun hc => kt hc out (by rw [if_neg hc] at ho; exact ho) H locs ls hW hF hS hl) (fun hc => kf hc out (by rw [if_pos hc] at ho; exact ho) H locs ls hW hF hS hl)
theorem z_icmp_lt (hX : okX X cc own R0 rt nL) {off : Int} (tgt : Nat) {x y : Int32} {t1 t2 : Option ρ} (ht : (pc : Int) + off = (tgt : Int)) (hd : decode cc pc = .ok (.if_icmp .lt off, 3)) (kt : x < y → Zj X Qo C S tgt lv st M t1) (kf : ¬ x < y → Zj X Qo C S (pc + 3) lv st M t2) : Zj X Qo C S pc lv (.int y :: .int x :: st) M (if x < y then t1 else t2) := by
  obtain ⟨p, l, e, R, s, m, args, below, meth, c, G, n9⟩ := X
  obtain ⟨hx, hb, hml, hown, hts, hFo, hlk, hR, hstk, hrt, hnL⟩ := hX
  intro out ho H locs ls hW hF hS hl
  exact lv_icmp_lt hx hb hd ht (fun hc => kt hc out (by rw [if_pos hc] at ho; exact ho) H locs ls hW hF hS hl) (fun hc => kf hc out (by rw [if_neg hc] at ho; exact ho) H locs ls hW hF hS hl)
theorem z_icmp_ge (hX : okX X cc own R0 rt nL) {off : Int} (tgt : Nat) {x y : Int32} {t1 t2 : Option ρ} (ht : (pc : Int) + off = (tgt : Int)) (hd : decode cc pc = .ok (.if_icmp .ge off, 3)) (kt : y ≤ x → Zj X Qo C S tgt lv st M t1) (kf : ¬ y ≤ x → Zj X Qo C S (pc + 3) lv st M t2) : Zj X Qo C S pc lv (.int y :: .int x :: st) M (if y ≤ x then t1 else t2) := by
  obtain ⟨p, l, e, R, s, m, args, below, meth, c, G, n9⟩ := X
  obtain ⟨hx, hb, hml, hown, hts, hFo, hlk, hR, hstk, hrt, hnL⟩ := hX
  intro out ho H locs ls hW hF hS hl
  exact lv_icmp_ge hx hb hd ht (fun hc => kt hc out (by rw [if_pos hc] at ho; exact ho) H locs ls hW hF hS hl) (fun hc => kf hc out (by rw [if_neg hc] at ho; exact ho) H locs ls hW hF hS hl)
theorem z_icmp_gt (hX : okX X cc own R0 rt nL) {off : Int} (tgt : Nat) {x y : Int32} {t1 t2 : Option ρ} (ht : (pc : Int) + off = (tgt : Int)) (hd : decode cc pc = .ok (.if_icmp .gt off, 3)) (kt : y < x → Zj X Qo C S tgt lv st M t1) (kf : ¬ y < x → Zj X Qo C S (pc + 3) lv st M t2) : Zj X Qo C S pc lv (.int y :: .int x :: st) M (if y < x then t1 else t2) := by
  obtain ⟨p, l, e, R, s, m, args, below, meth, c, G, n9⟩ := X
  obtain ⟨hx, hb, hml, hown, hts, hFo, hlk, hR, hstk, hrt, hnL⟩ := hX
  intro out ho H locs ls hW hF hS hl
  exact lv_icmp_gt hx hb hd ht (fun hc => kt hc out (by rw [if_pos hc] at ho; exact ho) H locs ls hW hF hS hl) (fun hc => kf hc out (by rw [if_neg hc] at ho; exact ho) H locs ls hW hF hS hl)
theorem z_icmp_le (hX : okX X cc own R0 rt nL) {off : Int} (tgt : Nat) {x y : Int32} {t1 t2 : Option ρ} (ht : (pc : Int) + off = (tgt : Int)) (hd : decode cc pc = .ok (.if_icmp .le off, 3)) (kt : x ≤ y → Zj X Qo C S tgt lv st M t1) (kf : ¬ x ≤ y → Zj X Qo C S (pc + 3) lv st M t2) : Zj X Qo C S pc lv (.int y :: .int x :: st) M (if x ≤ y then t1 else t2) := by
  obtain ⟨p, l, e, R, s, m, args, below, meth, c, G, n9⟩ := X
  obtain ⟨hx, hb, hml, hown, hts, hFo, hlk, hR, hstk, hrt, hnL⟩ := hX
  intro out ho H locs ls hW hF hS hl
  exact lv_icmp_le hx hb hd ht (fun hc => kt hc out (by rw [if_pos hc] at ho; exact ho) H locs ls hW hF hS hl) (fun hc => kf hc out (by rw [if_neg hc] at ho; exact ho) H locs ls hW hF hS hl)
theorem z_idiv (hX : okX X cc own R0 rt nL) {x y : Int32} {f : Int32 → Option ρ} (hd : decode cc pc = .ok (.idiv, 1)) (k : ∀ z, Zj X Qo C S (pc + 1) lv (.int z :: st) M (f z)) : Zj X Qo C S pc lv (.int y :: .int x :: st) M (dv_ x y >>= f) := by
  unfold dv_
  by_cases hy : y = 0
  · rw [if_pos hy]; exact fun _ h => by cases h
  · rw [if_neg hy]
    obtain ⟨p, l, e, R, s, m, args, below, meth, c, G, n9⟩ := X
    obtain ⟨hx, hb, hml, hown, hts, hFo, hlk, hR, hstk, hrt, hnL⟩ := hX
    intro out ho H locs ls hW hF hS hl
    exact lv_idiv hx hb hd hy (k _ out ho H locs ls hW hF hS hl)
/-! the term alone -/
theorem z_none {lv : List (Nat × Value)} : Zj X Qo C S pc lv st M (none : Option ρ) := fun _ h => by cases h
theorem z_sub (ks : List Nat) {lv' : List (Nat × Value)} (hp : lv_pick lv ks = lv') (k : Zj X Qo C S pc lv' st M t) : Zj X Qo C S pc lv st M t := by
  obtain ⟨p, l, e, R, s, m, args, below, meth, c, G, n9⟩ := X
  intro out ho H locs ls hW hF hS hl
  exact k out ho H locs ls hW hF hS (lv_sub hl ks hp)
theorem z_widen {C' S' : Nat} (h1 : C ≤ C') (h2 : S ≤ S') (k : Zj X Qo C' S' pc lv st M t) : Zj X Qo C S pc lv st M t := by
  obtain ⟨p, l, e, R, s, m, args, below, meth, c, G, n9⟩ := X
  intro out ho H locs ls hW hF hS hl
  exact W.widen h1 h2 (k out ho H locs ls hW hF hS hl)
theorem z_ltI {e : Int32} {g : Int32 → Option ρ} (k : ∀ y : Int32, Zj X Qo C S pc lv (.int y :: st) M (g y)) : Zj X Qo C S pc lv (.int e :: st) M (lt_ e g) := k e
theorem z_ltL {e : Int64} {g : Int64 → Option ρ} (k : ∀ y : Int64, Zj X Qo C S pc lv (.long y :: st) M (g y)) : Zj X Qo C S pc lv (.long e :: st) M (lt_ e g) := k e
/-- a bound part: its own end, then what follows -/
theorem z_pure {α : Type} {x : α} {g : α → Option ρ} (k : Zj X Qo C S pc lv st M (g x)) : Zj X Qo C S pc lv st M ((some x) >>= g) := k
theorem z_asc {α β : Type} {a : Option α} {f : α → Option β} {g : β → Option ρ} (k : Zj X Qo C S pc lv st M (a >>= fun x => f x >>= g)) : Zj X Qo C S pc lv st M ((a >>= f) >>= g) := by
  intro out ho
  exact k out (by rw [← ho]; cases a <;> rfl)
theorem z_iteB {β : Type} {c : Prop} [Decidable c] {a b : Option β} {g : β → Option ρ} (k : Zj X Qo C S pc lv st M (if c then (a >>= g) else (b >>= g))) : Zj X Qo C S pc lv st M ((if c then a else b) >>= g) := by
  intro out ho
  refine k out ?_
  rw [← ho]
  by_cases hc : c
  · rw [if_pos hc, if_pos hc]
  · rw [if_neg hc, if_neg hc]
theorem z_ltB {α β : Type} {e : α} {f : α → Option β} {g : β → Option ρ} (k : Zj X Qo C S pc lv st M (lt_ e (fun x => f x >>= g))) : Zj X Qo C S pc lv st M ((lt_ e f) >>= g) := k
theorem z_noneB {β : Type} {g : β → Option ρ} : Zj X Qo C S pc lv st M ((none : Option β) >>= g) := fun _ h => by cases h
end ZR
