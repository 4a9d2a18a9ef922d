theorem e_iconst {l : Launch} {G : Gs} {own : String} {cc : ByteArray} {nL d : Nat} {E : EE} (hE : Mach l G own cc nL d E) {pc : Nat} {lv : List (Nat × Value)} {st : List Value} {M : Mm} {n : Int} {v : Int32} (hv : Int32.ofInt n = v) (hd : decode cc pc = .ok (.iconst n, 1)) (kk : E (pc + 1) lv (.int v :: st) M) : E pc lv (st) M := by
  obtain ⟨p, e, R, s, m, args, below, meth, c, cs, sz, QF, hx, hb, hml, hown, hts, hK, hSt, hR, rfl⟩ := hE
  exact fun H locs ls hP hS hl => lv_iconst hx hb hd hv (kk H locs ls hP hS hl)

theorem e_bipush {l : Launch} {G : Gs} {own : String} {cc : ByteArray} {nL d : Nat} {E : EE} (hE : Mach l G own cc nL d E) {pc : Nat} {lv : List (Nat × Value)} {st : List Value} {M : Mm} {n : Int} {v : Int32} (hv : (Int8.ofInt n).toInt32 = v) (hd : decode cc pc = .ok (.bipush n, 2)) (kk : E (pc + 2) lv (.int v :: st) M) : E pc lv (st) M := by
  obtain ⟨p, e, R, s, m, args, below, meth, c, cs, sz, QF, hx, hb, hml, hown, hts, hK, hSt, hR, rfl⟩ := hE
  exact fun H locs ls hP hS hl => lv_bipush hx hb hd hv (kk H locs ls hP hS hl)

theorem e_sipush {l : Launch} {G : Gs} {own : String} {cc : ByteArray} {nL d : Nat} {E : EE} (hE : Mach l G own cc nL d E) {pc : Nat} {lv : List (Nat × Value)} {st : List Value} {M : Mm} {n : Int} {v : Int32} (hv : (Int16.ofInt n).toInt32 = v) (hd : decode cc pc = .ok (.sipush n, 3)) (kk : E (pc + 3) lv (.int v :: st) M) : E pc lv (st) M := by
  obtain ⟨p, e, R, s, m, args, below, meth, c, cs, sz, QF, hx, hb, hml, hown, hts, hK, hSt, hR, rfl⟩ := hE
  exact fun H locs ls hP hS hl => lv_sipush hx hb hd hv (kk H locs ls hP hS hl)

theorem e_lconst {l : Launch} {G : Gs} {own : String} {cc : ByteArray} {nL d : Nat} {E : EE} (hE : Mach l G own cc nL d E) {pc : Nat} {lv : List (Nat × Value)} {st : List Value} {M : Mm} {n : Fin 2} {v : Int64} (hv : Int64.ofNat (n : Nat) = v) (hd : decode cc pc = .ok (.lconst n, 1)) (kk : E (pc + 1) lv (.long v :: st) M) : E pc lv (st) M := by
  obtain ⟨p, e, R, s, m, args, below, meth, c, cs, sz, QF, hx, hb, hml, hown, hts, hK, hSt, hR, rfl⟩ := hE
  exact fun H locs ls hP hS hl => lv_lconst hx hb hd hv (kk H locs ls hP hS hl)

theorem e_ldc2 {l : Launch} {G : Gs} {own : String} {cc : ByteArray} {nL d : Nat} {E : EE} (hE : Mach l G own cc nL d E) {pc : Nat} {lv : List (Nat × Value)} {st : List Value} {M : Mm} {ix : Nat} {v : Int64} (hw : Cond.constantLong own ix v ∈ gT) (hd : decode cc pc = .ok (.ldc2_w ix, 3)) (kk : E (pc + 3) lv (.long v :: st) M) : E pc lv (st) M := by
  obtain ⟨p, e, R, s, m, args, below, meth, c, cs, sz, QF, hx, hb, hml, hown, hts, hK, hSt, hR, rfl⟩ := hE
  exact fun H locs ls hP hS hl => lv_ldc2 hx hb hown (hts _ hw) hd (kk H locs ls hP hS hl)

theorem e_ldc {l : Launch} {G : Gs} {own : String} {cc : ByteArray} {nL d : Nat} {E : EE} (hE : Mach l G own cc nL d E) {pc : Nat} {lv : List (Nat × Value)} {st : List Value} {M : Mm} {ix : Nat} {v : Int32} (hw : Cond.constant own ix v ∈ gT) (hd : decode cc pc = .ok (.ldc ix, 2)) (kk : E (pc + 2) lv (.int v :: st) M) : E pc lv (st) M := by
  obtain ⟨p, e, R, s, m, args, below, meth, c, cs, sz, QF, hx, hb, hml, hown, hts, hK, hSt, hR, rfl⟩ := hE
  exact fun H locs ls hP hS hl => lv_ldc hx hb hown (hts _ hw) hd (kk H locs ls hP hS hl)

theorem e_ldcw {l : Launch} {G : Gs} {own : String} {cc : ByteArray} {nL d : Nat} {E : EE} (hE : Mach l G own cc nL d E) {pc : Nat} {lv : List (Nat × Value)} {st : List Value} {M : Mm} {ix : Nat} {v : Int32} (hw : Cond.constant own ix v ∈ gT) (hd : decode cc pc = .ok (.ldc_w ix, 3)) (kk : E (pc + 3) lv (.int v :: st) M) : E pc lv (st) M := by
  obtain ⟨p, e, R, s, m, args, below, meth, c, cs, sz, QF, hx, hb, hml, hown, hts, hK, hSt, hR, rfl⟩ := hE
  exact fun H locs ls hP hS hl => lv_ldcw hx hb hown (hts _ hw) hd (kk H locs ls hP hS hl)

theorem e_iload_n {l : Launch} {G : Gs} {own : String} {cc : ByteArray} {nL d : Nat} {E : EE} (hE : Mach l G own cc nL d E) {pc : Nat} {lv : List (Nat × Value)} {st : List Value} {M : Mm} {k : Fin 4} {i : Nat} {x : Int32} (hi : (k : Nat) = i) (n : Nat) (hk : lv[n]? = some (i, .int x)) (hd : decode cc pc = .ok (.iload_n k, 1)) (kk : E (pc + 1) lv (.int x :: st) M) : E pc lv (st) M := by
  obtain ⟨p, e, R, s, m, args, below, meth, c, cs, sz, QF, hx, hb, hml, hown, hts, hK, hSt, hR, rfl⟩ := hE
  exact fun H locs ls hP hS hl => lv_iload_n hx hb hd hi (lv_at hl n hk) (kk H locs ls hP hS hl)

theorem e_iload {l : Launch} {G : Gs} {own : String} {cc : ByteArray} {nL d : Nat} {E : EE} (hE : Mach l G own cc nL d E) {pc : Nat} {lv : List (Nat × Value)} {st : List Value} {M : Mm} {i : Nat} {x : Int32} (n : Nat) (hk : lv[n]? = some (i, .int x)) (hd : decode cc pc = .ok (.iload i, 2)) (kk : E (pc + 2) lv (.int x :: st) M) : E pc lv (st) M := by
  obtain ⟨p, e, R, s, m, args, below, meth, c, cs, sz, QF, hx, hb, hml, hown, hts, hK, hSt, hR, rfl⟩ := hE
  exact fun H locs ls hP hS hl => lv_iload hx hb hd (lv_at hl n hk) (kk H locs ls hP hS hl)

theorem e_lload_n {l : Launch} {G : Gs} {own : String} {cc : ByteArray} {nL d : Nat} {E : EE} (hE : Mach l G own cc nL d E) {pc : Nat} {lv : List (Nat × Value)} {st : List Value} {M : Mm} {k : Fin 4} {i : Nat} {x : Int64} (hi : (k : Nat) = i) (n : Nat) (hk : lv[n]? = some (i, .long x)) (hd : decode cc pc = .ok (.lload_n k, 1)) (kk : E (pc + 1) lv (.long x :: st) M) : E pc lv (st) M := by
  obtain ⟨p, e, R, s, m, args, below, meth, c, cs, sz, QF, hx, hb, hml, hown, hts, hK, hSt, hR, rfl⟩ := hE
  exact fun H locs ls hP hS hl => lv_lload_n hx hb hd hi (lv_at hl n hk) (kk H locs ls hP hS hl)

theorem e_lload {l : Launch} {G : Gs} {own : String} {cc : ByteArray} {nL d : Nat} {E : EE} (hE : Mach l G own cc nL d E) {pc : Nat} {lv : List (Nat × Value)} {st : List Value} {M : Mm} {i : Nat} {x : Int64} (n : Nat) (hk : lv[n]? = some (i, .long x)) (hd : decode cc pc = .ok (.lload i, 2)) (kk : E (pc + 2) lv (.long x :: st) M) : E pc lv (st) M := by
  obtain ⟨p, e, R, s, m, args, below, meth, c, cs, sz, QF, hx, hb, hml, hown, hts, hK, hSt, hR, rfl⟩ := hE
  exact fun H locs ls hP hS hl => lv_lload hx hb hd (lv_at hl n hk) (kk H locs ls hP hS hl)

theorem e_aload_n {l : Launch} {G : Gs} {own : String} {cc : ByteArray} {nL d : Nat} {E : EE} (hE : Mach l G own cc nL d E) {pc : Nat} {lv : List (Nat × Value)} {st : List Value} {M : Mm} {k : Fin 4} {i : Nat} {x : Nat} (hi : (k : Nat) = i) (n : Nat) (hk : lv[n]? = some (i, .ref x)) (hd : decode cc pc = .ok (.aload_n k, 1)) (kk : E (pc + 1) lv (.ref x :: st) M) : E pc lv (st) M := by
  obtain ⟨p, e, R, s, m, args, below, meth, c, cs, sz, QF, hx, hb, hml, hown, hts, hK, hSt, hR, rfl⟩ := hE
  exact fun H locs ls hP hS hl => lv_aload_n hx hb hd hi (lv_at hl n hk) (kk H locs ls hP hS hl)

theorem e_aload {l : Launch} {G : Gs} {own : String} {cc : ByteArray} {nL d : Nat} {E : EE} (hE : Mach l G own cc nL d E) {pc : Nat} {lv : List (Nat × Value)} {st : List Value} {M : Mm} {i : Nat} {x : Nat} (n : Nat) (hk : lv[n]? = some (i, .ref x)) (hd : decode cc pc = .ok (.aload i, 2)) (kk : E (pc + 2) lv (.ref x :: st) M) : E pc lv (st) M := by
  obtain ⟨p, e, R, s, m, args, below, meth, c, cs, sz, QF, hx, hb, hml, hown, hts, hK, hSt, hR, rfl⟩ := hE
  exact fun H locs ls hP hS hl => lv_aload hx hb hd (lv_at hl n hk) (kk H locs ls hP hS hl)

theorem e_istore_n {l : Launch} {G : Gs} {own : String} {cc : ByteArray} {nL d : Nat} {E : EE} (hE : Mach l G own cc nL d E) {pc : Nat} {lv : List (Nat × Value)} {st : List Value} {M : Mm} {k : Fin 4} {i : Nat} {x : Int32} {lv' : List (Nat × Value)} (hd : decode cc pc = .ok (.istore_n k, 1)) (hi : (k : Nat) = i) (hn : i < nL) (hlv : (i, Value.int x) :: lv.filter (fun q => !(q.1 == i) && !(q.1 + 1 == i && q.2.category == 2)) = lv') (kk : E (pc + 1) lv' st M) : E pc lv (.int x :: st) M := by
  obtain ⟨p, e, R, s, m, args, below, meth, c, cs, sz, QF, hx, hb, hml, hown, hts, hK, hSt, hR, rfl⟩ := hE
  exact fun H locs ls hP hS hl => lv_istore_n hx hb hd hi hl hn hlv (fun ls' hl' => kk H locs ls' hP hS hl')

theorem e_istore {l : Launch} {G : Gs} {own : String} {cc : ByteArray} {nL d : Nat} {E : EE} (hE : Mach l G own cc nL d E) {pc : Nat} {lv : List (Nat × Value)} {st : List Value} {M : Mm} {i : Nat} {x : Int32} {lv' : List (Nat × Value)} (hd : decode cc pc = .ok (.istore i, 2)) (hn : i < nL) (hlv : (i, Value.int x) :: lv.filter (fun q => !(q.1 == i) && !(q.1 + 1 == i && q.2.category == 2)) = lv') (kk : E (pc + 2) lv' st M) : E pc lv (.int x :: st) M := by
  obtain ⟨p, e, R, s, m, args, below, meth, c, cs, sz, QF, hx, hb, hml, hown, hts, hK, hSt, hR, rfl⟩ := hE
  exact fun H locs ls hP hS hl => lv_istore hx hb hd hl hn hlv (fun ls' hl' => kk H locs ls' hP hS hl')

theorem e_astore_n {l : Launch} {G : Gs} {own : String} {cc : ByteArray} {nL d : Nat} {E : EE} (hE : Mach l G own cc nL d E) {pc : Nat} {lv : List (Nat × Value)} {st : List Value} {M : Mm} {k : Fin 4} {i : Nat} {x : Nat} {lv' : List (Nat × Value)} (hd : decode cc pc = .ok (.astore_n k, 1)) (hi : (k : Nat) = i) (hn : i < nL) (hlv : (i, Value.ref x) :: lv.filter (fun q => !(q.1 == i) && !(q.1 + 1 == i && q.2.category == 2)) = lv') (kk : E (pc + 1) lv' st M) : E pc lv (.ref x :: st) M := by
  obtain ⟨p, e, R, s, m, args, below, meth, c, cs, sz, QF, hx, hb, hml, hown, hts, hK, hSt, hR, rfl⟩ := hE
  exact fun H locs ls hP hS hl => lv_astore_n hx hb hd hi hl hn hlv (fun ls' hl' => kk H locs ls' hP hS hl')

theorem e_astore {l : Launch} {G : Gs} {own : String} {cc : ByteArray} {nL d : Nat} {E : EE} (hE : Mach l G own cc nL d E) {pc : Nat} {lv : List (Nat × Value)} {st : List Value} {M : Mm} {i : Nat} {x : Nat} {lv' : List (Nat × Value)} (hd : decode cc pc = .ok (.astore i, 2)) (hn : i < nL) (hlv : (i, Value.ref x) :: lv.filter (fun q => !(q.1 == i) && !(q.1 + 1 == i && q.2.category == 2)) = lv') (kk : E (pc + 2) lv' st M) : E pc lv (.ref x :: st) M := by
  obtain ⟨p, e, R, s, m, args, below, meth, c, cs, sz, QF, hx, hb, hml, hown, hts, hK, hSt, hR, rfl⟩ := hE
  exact fun H locs ls hP hS hl => lv_astore hx hb hd hl hn hlv (fun ls' hl' => kk H locs ls' hP hS hl')

theorem e_lstore_n {l : Launch} {G : Gs} {own : String} {cc : ByteArray} {nL d : Nat} {E : EE} (hE : Mach l G own cc nL d E) {pc : Nat} {lv : List (Nat × Value)} {st : List Value} {M : Mm} {k : Fin 4} {i : Nat} {x : Int64} {lv' : List (Nat × Value)} (hd : decode cc pc = .ok (.lstore_n k, 1)) (hi : (k : Nat) = i) (hn : i + 1 < nL) (hlv : (i, Value.long x) :: lv.filter (fun q => !(q.1 == i) && (!(q.1 == i + 1) && !(q.1 + 1 == i && q.2.category == 2))) = lv') (kk : E (pc + 1) lv' st M) : E pc lv (.long x :: st) M := by
  obtain ⟨p, e, R, s, m, args, below, meth, c, cs, sz, QF, hx, hb, hml, hown, hts, hK, hSt, hR, rfl⟩ := hE
  exact fun H locs ls hP hS hl => lv_lstore_n hx hb hd hi hl hn hlv (fun ls' hl' => kk H locs ls' hP hS hl')

theorem e_lstore {l : Launch} {G : Gs} {own : String} {cc : ByteArray} {nL d : Nat} {E : EE} (hE : Mach l G own cc nL d E) {pc : Nat} {lv : List (Nat × Value)} {st : List Value} {M : Mm} {i : Nat} {x : Int64} {lv' : List (Nat × Value)} (hd : decode cc pc = .ok (.lstore i, 2)) (hn : i + 1 < nL) (hlv : (i, Value.long x) :: lv.filter (fun q => !(q.1 == i) && (!(q.1 == i + 1) && !(q.1 + 1 == i && q.2.category == 2))) = lv') (kk : E (pc + 2) lv' st M) : E pc lv (.long x :: st) M := by
  obtain ⟨p, e, R, s, m, args, below, meth, c, cs, sz, QF, hx, hb, hml, hown, hts, hK, hSt, hR, rfl⟩ := hE
  exact fun H locs ls hP hS hl => lv_lstore hx hb hd hl hn hlv (fun ls' hl' => kk H locs ls' hP hS hl')

theorem e_iinc {l : Launch} {G : Gs} {own : String} {cc : ByteArray} {nL d : Nat} {E : EE} (hE : Mach l G own cc nL d E) {pc : Nat} {lv : List (Nat × Value)} {st : List Value} {M : Mm} {i k : Nat} {n : Int} {x v : Int32} {lv' : List (Nat × Value)} (hd : decode cc pc = .ok (.iinc i n, 3)) (hk : lv[k]? = some (i, .int x)) (hv : x + Int32.ofInt n = v) (hn : i < nL) (hlv : (i, Value.int v) :: lv.filter (fun q => !(q.1 == i) && !(q.1 + 1 == i && q.2.category == 2)) = lv') (kk : E (pc + 3) lv' st M) : E pc lv st M := by
  obtain ⟨p, e, R, s, m, args, below, meth, c, cs, sz, QF, hx, hb, hml, hown, hts, hK, hSt, hR, rfl⟩ := hE
  exact fun H locs ls hP hS hl => lv_iinc hx hb hd hl hk hv hn hlv (fun ls' hl' => kk H locs ls' hP hS hl')

theorem e_iadd {l : Launch} {G : Gs} {own : String} {cc : ByteArray} {nL d : Nat} {E : EE} (hE : Mach l G own cc nL d E) {pc : Nat} {lv : List (Nat × Value)} {st : List Value} {M : Mm} {x y : Int32} (hd : decode cc pc = .ok (.iadd, 1)) (kk : E (pc + 1) lv (.int (x + y) :: st) M) : E pc lv (.int y :: .int x :: st) M := by
  obtain ⟨p, e, R, s, m, args, below, meth, c, cs, sz, QF, hx, hb, hml, hown, hts, hK, hSt, hR, rfl⟩ := hE
  exact fun H locs ls hP hS hl => lv_iadd hx hb hd (kk H locs ls hP hS hl)

theorem e_isub {l : Launch} {G : Gs} {own : String} {cc : ByteArray} {nL d : Nat} {E : EE} (hE : Mach l G own cc nL d E) {pc : Nat} {lv : List (Nat × Value)} {st : List Value} {M : Mm} {x y : Int32} (hd : decode cc pc = .ok (.isub, 1)) (kk : E (pc + 1) lv (.int (x - y) :: st) M) : E pc lv (.int y :: .int x :: st) M := by
  obtain ⟨p, e, R, s, m, args, below, meth, c, cs, sz, QF, hx, hb, hml, hown, hts, hK, hSt, hR, rfl⟩ := hE
  exact fun H locs ls hP hS hl => lv_isub hx hb hd (kk H locs ls hP hS hl)

theorem e_imul {l : Launch} {G : Gs} {own : String} {cc : ByteArray} {nL d : Nat} {E : EE} (hE : Mach l G own cc nL d E) {pc : Nat} {lv : List (Nat × Value)} {st : List Value} {M : Mm} {x y : Int32} (hd : decode cc pc = .ok (.imul, 1)) (kk : E (pc + 1) lv (.int (x * y) :: st) M) : E pc lv (.int y :: .int x :: st) M := by
  obtain ⟨p, e, R, s, m, args, below, meth, c, cs, sz, QF, hx, hb, hml, hown, hts, hK, hSt, hR, rfl⟩ := hE
  exact fun H locs ls hP hS hl => lv_imul hx hb hd (kk H locs ls hP hS hl)

theorem e_iand {l : Launch} {G : Gs} {own : String} {cc : ByteArray} {nL d : Nat} {E : EE} (hE : Mach l G own cc nL d E) {pc : Nat} {lv : List (Nat × Value)} {st : List Value} {M : Mm} {x y : Int32} (hd : decode cc pc = .ok (.iand, 1)) (kk : E (pc + 1) lv (.int (x &&& y) :: st) M) : E pc lv (.int y :: .int x :: st) M := by
  obtain ⟨p, e, R, s, m, args, below, meth, c, cs, sz, QF, hx, hb, hml, hown, hts, hK, hSt, hR, rfl⟩ := hE
  exact fun H locs ls hP hS hl => lv_iand hx hb hd (kk H locs ls hP hS hl)

theorem e_ior {l : Launch} {G : Gs} {own : String} {cc : ByteArray} {nL d : Nat} {E : EE} (hE : Mach l G own cc nL d E) {pc : Nat} {lv : List (Nat × Value)} {st : List Value} {M : Mm} {x y : Int32} (hd : decode cc pc = .ok (.ior, 1)) (kk : E (pc + 1) lv (.int (x ||| y) :: st) M) : E pc lv (.int y :: .int x :: st) M := by
  obtain ⟨p, e, R, s, m, args, below, meth, c, cs, sz, QF, hx, hb, hml, hown, hts, hK, hSt, hR, rfl⟩ := hE
  exact fun H locs ls hP hS hl => lv_ior hx hb hd (kk H locs ls hP hS hl)

theorem e_ixor {l : Launch} {G : Gs} {own : String} {cc : ByteArray} {nL d : Nat} {E : EE} (hE : Mach l G own cc nL d E) {pc : Nat} {lv : List (Nat × Value)} {st : List Value} {M : Mm} {x y : Int32} (hd : decode cc pc = .ok (.ixor, 1)) (kk : E (pc + 1) lv (.int (x ^^^ y) :: st) M) : E pc lv (.int y :: .int x :: st) M := by
  obtain ⟨p, e, R, s, m, args, below, meth, c, cs, sz, QF, hx, hb, hml, hown, hts, hK, hSt, hR, rfl⟩ := hE
  exact fun H locs ls hP hS hl => lv_ixor hx hb hd (kk H locs ls hP hS hl)

theorem e_ishl {l : Launch} {G : Gs} {own : String} {cc : ByteArray} {nL d : Nat} {E : EE} (hE : Mach l G own cc nL d E) {pc : Nat} {lv : List (Nat × Value)} {st : List Value} {M : Mm} {x y : Int32} (hd : decode cc pc = .ok (.ishl, 1)) (kk : E (pc + 1) lv (.int (x <<< (y &&& 31)) :: st) M) : E pc lv (.int y :: .int x :: st) M := by
  obtain ⟨p, e, R, s, m, args, below, meth, c, cs, sz, QF, hx, hb, hml, hown, hts, hK, hSt, hR, rfl⟩ := hE
  exact fun H locs ls hP hS hl => lv_ishl hx hb hd (kk H locs ls hP hS hl)

theorem e_ishr {l : Launch} {G : Gs} {own : String} {cc : ByteArray} {nL d : Nat} {E : EE} (hE : Mach l G own cc nL d E) {pc : Nat} {lv : List (Nat × Value)} {st : List Value} {M : Mm} {x y : Int32} (hd : decode cc pc = .ok (.ishr, 1)) (kk : E (pc + 1) lv (.int (x >>> (y &&& 31)) :: st) M) : E pc lv (.int y :: .int x :: st) M := by
  obtain ⟨p, e, R, s, m, args, below, meth, c, cs, sz, QF, hx, hb, hml, hown, hts, hK, hSt, hR, rfl⟩ := hE
  exact fun H locs ls hP hS hl => lv_ishr hx hb hd (kk H locs ls hP hS hl)

theorem e_ladd {l : Launch} {G : Gs} {own : String} {cc : ByteArray} {nL d : Nat} {E : EE} (hE : Mach l G own cc nL d E) {pc : Nat} {lv : List (Nat × Value)} {st : List Value} {M : Mm} {x y : Int64} (hd : decode cc pc = .ok (.ladd, 1)) (kk : E (pc + 1) lv (.long (x + y) :: st) M) : E pc lv (.long y :: .long x :: st) M := by
  obtain ⟨p, e, R, s, m, args, below, meth, c, cs, sz, QF, hx, hb, hml, hown, hts, hK, hSt, hR, rfl⟩ := hE
  exact fun H locs ls hP hS hl => lv_ladd hx hb hd (kk H locs ls hP hS hl)

theorem e_lsub {l : Launch} {G : Gs} {own : String} {cc : ByteArray} {nL d : Nat} {E : EE} (hE : Mach l G own cc nL d E) {pc : Nat} {lv : List (Nat × Value)} {st : List Value} {M : Mm} {x y : Int64} (hd : decode cc pc = .ok (.lsub, 1)) (kk : E (pc + 1) lv (.long (x - y) :: st) M) : E pc lv (.long y :: .long x :: st) M := by
  obtain ⟨p, e, R, s, m, args, below, meth, c, cs, sz, QF, hx, hb, hml, hown, hts, hK, hSt, hR, rfl⟩ := hE
  exact fun H locs ls hP hS hl => lv_lsub hx hb hd (kk H locs ls hP hS hl)

theorem e_lmul {l : Launch} {G : Gs} {own : String} {cc : ByteArray} {nL d : Nat} {E : EE} (hE : Mach l G own cc nL d E) {pc : Nat} {lv : List (Nat × Value)} {st : List Value} {M : Mm} {x y : Int64} (hd : decode cc pc = .ok (.lmul, 1)) (kk : E (pc + 1) lv (.long (x * y) :: st) M) : E pc lv (.long y :: .long x :: st) M := by
  obtain ⟨p, e, R, s, m, args, below, meth, c, cs, sz, QF, hx, hb, hml, hown, hts, hK, hSt, hR, rfl⟩ := hE
  exact fun H locs ls hP hS hl => lv_lmul hx hb hd (kk H locs ls hP hS hl)

theorem e_land {l : Launch} {G : Gs} {own : String} {cc : ByteArray} {nL d : Nat} {E : EE} (hE : Mach l G own cc nL d E) {pc : Nat} {lv : List (Nat × Value)} {st : List Value} {M : Mm} {x y : Int64} (hd : decode cc pc = .ok (.land, 1)) (kk : E (pc + 1) lv (.long (x &&& y) :: st) M) : E pc lv (.long y :: .long x :: st) M := by
  obtain ⟨p, e, R, s, m, args, below, meth, c, cs, sz, QF, hx, hb, hml, hown, hts, hK, hSt, hR, rfl⟩ := hE
  exact fun H locs ls hP hS hl => lv_land hx hb hd (kk H locs ls hP hS hl)

theorem e_lor {l : Launch} {G : Gs} {own : String} {cc : ByteArray} {nL d : Nat} {E : EE} (hE : Mach l G own cc nL d E) {pc : Nat} {lv : List (Nat × Value)} {st : List Value} {M : Mm} {x y : Int64} (hd : decode cc pc = .ok (.lor, 1)) (kk : E (pc + 1) lv (.long (x ||| y) :: st) M) : E pc lv (.long y :: .long x :: st) M := by
  obtain ⟨p, e, R, s, m, args, below, meth, c, cs, sz, QF, hx, hb, hml, hown, hts, hK, hSt, hR, rfl⟩ := hE
  exact fun H locs ls hP hS hl => lv_lor hx hb hd (kk H locs ls hP hS hl)

theorem e_lxor {l : Launch} {G : Gs} {own : String} {cc : ByteArray} {nL d : Nat} {E : EE} (hE : Mach l G own cc nL d E) {pc : Nat} {lv : List (Nat × Value)} {st : List Value} {M : Mm} {x y : Int64} (hd : decode cc pc = .ok (.lxor, 1)) (kk : E (pc + 1) lv (.long (x ^^^ y) :: st) M) : E pc lv (.long y :: .long x :: st) M := by
  obtain ⟨p, e, R, s, m, args, below, meth, c, cs, sz, QF, hx, hb, hml, hown, hts, hK, hSt, hR, rfl⟩ := hE
  exact fun H locs ls hP hS hl => lv_lxor hx hb hd (kk H locs ls hP hS hl)

theorem e_idiv {l : Launch} {G : Gs} {own : String} {cc : ByteArray} {nL d : Nat} {E : EE} (hE : Mach l G own cc nL d E) {pc : Nat} {lv : List (Nat × Value)} {st : List Value} {M : Mm} {x y : Int32} (hne : ¬ y = 0) (hd : decode cc pc = .ok (.idiv, 1)) (kk : E (pc + 1) lv (.int (x / y) :: st) M) : E pc lv (.int y :: .int x :: st) M := by
  obtain ⟨p, e, R, s, m, args, below, meth, c, cs, sz, QF, hx, hb, hml, hown, hts, hK, hSt, hR, rfl⟩ := hE
  exact fun H locs ls hP hS hl => lv_idiv hx hb hd hne (kk H locs ls hP hS hl)

theorem e_irem {l : Launch} {G : Gs} {own : String} {cc : ByteArray} {nL d : Nat} {E : EE} (hE : Mach l G own cc nL d E) {pc : Nat} {lv : List (Nat × Value)} {st : List Value} {M : Mm} {x y : Int32} (hne : ¬ y = 0) (hd : decode cc pc = .ok (.irem, 1)) (kk : E (pc + 1) lv (.int (x - x / y * y) :: st) M) : E pc lv (.int y :: .int x :: st) M := by
  obtain ⟨p, e, R, s, m, args, below, meth, c, cs, sz, QF, hx, hb, hml, hown, hts, hK, hSt, hR, rfl⟩ := hE
  exact fun H locs ls hP hS hl => lv_irem hx hb hd hne (kk H locs ls hP hS hl)

theorem e_ldiv {l : Launch} {G : Gs} {own : String} {cc : ByteArray} {nL d : Nat} {E : EE} (hE : Mach l G own cc nL d E) {pc : Nat} {lv : List (Nat × Value)} {st : List Value} {M : Mm} {x y : Int64} (hne : ¬ y = 0) (hd : decode cc pc = .ok (.ldiv, 1)) (kk : E (pc + 1) lv (.long (x / y) :: st) M) : E pc lv (.long y :: .long x :: st) M := by
  obtain ⟨p, e, R, s, m, args, below, meth, c, cs, sz, QF, hx, hb, hml, hown, hts, hK, hSt, hR, rfl⟩ := hE
  exact fun H locs ls hP hS hl => lv_ldiv hx hb hd hne (kk H locs ls hP hS hl)

theorem e_lrem {l : Launch} {G : Gs} {own : String} {cc : ByteArray} {nL d : Nat} {E : EE} (hE : Mach l G own cc nL d E) {pc : Nat} {lv : List (Nat × Value)} {st : List Value} {M : Mm} {x y : Int64} (hne : ¬ y = 0) (hd : decode cc pc = .ok (.lrem, 1)) (kk : E (pc + 1) lv (.long (x - x / y * y) :: st) M) : E pc lv (.long y :: .long x :: st) M := by
  obtain ⟨p, e, R, s, m, args, below, meth, c, cs, sz, QF, hx, hb, hml, hown, hts, hK, hSt, hR, rfl⟩ := hE
  exact fun H locs ls hP hS hl => lv_lrem hx hb hd hne (kk H locs ls hP hS hl)

theorem e_i2l {l : Launch} {G : Gs} {own : String} {cc : ByteArray} {nL d : Nat} {E : EE} (hE : Mach l G own cc nL d E) {pc : Nat} {lv : List (Nat × Value)} {st : List Value} {M : Mm} {x : Int32} (hd : decode cc pc = .ok (.i2l, 1)) (kk : E (pc + 1) lv (.long x.toInt64 :: st) M) : E pc lv (.int x :: st) M := by
  obtain ⟨p, e, R, s, m, args, below, meth, c, cs, sz, QF, hx, hb, hml, hown, hts, hK, hSt, hR, rfl⟩ := hE
  exact fun H locs ls hP hS hl => lv_i2l hx hb hd rfl (kk H locs ls hP hS hl)

theorem e_l2i {l : Launch} {G : Gs} {own : String} {cc : ByteArray} {nL d : Nat} {E : EE} (hE : Mach l G own cc nL d E) {pc : Nat} {lv : List (Nat × Value)} {st : List Value} {M : Mm} {x : Int64} (hd : decode cc pc = .ok (.l2i, 1)) (kk : E (pc + 1) lv (.int x.toInt32 :: st) M) : E pc lv (.long x :: st) M := by
  obtain ⟨p, e, R, s, m, args, below, meth, c, cs, sz, QF, hx, hb, hml, hown, hts, hK, hSt, hR, rfl⟩ := hE
  exact fun H locs ls hP hS hl => lv_l2i hx hb hd rfl (kk H locs ls hP hS hl)

theorem e_i2b {l : Launch} {G : Gs} {own : String} {cc : ByteArray} {nL d : Nat} {E : EE} (hE : Mach l G own cc nL d E) {pc : Nat} {lv : List (Nat × Value)} {st : List Value} {M : Mm} {x : Int32} (hd : decode cc pc = .ok (.i2b, 1)) (kk : E (pc + 1) lv (.int x.toInt8.toInt32 :: st) M) : E pc lv (.int x :: st) M := by
  obtain ⟨p, e, R, s, m, args, below, meth, c, cs, sz, QF, hx, hb, hml, hown, hts, hK, hSt, hR, rfl⟩ := hE
  exact fun H locs ls hP hS hl => lv_i2b hx hb hd rfl (kk H locs ls hP hS hl)

theorem e_iushr {l : Launch} {G : Gs} {own : String} {cc : ByteArray} {nL d : Nat} {E : EE} (hE : Mach l G own cc nL d E) {pc : Nat} {lv : List (Nat × Value)} {st : List Value} {M : Mm} {x y : Int32} (hd : decode cc pc = .ok (.iushr, 1)) (kk : E (pc + 1) lv (.int (x.toUInt32 >>> (y.toUInt32 &&& Int32.toUInt32 31)).toInt32 :: st) M) : E pc lv (.int y :: .int x :: st) M := by
  obtain ⟨p, e, R, s, m, args, below, meth, c, cs, sz, QF, hx, hb, hml, hown, hts, hK, hSt, hR, rfl⟩ := hE
  exact fun H locs ls hP hS hl => lv_iushr hx hb hd rfl (kk H locs ls hP hS hl)

theorem e_lushr {l : Launch} {G : Gs} {own : String} {cc : ByteArray} {nL d : Nat} {E : EE} (hE : Mach l G own cc nL d E) {pc : Nat} {lv : List (Nat × Value)} {st : List Value} {M : Mm} {x : Int64} {y : Int32} (hd : decode cc pc = .ok (.lushr, 1)) (kk : E (pc + 1) lv (.long (x.toUInt64 >>> (y.toInt64.toUInt64 &&& Int64.toUInt64 63)).toInt64 :: st) M) : E pc lv (.int y :: .long x :: st) M := by
  obtain ⟨p, e, R, s, m, args, below, meth, c, cs, sz, QF, hx, hb, hml, hown, hts, hK, hSt, hR, rfl⟩ := hE
  exact fun H locs ls hP hS hl => lv_lushr hx hb hd rfl (kk H locs ls hP hS hl)

theorem e_lshl {l : Launch} {G : Gs} {own : String} {cc : ByteArray} {nL d : Nat} {E : EE} (hE : Mach l G own cc nL d E) {pc : Nat} {lv : List (Nat × Value)} {st : List Value} {M : Mm} {x : Int64} {y : Int32} (hd : decode cc pc = .ok (.lshl, 1)) (kk : E (pc + 1) lv (.long (x <<< (y.toInt64 &&& 63)) :: st) M) : E pc lv (.int y :: .long x :: st) M := by
  obtain ⟨p, e, R, s, m, args, below, meth, c, cs, sz, QF, hx, hb, hml, hown, hts, hK, hSt, hR, rfl⟩ := hE
  exact fun H locs ls hP hS hl => lv_lshl hx hb hd rfl (kk H locs ls hP hS hl)

theorem e_lshr {l : Launch} {G : Gs} {own : String} {cc : ByteArray} {nL d : Nat} {E : EE} (hE : Mach l G own cc nL d E) {pc : Nat} {lv : List (Nat × Value)} {st : List Value} {M : Mm} {x : Int64} {y : Int32} (hd : decode cc pc = .ok (.lshr, 1)) (kk : E (pc + 1) lv (.long (x >>> (y.toInt64 &&& 63)) :: st) M) : E pc lv (.int y :: .long x :: st) M := by
  obtain ⟨p, e, R, s, m, args, below, meth, c, cs, sz, QF, hx, hb, hml, hown, hts, hK, hSt, hR, rfl⟩ := hE
  exact fun H locs ls hP hS hl => lv_lshr hx hb hd rfl (kk H locs ls hP hS hl)

theorem e_lcmp {l : Launch} {G : Gs} {own : String} {cc : ByteArray} {nL d : Nat} {E : EE} (hE : Mach l G own cc nL d E) {pc : Nat} {lv : List (Nat × Value)} {st : List Value} {M : Mm} {x y : Int64} (hd : decode cc pc = .ok (.lcmp, 1)) (kk : E (pc + 1) lv (.int (lg_cmp x y) :: st) M) : E pc lv (.long y :: .long x :: st) M := by
  obtain ⟨p, e, R, s, m, args, below, meth, c, cs, sz, QF, hx, hb, hml, hown, hts, hK, hSt, hR, rfl⟩ := hE
  exact fun H locs ls hP hS hl => W.lcmp hx hb hd (kk H locs ls hP hS hl)

theorem e_dup {l : Launch} {G : Gs} {own : String} {cc : ByteArray} {nL d : Nat} {E : EE} (hE : Mach l G own cc nL d E) {pc : Nat} {lv : List (Nat × Value)} {st : List Value} {M : Mm} {v : Value} (hv : v.category = 1) (hd : decode cc pc = .ok (.dup, 1)) (kk : E (pc + 1) lv (v :: v :: st) M) : E pc lv (v :: st) M := by
  obtain ⟨p, e, R, s, m, args, below, meth, c, cs, sz, QF, hx, hb, hml, hown, hts, hK, hSt, hR, rfl⟩ := hE
  exact fun H locs ls hP hS hl => lv_dup hx hb hd hv (kk H locs ls hP hS hl)

theorem e_pop {l : Launch} {G : Gs} {own : String} {cc : ByteArray} {nL d : Nat} {E : EE} (hE : Mach l G own cc nL d E) {pc : Nat} {lv : List (Nat × Value)} {st : List Value} {M : Mm} {v : Value} (hv : v.category = 1) (hd : decode cc pc = .ok (.pop, 1)) (kk : E (pc + 1) lv (st) M) : E pc lv (v :: st) M := by
  obtain ⟨p, e, R, s, m, args, below, meth, c, cs, sz, QF, hx, hb, hml, hown, hts, hK, hSt, hR, rfl⟩ := hE
  exact fun H locs ls hP hS hl => lv_pop hx hb hd hv (kk H locs ls hP hS hl)

theorem e_dup2 {l : Launch} {G : Gs} {own : String} {cc : ByteArray} {nL d : Nat} {E : EE} (hE : Mach l G own cc nL d E) {pc : Nat} {lv : List (Nat × Value)} {st : List Value} {M : Mm} {v w : Value} (hv : v.category = 1) (hw : w.category = 1) (hd : decode cc pc = .ok (.dup2, 1)) (kk : E (pc + 1) lv (v :: w :: v :: w :: st) M) : E pc lv (v :: w :: st) M := by
  obtain ⟨p, e, R, s, m, args, below, meth, c, cs, sz, QF, hx, hb, hml, hown, hts, hK, hSt, hR, rfl⟩ := hE
  exact fun H locs ls hP hS hl => lv_dup2_11 hx hb hd hv hw (kk H locs ls hP hS hl)

theorem e_icmp_eq {l : Launch} {G : Gs} {own : String} {cc : ByteArray} {nL d : Nat} {E : EE} (hE : Mach l G own cc nL d E) {pc : Nat} {lv : List (Nat × Value)} {st : List Value} {M : Mm} {x y : Int32} {off : Int} (tgt : Nat) (hd : decode cc pc = .ok (.if_icmp .eq off, 3)) (ht : (pc : Int) + off = (tgt : Int)) (kt : x = y → E tgt lv st M) (kf : ¬ x = y → E (pc + 3) lv st M) : E pc lv (.int y :: .int x :: st) M := by
  obtain ⟨p, e, R, s, m, args, below, meth, c, cs, sz, QF, hx, hb, hml, hown, hts, hK, hSt, hR, rfl⟩ := hE
  exact fun H locs ls hP hS hl => lv_icmp_eq hx hb hd ht (fun c0 => kt c0 H locs ls hP hS hl) (fun c0 => kf c0 H locs ls hP hS hl)

theorem e_if_eq {l : Launch} {G : Gs} {own : String} {cc : ByteArray} {nL d : Nat} {E : EE} (hE : Mach l G own cc nL d E) {pc : Nat} {lv : List (Nat × Value)} {st : List Value} {M : Mm} {x : Int32} {off : Int} (tgt : Nat) (hd : decode cc pc = .ok (.ifCond .eq off, 3)) (ht : (pc : Int) + off = (tgt : Int)) (kt : x = 0 → E tgt lv st M) (kf : ¬ x = 0 → E (pc + 3) lv st M) : E pc lv (.int x :: st) M := by
  obtain ⟨p, e, R, s, m, args, below, meth, c, cs, sz, QF, hx, hb, hml, hown, hts, hK, hSt, hR, rfl⟩ := hE
  exact fun H locs ls hP hS hl => lv_if_eq hx hb hd ht (fun c0 => kt c0 H locs ls hP hS hl) (fun c0 => kf c0 H locs ls hP hS hl)

theorem e_icmp_ne {l : Launch} {G : Gs} {own : String} {cc : ByteArray} {nL d : Nat} {E : EE} (hE : Mach l G own cc nL d E) {pc : Nat} {lv : List (Nat × Value)} {st : List Value} {M : Mm} {x y : Int32} {off : Int} (tgt : Nat) (hd : decode cc pc = .ok (.if_icmp .ne off, 3)) (ht : (pc : Int) + off = (tgt : Int)) (kt : ¬ x = y → E tgt lv st M) (kf : x = y → E (pc + 3) lv st M) : E pc lv (.int y :: .int x :: st) M := by
  obtain ⟨p, e, R, s, m, args, below, meth, c, cs, sz, QF, hx, hb, hml, hown, hts, hK, hSt, hR, rfl⟩ := hE
  exact fun H locs ls hP hS hl => lv_icmp_ne hx hb hd ht (fun c0 => kt c0 H locs ls hP hS hl) (fun c0 => kf c0 H locs ls hP hS hl)

theorem e_if_ne {l : Launch} {G : Gs} {own : String} {cc : ByteArray} {nL d : Nat} {E : EE} (hE : Mach l G own cc nL d E) {pc : Nat} {lv : List (Nat × Value)} {st : List Value} {M : Mm} {x : Int32} {off : Int} (tgt : Nat) (hd : decode cc pc = .ok (.ifCond .ne off, 3)) (ht : (pc : Int) + off = (tgt : Int)) (kt : ¬ x = 0 → E tgt lv st M) (kf : x = 0 → E (pc + 3) lv st M) : E pc lv (.int x :: st) M := by
  obtain ⟨p, e, R, s, m, args, below, meth, c, cs, sz, QF, hx, hb, hml, hown, hts, hK, hSt, hR, rfl⟩ := hE
  exact fun H locs ls hP hS hl => lv_if_ne hx hb hd ht (fun c0 => kt c0 H locs ls hP hS hl) (fun c0 => kf c0 H locs ls hP hS hl)

theorem e_icmp_lt {l : Launch} {G : Gs} {own : String} {cc : ByteArray} {nL d : Nat} {E : EE} (hE : Mach l G own cc nL d E) {pc : Nat} {lv : List (Nat × Value)} {st : List Value} {M : Mm} {x y : Int32} {off : Int} (tgt : Nat) (hd : decode cc pc = .ok (.if_icmp .lt off, 3)) (ht : (pc : Int) + off = (tgt : Int)) (kt : x < y → E tgt lv st M) (kf : ¬ x < y → E (pc + 3) lv st M) : E pc lv (.int y :: .int x :: st) M := by
  obtain ⟨p, e, R, s, m, args, below, meth, c, cs, sz, QF, hx, hb, hml, hown, hts, hK, hSt, hR, rfl⟩ := hE
  exact fun H locs ls hP hS hl => lv_icmp_lt hx hb hd ht (fun c0 => kt c0 H locs ls hP hS hl) (fun c0 => kf c0 H locs ls hP hS hl)

theorem e_if_lt {l : Launch} {G : Gs} {own : String} {cc : ByteArray} {nL d : Nat} {E : EE} (hE : Mach l G own cc nL d E) {pc : Nat} {lv : List (Nat × Value)} {st : List Value} {M : Mm} {x : Int32} {off : Int} (tgt : Nat) (hd : decode cc pc = .ok (.ifCond .lt off, 3)) (ht : (pc : Int) + off = (tgt : Int)) (kt : x < 0 → E tgt lv st M) (kf : ¬ x < 0 → E (pc + 3) lv st M) : E pc lv (.int x :: st) M := by
  obtain ⟨p, e, R, s, m, args, below, meth, c, cs, sz, QF, hx, hb, hml, hown, hts, hK, hSt, hR, rfl⟩ := hE
  exact fun H locs ls hP hS hl => lv_if_lt hx hb hd ht (fun c0 => kt c0 H locs ls hP hS hl) (fun c0 => kf c0 H locs ls hP hS hl)

theorem e_icmp_ge {l : Launch} {G : Gs} {own : String} {cc : ByteArray} {nL d : Nat} {E : EE} (hE : Mach l G own cc nL d E) {pc : Nat} {lv : List (Nat × Value)} {st : List Value} {M : Mm} {x y : Int32} {off : Int} (tgt : Nat) (hd : decode cc pc = .ok (.if_icmp .ge off, 3)) (ht : (pc : Int) + off = (tgt : Int)) (kt : y ≤ x → E tgt lv st M) (kf : ¬ y ≤ x → E (pc + 3) lv st M) : E pc lv (.int y :: .int x :: st) M := by
  obtain ⟨p, e, R, s, m, args, below, meth, c, cs, sz, QF, hx, hb, hml, hown, hts, hK, hSt, hR, rfl⟩ := hE
  exact fun H locs ls hP hS hl => lv_icmp_ge hx hb hd ht (fun c0 => kt c0 H locs ls hP hS hl) (fun c0 => kf c0 H locs ls hP hS hl)

theorem e_if_ge {l : Launch} {G : Gs} {own : String} {cc : ByteArray} {nL d : Nat} {E : EE} (hE : Mach l G own cc nL d E) {pc : Nat} {lv : List (Nat × Value)} {st : List Value} {M : Mm} {x : Int32} {off : Int} (tgt : Nat) (hd : decode cc pc = .ok (.ifCond .ge off, 3)) (ht : (pc : Int) + off = (tgt : Int)) (kt : 0 ≤ x → E tgt lv st M) (kf : ¬ 0 ≤ x → E (pc + 3) lv st M) : E pc lv (.int x :: st) M := by
  obtain ⟨p, e, R, s, m, args, below, meth, c, cs, sz, QF, hx, hb, hml, hown, hts, hK, hSt, hR, rfl⟩ := hE
  exact fun H locs ls hP hS hl => lv_if_ge hx hb hd ht (fun c0 => kt c0 H locs ls hP hS hl) (fun c0 => kf c0 H locs ls hP hS hl)

theorem e_icmp_gt {l : Launch} {G : Gs} {own : String} {cc : ByteArray} {nL d : Nat} {E : EE} (hE : Mach l G own cc nL d E) {pc : Nat} {lv : List (Nat × Value)} {st : List Value} {M : Mm} {x y : Int32} {off : Int} (tgt : Nat) (hd : decode cc pc = .ok (.if_icmp .gt off, 3)) (ht : (pc : Int) + off = (tgt : Int)) (kt : y < x → E tgt lv st M) (kf : ¬ y < x → E (pc + 3) lv st M) : E pc lv (.int y :: .int x :: st) M := by
  obtain ⟨p, e, R, s, m, args, below, meth, c, cs, sz, QF, hx, hb, hml, hown, hts, hK, hSt, hR, rfl⟩ := hE
  exact fun H locs ls hP hS hl => lv_icmp_gt hx hb hd ht (fun c0 => kt c0 H locs ls hP hS hl) (fun c0 => kf c0 H locs ls hP hS hl)

theorem e_if_gt {l : Launch} {G : Gs} {own : String} {cc : ByteArray} {nL d : Nat} {E : EE} (hE : Mach l G own cc nL d E) {pc : Nat} {lv : List (Nat × Value)} {st : List Value} {M : Mm} {x : Int32} {off : Int} (tgt : Nat) (hd : decode cc pc = .ok (.ifCond .gt off, 3)) (ht : (pc : Int) + off = (tgt : Int)) (kt : 0 < x → E tgt lv st M) (kf : ¬ 0 < x → E (pc + 3) lv st M) : E pc lv (.int x :: st) M := by
  obtain ⟨p, e, R, s, m, args, below, meth, c, cs, sz, QF, hx, hb, hml, hown, hts, hK, hSt, hR, rfl⟩ := hE
  exact fun H locs ls hP hS hl => lv_if_gt hx hb hd ht (fun c0 => kt c0 H locs ls hP hS hl) (fun c0 => kf c0 H locs ls hP hS hl)

theorem e_icmp_le {l : Launch} {G : Gs} {own : String} {cc : ByteArray} {nL d : Nat} {E : EE} (hE : Mach l G own cc nL d E) {pc : Nat} {lv : List (Nat × Value)} {st : List Value} {M : Mm} {x y : Int32} {off : Int} (tgt : Nat) (hd : decode cc pc = .ok (.if_icmp .le off, 3)) (ht : (pc : Int) + off = (tgt : Int)) (kt : x ≤ y → E tgt lv st M) (kf : ¬ x ≤ y → E (pc + 3) lv st M) : E pc lv (.int y :: .int x :: st) M := by
  obtain ⟨p, e, R, s, m, args, below, meth, c, cs, sz, QF, hx, hb, hml, hown, hts, hK, hSt, hR, rfl⟩ := hE
  exact fun H locs ls hP hS hl => lv_icmp_le hx hb hd ht (fun c0 => kt c0 H locs ls hP hS hl) (fun c0 => kf c0 H locs ls hP hS hl)

theorem e_if_le {l : Launch} {G : Gs} {own : String} {cc : ByteArray} {nL d : Nat} {E : EE} (hE : Mach l G own cc nL d E) {pc : Nat} {lv : List (Nat × Value)} {st : List Value} {M : Mm} {x : Int32} {off : Int} (tgt : Nat) (hd : decode cc pc = .ok (.ifCond .le off, 3)) (ht : (pc : Int) + off = (tgt : Int)) (kt : x ≤ 0 → E tgt lv st M) (kf : ¬ x ≤ 0 → E (pc + 3) lv st M) : E pc lv (.int x :: st) M := by
  obtain ⟨p, e, R, s, m, args, below, meth, c, cs, sz, QF, hx, hb, hml, hown, hts, hK, hSt, hR, rfl⟩ := hE
  exact fun H locs ls hP hS hl => lv_if_le hx hb hd ht (fun c0 => kt c0 H locs ls hP hS hl) (fun c0 => kf c0 H locs ls hP hS hl)

theorem e_goto {l : Launch} {G : Gs} {own : String} {cc : ByteArray} {nL d : Nat} {E : EE} (hE : Mach l G own cc nL d E) {pc : Nat} {lv : List (Nat × Value)} {st : List Value} {M : Mm} {off : Int} (tgt : Nat) (hd : decode cc pc = .ok (.goto off, 3)) (ht : (pc : Int) + off = (tgt : Int)) (kk : E tgt lv st M) : E pc lv st M := by
  obtain ⟨p, e, R, s, m, args, below, meth, c, cs, sz, QF, hx, hb, hml, hown, hts, hK, hSt, hR, rfl⟩ := hE
  exact fun H locs ls hP hS hl => lv_goto hx hb hd ht (kk H locs ls hP hS hl)

theorem e_swIn {l : Launch} {G : Gs} {own : String} {cc : ByteArray} {nL d : Nat} {E : EE} (hE : Mach l G own cc nL d E) {pc : Nat} {lv : List (Nat × Value)} {st : List Value} {M : Mm} {dflt lo hi off : Int} {offs : Array Int} {len : Nat} {x : Int32} (tgt : Nat) (hd : decode cc pc = .ok (.tableswitch dflt lo hi offs, len)) (h1 : ¬ x.toInt < lo) (h2 : ¬ hi < x.toInt) (ho : offs[(x.toInt - lo).toNat]? = some off) (ht : (pc : Int) + off = (tgt : Int)) (kk : E tgt lv st M) : E pc lv (.int x :: st) M := by
  obtain ⟨p, e, R, s, m, args, below, meth, c, cs, sz, QF, hx, hb, hml, hown, hts, hK, hSt, hR, rfl⟩ := hE
  exact fun H locs ls hP hS hl => lv_tableIn hx hb hd h1 h2 ho ht (kk H locs ls hP hS hl)

theorem e_swOut {l : Launch} {G : Gs} {own : String} {cc : ByteArray} {nL d : Nat} {E : EE} (hE : Mach l G own cc nL d E) {pc : Nat} {lv : List (Nat × Value)} {st : List Value} {M : Mm} {dflt lo hi : Int} {offs : Array Int} {len : Nat} {x : Int32} (tgt : Nat) (hd : decode cc pc = .ok (.tableswitch dflt lo hi offs, len)) (h : x.toInt < lo ∨ hi < x.toInt) (ht : (pc : Int) + dflt = (tgt : Int)) (kk : E tgt lv st M) : E pc lv (.int x :: st) M := by
  obtain ⟨p, e, R, s, m, args, below, meth, c, cs, sz, QF, hx, hb, hml, hown, hts, hK, hSt, hR, rfl⟩ := hE
  exact fun H locs ls hP hS hl => lv_tableOut hx hb hd h ht (kk H locs ls hP hS hl)

theorem e_sub {l : Launch} {G : Gs} {own : String} {cc : ByteArray} {nL d : Nat} {E : EE} (hE : Mach l G own cc nL d E) {pc : Nat} {lv : List (Nat × Value)} {st : List Value} {M : Mm} {lv' : List (Nat × Value)} (ks : List Nat) (h : lv_pick lv ks = lv') (kk : E pc lv' st M) : E pc lv st M := by
  obtain ⟨p, e, R, s, m, args, below, meth, c, cs, sz, QF, hx, hb, hml, hown, hts, hK, hSt, hR, rfl⟩ := hE
  exact fun H locs ls hP hS hl => kk H locs ls hP hS (lv_sub hl ks h)

theorem e_topi {E : EE} {pc : Nat} {lv : List (Nat × Value)} {st : List Value} {M : Mm} {x : Int32} (kk : ∀ y : Int32, y = x → E pc lv (.int y :: st) M) : E pc lv (.int x :: st) M := kk x rfl

theorem e_topl {E : EE} {pc : Nat} {lv : List (Nat × Value)} {st : List Value} {M : Mm} {x : Int64} (kk : ∀ y : Int64, y = x → E pc lv (.long y :: st) M) : E pc lv (.long x :: st) M := kk x rfl

theorem e_get {l : Launch} {G : Gs} {own : String} {cc : ByteArray} {nL d : Nat} {E : EE} (hE : Mach l G own cc nL d E) {pc : Nat} {lv : List (Nat × Value)} {st : List Value} {M : Mm} {k ci ix j N : Nat} {C : String} {T : u_T} {fs : List Value} {v : Value} (hk : k < 340) (hc : cel G M k = .inr (ci, fs)) (hcl : vwCl[ci]? = some (C, T, N)) (hin : ∀ w ∈ u_ws C T N, w ∈ gT) (hj : j < N) (hw : Cond.fieldLink own ix C (T j).2.1 (T j).2.2.1 ∈ gT) (hT : (T j).1 = C) (hv : fs[j]? = some v) (hd : decode cc pc = .ok (.getfield ix, 3)) (kk : E (pc + 3) lv (v :: st) M) : E pc lv (rv G k :: st) M := by
  obtain ⟨p, e, R, s, m, args, below, meth, c, cs, sz, QF, hx, hb, hml, hown, hts, hK, hSt, hR, rfl⟩ := hE
  exact fun H locs ls hP hS hl => va_get (D := G.1) (ci := ci) (C := C) (T := T) (N := N) hx hb hts hin hown hK.1 hP k (by rw [cells_get G M hk, hc]) hcl j hj (hts _ hw) (fun _ h9 => by rw [← hT]; exact h9) hv hd (kk H locs ls hP hS hl)

theorem e_put {l : Launch} {G : Gs} {own : String} {cc : ByteArray} {nL d : Nat} {E : EE} (hE : Mach l G own cc nL d E) {pc : Nat} {lv : List (Nat × Value)} {st : List Value} {M : Mm} {k ci ix j N : Nat} {C : String} {T : u_T} {fs : List Value} {v : Value} {M' : Mm} {ty : FieldType} (ty0 : Nat → FieldType) (hty : ∀ k, k < N → parseFieldDescriptor (T k).2.2.1 = some (ty0 k)) (hnm : ∀ a, a < N → ∀ b, b < N → a ≠ b → (T a).2.1 ≠ (T b).2.1) (hk : k < 340) (hc : cel G M k = .inr (ci, fs)) (hcl : vwCl[ci]? = some (C, T, N)) (hin : ∀ w ∈ u_ws C T N, w ∈ gT) (hj : j < N) (hw : Cond.fieldLink own ix C (T j).2.1 (T j).2.2.1 ∈ gT) (hT : (T j).1 = C) (hfin : (T j).2.2.2 = false) (hdes : parseFieldDescriptor (T j).2.2.1 = some ty) (hn : narrow ty v = v) (hfit : fits ty v = true) (hl0 : j < fs.length) (hM : cel G M' k = .inr (ci, fs.set j v)) (hMo : ∀ a, a ≠ k → cel G M' a = cel G M a) (hd : decode cc pc = .ok (.putfield ix, 3)) (kk : E (pc + 3) lv st M') : E pc lv (v :: rv G k :: st) M := by
  obtain ⟨p, e, R, s, m, args, below, meth, c, cs, sz, QF, hx, hb, hml, hown, hts, hK, hSt, hR, rfl⟩ := hE
  exact fun H locs ls hP hS hl => va_put (D := G.1) (ci := ci) (C := C) (T := T) (N := N) hx hb hts hin ty0 hty hnm hown hK.1 hP (cells_D hK.2.1 M) hS k (by rw [cells_get G M hk, hc]) hcl j hj (hts _ hw) (fun _ h9 => by rw [← hT]; exact h9) hfin hdes hn hfit hl0 hd (fun H1 locs1 hP1 _ hS1 => kk H1 locs1 ls (by rw [cells_set hM hMo] at hP1; exact hP1) hS1 hl)

theorem e_iald {l : Launch} {G : Gs} {own : String} {cc : ByteArray} {nL d : Nat} {E : EE} (hE : Mach l G own cc nL d E) {pc : Nat} {lv : List (Nat × Value)} {st : List Value} {M : Mm} {k n : Nat} {i : Int32} (hk : kd k = 12 ∧ ln k = n) (hin : vp_in i n) (hd : decode cc pc = .ok (.iaload, 1)) (kk : E (pc + 1) lv (.int (gi M k (tn i)) :: st) M) : E pc lv (.int i :: rv G k :: st) M := by
  obtain ⟨p, e, R, s, m, args, below, meth, c, cs, sz, QF, hx, hb, hml, hown, hts, hK, hSt, hR, rfl⟩ := hE
  obtain ⟨hk, rfl⟩ := hk
  exact fun H locs ls hP hS hl => va_iald hx hb hK.1 hP k 1 (by rw [cells_get G M (kd_lt (by rw [hk]; decide)), cel_12 G M hk]) rfl hin hd (kk H locs ls hP hS hl)

theorem e_bald {l : Launch} {G : Gs} {own : String} {cc : ByteArray} {nL d : Nat} {E : EE} (hE : Mach l G own cc nL d E) {pc : Nat} {lv : List (Nat × Value)} {st : List Value} {M : Mm} {k n : Nat} {i : Int32} (hk : kd k = 11 ∧ ln k = n) (hin : vp_in i n) (hd : decode cc pc = .ok (.baload, 1)) (kk : E (pc + 1) lv (.int (gi M k (tn i)) :: st) M) : E pc lv (.int i :: rv G k :: st) M := by
  obtain ⟨p, e, R, s, m, args, below, meth, c, cs, sz, QF, hx, hb, hml, hown, hts, hK, hSt, hR, rfl⟩ := hE
  obtain ⟨hk, rfl⟩ := hk
  exact fun H locs ls hP hS hl => va_bald hx hb hK.1 hP k 0 (by rw [cells_get G M (kd_lt (by rw [hk]; decide)), cel_11 G M hk]) rfl hin hd (kk H locs ls hP hS hl)

theorem e_zald {l : Launch} {G : Gs} {own : String} {cc : ByteArray} {nL d : Nat} {E : EE} (hE : Mach l G own cc nL d E) {pc : Nat} {lv : List (Nat × Value)} {st : List Value} {M : Mm} {k n : Nat} {i : Int32} (hk : kd k = 14 ∧ ln k = n) (hin : vp_in i n) (hd : decode cc pc = .ok (.baload, 1)) (kk : E (pc + 1) lv (.int (gi M k (tn i)) :: st) M) : E pc lv (.int i :: rv G k :: st) M := by
  obtain ⟨p, e, R, s, m, args, below, meth, c, cs, sz, QF, hx, hb, hml, hown, hts, hK, hSt, hR, rfl⟩ := hE
  obtain ⟨hk, rfl⟩ := hk
  exact fun H locs ls hP hS hl => va_zald hx hb hK.1 hP k 3 (by rw [cells_get G M (kd_lt (by rw [hk]; decide)), cel_14 G M hk]) rfl hin hd (kk H locs ls hP hS hl)

theorem e_lald {l : Launch} {G : Gs} {own : String} {cc : ByteArray} {nL d : Nat} {E : EE} (hE : Mach l G own cc nL d E) {pc : Nat} {lv : List (Nat × Value)} {st : List Value} {M : Mm} {k n : Nat} {i : Int32} (hk : kd k = 13 ∧ ln k = n) (hin : vp_in i n) (hd : decode cc pc = .ok (.laload, 1)) (kk : E (pc + 1) lv (.long (gl M k (tn i)) :: st) M) : E pc lv (.int i :: rv G k :: st) M := by
  obtain ⟨p, e, R, s, m, args, below, meth, c, cs, sz, QF, hx, hb, hml, hown, hts, hK, hSt, hR, rfl⟩ := hE
  obtain ⟨hk, rfl⟩ := hk
  exact fun H locs ls hP hS hl => va_lald hx hb hK.1 hP k 2 (by rw [cells_get G M (kd_lt (by rw [hk]; decide)), cel_13 G M hk]) rfl hin hd (kk H locs ls hP hS hl)

theorem e_fald {l : Launch} {G : Gs} {own : String} {cc : ByteArray} {nL d : Nat} {E : EE} (hE : Mach l G own cc nL d E) {pc : Nat} {lv : List (Nat × Value)} {st : List Value} {M : Mm} {k n : Nat} {i : Int32} (hk : kd k = 15 ∧ ln k = n) (hin : vp_in i n) (hd : decode cc pc = .ok (.aaload, 1)) (kk : E (pc + 1) lv (rv G (k + 1 + tn i) :: st) M) : E pc lv (.int i :: rv G k :: st) M := by
  obtain ⟨p, e, R, s, m, args, below, meth, c, cs, sz, QF, hx, hb, hml, hown, hts, hK, hSt, hR, rfl⟩ := hE
  obtain ⟨hk, rfl⟩ := hk
  exact fun H locs ls hP hS hl => va_aldq hx hb hK.1 hP k 4 (f := fun j => some (ad G (k + 1 + j))) (by rw [cells_get G M (kd_lt (by rw [hk]; decide)), cel_15 G M hk]) rfl hin hd (kk H locs ls hP hS hl)

theorem e_kald {l : Launch} {G : Gs} {own : String} {cc : ByteArray} {nL d : Nat} {E : EE} (hE : Mach l G own cc nL d E) {pc : Nat} {lv : List (Nat × Value)} {st : List Value} {M : Mm} {k n : Nat} {i : Int32} (hk : kd k = 16 ∧ ln k = n) (hin : vp_in i n) (hd : decode cc pc = .ok (.aaload, 1)) (kk : E (pc + 1) lv (rv G (54 + 2 * tn i) :: st) M) : E pc lv (.int i :: rv G k :: st) M := by
  obtain ⟨p, e, R, s, m, args, below, meth, c, cs, sz, QF, hx, hb, hml, hown, hts, hK, hSt, hR, rfl⟩ := hE
  obtain ⟨hk, rfl⟩ := hk
  exact fun H locs ls hP hS hl => va_aldq hx hb hK.1 hP k 5 (f := fun j => some (ad G (54 + 2 * j))) (by rw [cells_get G M (kd_lt (by rw [hk]; decide)), cel_16 G M hk]) rfl hin hd (kk H locs ls hP hS hl)

theorem e_iast {l : Launch} {G : Gs} {own : String} {cc : ByteArray} {nL d : Nat} {E : EE} (hE : Mach l G own cc nL d E) {pc : Nat} {lv : List (Nat × Value)} {st : List Value} {M : Mm} {k n : Nat} {i : Int32} {x : Int32} (hk : kd k = 12 ∧ ln k = n) (hin : vp_in i n) (hd : decode cc pc = .ok (.iastore, 1)) (kk : E (pc + 1) lv st (si M k (tn i) x)) : E pc lv (.int x :: .int i :: rv G k :: st) M := by
  obtain ⟨p, e, R, s, m, args, below, meth, c, cs, sz, QF, hx, hb, hml, hown, hts, hK, hSt, hR, rfl⟩ := hE
  obtain ⟨hk, rfl⟩ := hk
  refine fun H locs ls hP hS hl => va_iast hx hb hK.1 hP (cells_D hK.2.1 M) hS k 1 (by rw [cells_get G M (kd_lt (by rw [hk]; decide)), cel_12 G M hk]) rfl hin hd (fun H1 locs1 hP1 _ hS1 => kk H1 locs1 ls ?_ hS1 hl)
  rw [cells_set (M' := si M k (tn i) x) (by rw [cel_12 G _ hk]; congr 4; funext b; simp only [upd, gi_si]; by_cases hb9 : b = tn i <;> simp [hb9]) (fun a ha => cel_si G M ha)] at hP1
  exact hP1

theorem e_bast {l : Launch} {G : Gs} {own : String} {cc : ByteArray} {nL d : Nat} {E : EE} (hE : Mach l G own cc nL d E) {pc : Nat} {lv : List (Nat × Value)} {st : List Value} {M : Mm} {k n : Nat} {i : Int32} {x : Int32} (hk : kd k = 11 ∧ ln k = n) (hin : vp_in i n) (hd : decode cc pc = .ok (.bastore, 1)) (kk : E (pc + 1) lv st (si M k (tn i) (vp_nar .byte x))) : E pc lv (.int x :: .int i :: rv G k :: st) M := by
  obtain ⟨p, e, R, s, m, args, below, meth, c, cs, sz, QF, hx, hb, hml, hown, hts, hK, hSt, hR, rfl⟩ := hE
  obtain ⟨hk, rfl⟩ := hk
  refine fun H locs ls hP hS hl => va_bast hx hb hK.1 hP (cells_D hK.2.1 M) hS k 0 (by rw [cells_get G M (kd_lt (by rw [hk]; decide)), cel_11 G M hk]) rfl hin hd (fun H1 locs1 hP1 _ hS1 => kk H1 locs1 ls ?_ hS1 hl)
  rw [cells_set (M' := si M k (tn i) (vp_nar .byte x)) (by rw [cel_11 G _ hk]; congr 4; funext b; simp only [upd, gi_si]; by_cases hb9 : b = tn i <;> simp [hb9]) (fun a ha => cel_si G M ha)] at hP1
  exact hP1

theorem e_zast {l : Launch} {G : Gs} {own : String} {cc : ByteArray} {nL d : Nat} {E : EE} (hE : Mach l G own cc nL d E) {pc : Nat} {lv : List (Nat × Value)} {st : List Value} {M : Mm} {k n : Nat} {i : Int32} {x : Int32} (hk : kd k = 14 ∧ ln k = n) (hin : vp_in i n) (hd : decode cc pc = .ok (.bastore, 1)) (kk : E (pc + 1) lv st (si M k (tn i) (vp_nar .boolean x))) : E pc lv (.int x :: .int i :: rv G k :: st) M := by
  obtain ⟨p, e, R, s, m, args, below, meth, c, cs, sz, QF, hx, hb, hml, hown, hts, hK, hSt, hR, rfl⟩ := hE
  obtain ⟨hk, rfl⟩ := hk
  refine fun H locs ls hP hS hl => va_zast hx hb hK.1 hP (cells_D hK.2.1 M) hS k 3 (by rw [cells_get G M (kd_lt (by rw [hk]; decide)), cel_14 G M hk]) rfl hin hd (fun H1 locs1 hP1 _ hS1 => kk H1 locs1 ls ?_ hS1 hl)
  rw [cells_set (M' := si M k (tn i) (vp_nar .boolean x)) (by rw [cel_14 G _ hk]; congr 4; funext b; simp only [upd, gi_si]; by_cases hb9 : b = tn i <;> simp [hb9]) (fun a ha => cel_si G M ha)] at hP1
  exact hP1

theorem e_last {l : Launch} {G : Gs} {own : String} {cc : ByteArray} {nL d : Nat} {E : EE} (hE : Mach l G own cc nL d E) {pc : Nat} {lv : List (Nat × Value)} {st : List Value} {M : Mm} {k n : Nat} {i : Int32} {x : Int64} (hk : kd k = 13 ∧ ln k = n) (hin : vp_in i n) (hd : decode cc pc = .ok (.lastore, 1)) (kk : E (pc + 1) lv st (sl M k (tn i) x)) : E pc lv (.long x :: .int i :: rv G k :: st) M := by
  obtain ⟨p, e, R, s, m, args, below, meth, c, cs, sz, QF, hx, hb, hml, hown, hts, hK, hSt, hR, rfl⟩ := hE
  obtain ⟨hk, rfl⟩ := hk
  refine fun H locs ls hP hS hl => va_last hx hb hK.1 hP (cells_D hK.2.1 M) hS k 2 (by rw [cells_get G M (kd_lt (by rw [hk]; decide)), cel_13 G M hk]) rfl hin hd (fun H1 locs1 hP1 _ hS1 => kk H1 locs1 ls ?_ hS1 hl)
  rw [cells_set (M' := sl M k (tn i) x) (by rw [cel_13 G _ hk]; congr 5; funext b; simp only [vp_updL, gl_sl]; by_cases hb9 : b = tn i <;> simp [hb9]) (fun a ha => cel_sl G M ha)] at hP1
  exact hP1

theorem e_gald {l : Launch} {G : Gs} {own : String} {cc : ByteArray} {nL d : Nat} {E : EE} (hE : Mach l G own cc nL d E) {pc : Nat} {lv : List (Nat × Value)} {st : List Value} {M : Mm} {k n : Nat} {i : Int32} (hk : kd k = 17 ∧ ln k = n) (hin : vp_in i n) (hd : decode cc pc = .ok (.aaload, 1)) (kk : E (pc + 1) lv (rv G (k + 1 + tn i) :: st) M) : E pc lv (.int i :: rv G k :: st) M := by
  obtain ⟨p, e, R, s, m, args, below, meth, c, cs, sz, QF, hx, hb, hml, hown, hts, hK, hSt, hR, rfl⟩ := hE
  obtain ⟨hk, rfl⟩ := hk
  intro H locs ls hP hS hl
  have hlt : i.toNatClampNeg < ln k := Nat.not_le.mp fun q => hin (Or.inr q)
  have ha := hP k _ (by rw [cells_get G M (kd_lt (by rw [hk]; decide)), cel_17 G M hk])
  exact W.aald (v := rv G (k + 1 + tn i)) (ty := .array .int) hx hb ha ((hK.1.2 6 _ rfl).1 (ln k) (fun j => va_rf (some (ad G (k + 1 + j))))) rfl (fun q => by cases q) (by show ¬ (i < 0 ∨ (arrV _ _ _).slots.size ≤ _); rw [arrV_size]; exact hin) (by show (arrV _ _ _).slots[_]? = _; rw [arrV_read _ _ hlt]; rfl) rfl rfl hd (kk H locs ls hP hS hl)

theorem e_alen {l : Launch} {G : Gs} {own : String} {cc : ByteArray} {nL d : Nat} {E : EE} (hE : Mach l G own cc nL d E) {pc : Nat} {lv : List (Nat × Value)} {st : List Value} {M : Mm} {k n t0 : Nat} {x : vp_A} {cA : ClassId} {ty : FieldType} {v : Int32} (hk : k < 340) (hc : cel G M k = .inl (cA, x)) (ht : (tysG G)[t0]? = some (cA, ty)) (hv : Int32.ofNat x.1 = v) (hd : decode cc pc = .ok (.arraylength, 1)) (kk : E (pc + 1) lv (.int v :: st) M) : E pc lv (rv G k :: st) M := by
  obtain ⟨p, e, R, s, m, args, below, meth, c, cs, sz, QF, hx, hb, hml, hown, hts, hK, hSt, hR, rfl⟩ := hE
  exact fun H locs ls hP hS hl => va_alen hx hb hK.1 hP k t0 (by rw [cells_get G M hk, hc]) ht hv hd (kk H locs ls hP hS hl)

theorem e_ilen {l : Launch} {G : Gs} {own : String} {cc : ByteArray} {nL d : Nat} {E : EE} (hE : Mach l G own cc nL d E) {pc : Nat} {lv : List (Nat × Value)} {st : List Value} {M : Mm} {k n : Nat} (hk : kd k = 12 ∧ ln k = n) {v : Int32} (hv : Int32.ofNat n = v) (hd : decode cc pc = .ok (.arraylength, 1)) (kk : E (pc + 1) lv (.int v :: st) M) : E pc lv (rv G k :: st) M := by
  obtain ⟨hk, rfl⟩ := hk
  exact e_alen (n := 0) (t0 := 1) hE (kd_lt (by rw [hk]; decide)) (cel_12 G M hk) rfl hv hd kk

theorem e_getLETTERS {l : Launch} {G : Gs} {own : String} {cc : ByteArray} {nL d : Nat} {E : EE} (hE : Mach l G own cc nL d E) {pc : Nat} {lv : List (Nat × Value)} {st : List Value} {M : Mm} {ix : Nat} (hw : Cond.fieldLink own ix "RiverBureau$Chart" "LETTERS" "[I" ∈ gT) (hd : decode cc pc = .ok (.getstatic ix, 3)) (kk : E (pc + 3) lv (.ref (G.2.2.2 0) :: st) M) : E pc lv st M := by
  obtain ⟨p, e, R, s, m, args, below, meth, c, cs, sz, QF, hx, hb, hml, hown, hts, hK, hSt, hR, rfl⟩ := hE
  exact fun H locs ls hP hS hl => va_gets hx hb hSt.1 hS hown (hts _ hw) (fun _ h9 => h9) hd (kk H locs ls hP hS hl)
theorem e_aldLETTERS {l : Launch} {G : Gs} {own : String} {cc : ByteArray} {nL d : Nat} {E : EE} (hE : Mach l G own cc nL d E) {pc : Nat} {lv : List (Nat × Value)} {st : List Value} {M : Mm} {i : Int32} (hin : vp_in i 6) (hd : decode cc pc = .ok (.iaload, 1)) (kk : E (pc + 1) lv (.int (letT.getD (tn i) 0) :: st) M) : E pc lv (.int i :: .ref (G.2.2.2 0) :: st) M := by
  obtain ⟨p, e, R, s, m, args, below, meth, c, cs, sz, QF, hx, hb, hml, hown, hts, hK, hSt, hR, rfl⟩ := hE
  exact fun H locs ls hP hS hl => va_ti hx hb hSt.2.1 hS hin rfl hd (kk H locs ls hP hS hl)
theorem e_lenLETTERS {l : Launch} {G : Gs} {own : String} {cc : ByteArray} {nL d : Nat} {E : EE} (hE : Mach l G own cc nL d E) {pc : Nat} {lv : List (Nat × Value)} {st : List Value} {M : Mm} (hd : decode cc pc = .ok (.arraylength, 1)) (kk : E (pc + 1) lv (.int 6 :: st) M) : E pc lv (.ref (G.2.2.2 0) :: st) M := by
  obtain ⟨p, e, R, s, m, args, below, meth, c, cs, sz, QF, hx, hb, hml, hown, hts, hK, hSt, hR, rfl⟩ := hE
  exact fun H locs ls hP hS hl => va_tlen hx hb hSt.2.1 hS rfl hd (kk H locs ls hP hS hl)

theorem e_getPARENTS {l : Launch} {G : Gs} {own : String} {cc : ByteArray} {nL d : Nat} {E : EE} (hE : Mach l G own cc nL d E) {pc : Nat} {lv : List (Nat × Value)} {st : List Value} {M : Mm} {ix : Nat} (hw : Cond.fieldLink own ix "RiverBureau$Chart" "PARENTS" "[I" ∈ gT) (hd : decode cc pc = .ok (.getstatic ix, 3)) (kk : E (pc + 3) lv (.ref (G.2.2.2 1) :: st) M) : E pc lv st M := by
  obtain ⟨p, e, R, s, m, args, below, meth, c, cs, sz, QF, hx, hb, hml, hown, hts, hK, hSt, hR, rfl⟩ := hE
  exact fun H locs ls hP hS hl => va_gets hx hb hSt.2.2.1 hS hown (hts _ hw) (fun _ h9 => h9) hd (kk H locs ls hP hS hl)
theorem e_aldPARENTS {l : Launch} {G : Gs} {own : String} {cc : ByteArray} {nL d : Nat} {E : EE} (hE : Mach l G own cc nL d E) {pc : Nat} {lv : List (Nat × Value)} {st : List Value} {M : Mm} {i : Int32} (hin : vp_in i 6) (hd : decode cc pc = .ok (.iaload, 1)) (kk : E (pc + 1) lv (.int (parT.getD (tn i) 0) :: st) M) : E pc lv (.int i :: .ref (G.2.2.2 1) :: st) M := by
  obtain ⟨p, e, R, s, m, args, below, meth, c, cs, sz, QF, hx, hb, hml, hown, hts, hK, hSt, hR, rfl⟩ := hE
  exact fun H locs ls hP hS hl => va_ti hx hb hSt.2.2.2 hS hin rfl hd (kk H locs ls hP hS hl)
theorem e_lenPARENTS {l : Launch} {G : Gs} {own : String} {cc : ByteArray} {nL d : Nat} {E : EE} (hE : Mach l G own cc nL d E) {pc : Nat} {lv : List (Nat × Value)} {st : List Value} {M : Mm} (hd : decode cc pc = .ok (.arraylength, 1)) (kk : E (pc + 1) lv (.int 6 :: st) M) : E pc lv (.ref (G.2.2.2 1) :: st) M := by
  obtain ⟨p, e, R, s, m, args, below, meth, c, cs, sz, QF, hx, hb, hml, hown, hts, hK, hSt, hR, rfl⟩ := hE
  exact fun H locs ls hP hS hl => va_tlen hx hb hSt.2.2.2 hS rfl hd (kk H locs ls hP hS hl)

theorem e_mmax {l : Launch} {G : Gs} {own : String} {cc : ByteArray} {nL d : Nat} {E : EE} (hE : Mach l G own cc nL d E) {pc : Nat} {lv : List (Nat × Value)} {st : List Value} {M : Mm} {ix : Nat} {x y : Int32} (hd0 : 1 ≤ d) (hw : Cond.methodLink own ix Lib.Math.max.name ∈ gT) (h1 : Cond.static Lib.Math.max.name ∈ gT) (h2 : Cond.initialized "java/lang/Math" ∈ gT) (h3 : Cond.code Lib.Math.max.name Lib.Math.max.code 2 (some .int) ∈ gT) (hst : (st.map fun v => v.category).sum ≤ 8) (hd : decode cc pc = .ok (.invokestatic ix, 3)) (kk : E (pc + 3) lv (.int (if x < y then y else x) :: st) M) : E pc lv (.int y :: .int x :: st) M := by
  obtain ⟨p, e, R, s, m, args, below, meth, c, cs, sz, QF, hx, hb, hml, hown, hts, hK, hSt, hR, rfl⟩ := hE
  exact fun H locs ls hP hS hl => va_mmax hx hb (hml.trans hl.1.symm) hown (hts _ hw) (hts _ h1) (hts _ h2) (hts _ h3) (by omega) (by omega) hR.2.2.1 hR.2.2.2 hd (kk H locs ls hP hS hl)

theorem e_mmin {l : Launch} {G : Gs} {own : String} {cc : ByteArray} {nL d : Nat} {E : EE} (hE : Mach l G own cc nL d E) {pc : Nat} {lv : List (Nat × Value)} {st : List Value} {M : Mm} {ix : Nat} {x y : Int32} (hd0 : 1 ≤ d) (hw : Cond.methodLink own ix Lib.Math.min.name ∈ gT) (h1 : Cond.static Lib.Math.min.name ∈ gT) (h2 : Cond.initialized "java/lang/Math" ∈ gT) (h3 : Cond.code Lib.Math.min.name Lib.Math.min.code 2 (some .int) ∈ gT) (hst : (st.map fun v => v.category).sum ≤ 8) (hd : decode cc pc = .ok (.invokestatic ix, 3)) (kk : E (pc + 3) lv (.int (if y < x then y else x) :: st) M) : E pc lv (.int y :: .int x :: st) M := by
  obtain ⟨p, e, R, s, m, args, below, meth, c, cs, sz, QF, hx, hb, hml, hown, hts, hK, hSt, hR, rfl⟩ := hE
  exact fun H locs ls hP hS hl => va_mmin hx hb (hml.trans hl.1.symm) hown (hts _ hw) (hts _ h1) (hts _ h2) (hts _ h3) (by omega) (by omega) hR.2.2.1 hR.2.2.2 hd (kk H locs ls hP hS hl)

theorem e_acopy {l : Launch} {G : Gs} {own : String} {cc : ByteArray} {nL d : Nat} {E : EE} (hE : Mach l G own cc nL d E) {pc : Nat} {lv : List (Nat × Value)} {st : List Value} {M : Mm} {ix k0 k1 n0 n1 : Nat} {sp dp n : Int32} (hd0 : 1 ≤ d) (hw : Cond.methodLink own ix arraycopyName ∈ gT) (w1 : Cond.native arraycopyName ∈ gT) (w2 : Cond.static arraycopyName ∈ gT) (w3 : Cond.initialized "java/lang/System" ∈ gT) (hk0 : kd k0 = 12 ∧ ln k0 = n0) (hk1 : kd k1 = 12 ∧ ln k1 = n1) (h1 : ¬ sp < 0) (h2 : ¬ dp < 0) (h3 : ¬ n < 0) (h4 : tn sp + tn n ≤ n0) (h5 : tn dp + tn n ≤ n1) (hst : (st.map fun v => v.category).sum ≤ 8) (hd : decode cc pc = .ok (.invokestatic ix, 3)) (kk : E (pc + 3) lv st (cpi M k0 k1 (tn sp) (tn dp) (tn n))) : E pc lv (.int n :: .int dp :: rv G k1 :: .int sp :: rv G k0 :: st) M := by
  obtain ⟨p, e, R, s, m, args, below, meth, c, cs, sz, QF, hx, hb, hml, hown, hts, hK, hSt, hR, rfl⟩ := hE
  obtain ⟨hk0, rfl⟩ := hk0
  obtain ⟨hk1, rfl⟩ := hk1
  have hnf : nativeFrameWords "java/lang/System" "arraycopy" 5 + 11 ≤ 50 := by decide +kernel
  refine fun H locs ls hP hS hl => va_copyi hx hb (hml.trans hl.1.symm) hown (hts _ hw) (hts _ w1) (hts _ w2) (hts _ w3) hK.1 hP (cells_D hK.2.1 M) hS k0 k1 1 1 (by rw [cells_get G M (kd_lt (by rw [hk0]; decide)), cel_12 G M hk0]) (by rw [cells_get G M (kd_lt (by rw [hk1]; decide)), cel_12 G M hk1]) rfl rfl rfl h1 h2 h3 h4 h5 (fun _ _ => rfl) (by omega) (by omega) hd (fun H1 locs1 hP1 _ hS1 => kk H1 locs1 ls ?_ hS1 hl)
  rw [cells_set (M' := cpi M k0 k1 (tn sp) (tn dp) (tn n)) (by rw [cel_12 G _ hk1]; congr 4; funext b; rw [gi_cpi, if_pos rfl]) (fun a ha => cel_cpi G M ha)] at hP1
  exact hP1

set_option maxHeartbeats 1000000 in
theorem e_callVi {l : Launch} {G : Gs} {own : String} {cc : ByteArray} {nL d : Nat} {E : EE} (hE : Mach l G own cc nL (d + 1) E) {pc : Nat} {lv : List (Nat × Value)} {st : List Value} {M : Mm} {ix n mL b : Nat} {y : MethodName} {yc : ByteArray} {ret : Option FieldType} {Q : Int32 → Mm → Prop} {As : List Value} {st0 : List Value} (hC : CtI l G d y yc mL ret (rv G b :: As) M Q) (hcw : Cond.code y yc mL ret ∈ gT) (hn : As.length = n) (hy : y.cls ≠ "java/lang/invoke/MethodHandle" ∧ y.cls ≠ "java/lang/invoke/VarHandle" ∧ (parseMethodDescriptor y.desc).map (fun d => d.parameters.length) = some n) (hmL : mL ≤ 45) (hst : (st.map fun v => v.category).sum ≤ 8) {ci N : Nat} {C : String} {T : u_T} {fs : List Value} (hb9 : b < 340) (hcel : cel G M b = .inr (ci, fs)) (hcl : vwCl[ci]? = some (C, T, N)) (hyC : y.cls = C) (w1 : Cond.methodLink own ix y ∈ gT) (w2 : Cond.instanceMethod y ∈ gT) (w3 : Cond.selects C y y ∈ gT) (w4 : Cond.initialized C ∈ gT) (hst0 : st0 = As.reverse ++ rv G b :: st) (hd : decode cc pc = .ok (.invokevirtual ix, 3)) (kk : ∀ (r : Int32) (M2 : Mm), Q r M2 → E (pc + 3) lv (.int r :: st) M2) : E pc lv st0 M := by
  obtain ⟨p, e, R, s, m, args, below, meth, c, cs, sz, QF, hx, hb, hml, hown, hts, hK, hSt, hR, rfl⟩ := hE
  subst hst0
  refine fun H locs ls hP hS hl => va_calli (va_runV (As := As) (rest := st) (n := n) ⟨hx, hb, hml, hown, hts⟩ hC (cwV n hts (gT_good ?_) rfl rfl rfl ⟨hyC, hy⟩ ⟨by show d + 1 ≤ R.frames; omega, by show 8 + (mL + 11) + 64 * d ≤ R.locals; omega⟩) ⟨Pre.blind G M _, (va_recv hK.1 hP hcl (by rw [cells_get G M hb9, hcel])), fun U hU hW => ⟨rfl, by rw [hU]; exact hP, hK.warm hW, (by rw [hU]; exact (hSt.kept hS.2.1).moved hW.alike)⟩⟩ rfl hn hl.1 rfl (lv_room hst) hd ⟨hR.2.2.1, hR.2.2.2⟩) hS (fun q _ h => h) (fun q h => h) (fun r M2 t H1 locs1 ht _ hw2 hB _ _ hS1 => kk r M2 hw2 H1 locs1 ls (by rw [← ht]; exact hB) hS1 hl)
  intro w hw
  simp only [wsV, wT, List.mem_append, List.mem_cons, List.not_mem_nil, or_false] at hw
  rcases hw with (rfl | rfl | rfl | rfl) | (rfl | hw)
  · exact w1
  · exact w2
  · exact w3
  · exact w4
  · exact hcw
  · exact hw

set_option maxHeartbeats 1000000 in
theorem e_callSi {l : Launch} {G : Gs} {own : String} {cc : ByteArray} {nL d : Nat} {E : EE} (hE : Mach l G own cc nL (d + 1) E) {pc : Nat} {lv : List (Nat × Value)} {st : List Value} {M : Mm} {ix n mL b : Nat} {y : MethodName} {yc : ByteArray} {ret : Option FieldType} {Q : Int32 → Mm → Prop} {As : List Value} {st0 : List Value} (hC : CtI l G d y yc mL ret As M Q) (hcw : Cond.code y yc mL ret ∈ gT) (hn : As.length = n) (hy : y.cls ≠ "java/lang/invoke/MethodHandle" ∧ y.cls ≠ "java/lang/invoke/VarHandle" ∧ (parseMethodDescriptor y.desc).map (fun d => d.parameters.length) = some n) (hmL : mL ≤ 45) (hst : (st.map fun v => v.category).sum ≤ 8) (w1 : Cond.methodLink own ix y ∈ gT) (w2 : Cond.static y ∈ gT) (w4 : Cond.initialized y.cls ∈ gT) (hst0 : st0 = As.reverse ++ st) (hd : decode cc pc = .ok (.invokestatic ix, 3)) (kk : ∀ (r : Int32) (M2 : Mm), Q r M2 → E (pc + 3) lv (.int r :: st) M2) : E pc lv st0 M := by
  obtain ⟨p, e, R, s, m, args, below, meth, c, cs, sz, QF, hx, hb, hml, hown, hts, hK, hSt, hR, rfl⟩ := hE
  subst hst0
  refine fun H locs ls hP hS hl => va_calli (va_runS (As := As) (rest := st) (n := n) ⟨hx, hb, hml, hown, hts⟩ hC (va_cwS n hts (gT_good ?_) rfl rfl rfl hy ⟨by show d + 1 ≤ R.frames; omega, by show 8 + (mL + 11) + 64 * d ≤ R.locals; omega⟩) ⟨Pre.blind G M _, fun U hU hW => ⟨rfl, by rw [hU]; exact hP, hK.warm hW, (by rw [hU]; exact (hSt.kept hS.2.1).moved hW.alike)⟩⟩ rfl hn hl.1 rfl (lv_room hst) hd ⟨hR.2.2.1, hR.2.2.2⟩) hS (fun q _ h => h) (fun q h => h) (fun r M2 t H1 locs1 ht _ hw2 hB _ _ hS1 => kk r M2 hw2 H1 locs1 ls (by rw [← ht]; exact hB) hS1 hl)
  intro w hw
  simp only [va_wsS, wT, List.mem_append, List.mem_cons, List.not_mem_nil, or_false] at hw
  rcases hw with (rfl | rfl | rfl) | (rfl | hw)
  · exact w1
  · exact w2
  · exact w4
  · exact hcw
  · exact hw

set_option maxHeartbeats 1000000 in
theorem e_callNi {l : Launch} {G : Gs} {own : String} {cc : ByteArray} {nL d : Nat} {E : EE} (hE : Mach l G own cc nL (d + 1) E) {pc : Nat} {lv : List (Nat × Value)} {st : List Value} {M : Mm} {ix n mL b : Nat} {y : MethodName} {yc : ByteArray} {ret : Option FieldType} {Q : Int32 → Mm → Prop} {As : List Value} {st0 : List Value} (hC : CtI l G d y yc mL ret As M Q) (hcw : Cond.code y yc mL ret ∈ gT) (hn : As.length = n) (hy : y.cls ≠ "java/lang/invoke/MethodHandle" ∧ y.cls ≠ "java/lang/invoke/VarHandle" ∧ (parseMethodDescriptor y.desc).map (fun d => d.parameters.length) = some n) (hmL : mL ≤ 45) (hst : (st.map fun v => v.category).sum ≤ 8) {host : String} (w1 : Cond.methodLinkNest own ix y host ∈ nT) (w2 : Cond.static y ∈ gT) (w4 : Cond.initialized y.cls ∈ gT) (hst0 : st0 = As.reverse ++ st) (hd : decode cc pc = .ok (.invokestatic ix, 3)) (kk : ∀ (r : Int32) (M2 : Mm), Q r M2 → E (pc + 3) lv (.int r :: st) M2) : E pc lv st0 M := by
  obtain ⟨p, e, R, s, m, args, below, meth, c, cs, sz, QF, hx, hb, hml, hown, hts, hK, hSt, hR, rfl⟩ := hE
  subst hst0
  refine fun H locs ls hP hS hl => va_calli (va_runSN (As := As) (rest := st) (n := n) ⟨hx, hb, hml, hown, hts⟩ hC ⟨va_cnB n hts (gT_good ?_) rfl rfl rfl (hK.2.2 _ w1) (hts _ w4) hy ⟨by show d + 1 ≤ R.frames; omega, by show 8 + (mL + 11) + 64 * d ≤ R.locals; omega⟩, hts _ w2, trivial⟩ ⟨Pre.blind G M _, fun U hU hW => ⟨rfl, by rw [hU]; exact hP, hK.warm hW, (by rw [hU]; exact (hSt.kept hS.2.1).moved hW.alike)⟩⟩ rfl hn hl.1 rfl (lv_room hst) hd ⟨hR.2.2.1, hR.2.2.2⟩) hS (fun q _ h => h) (fun q h => h) (fun r M2 t H1 locs1 ht _ hw2 hB _ _ hS1 => kk r M2 hw2 H1 locs1 ls (by rw [← ht]; exact hB) hS1 hl)
  intro w hw
  simp only [wT, List.mem_cons] at hw
  rcases hw with rfl | hw
  · exact hcw
  · exact hw

set_option maxHeartbeats 1000000 in
theorem e_callVl {l : Launch} {G : Gs} {own : String} {cc : ByteArray} {nL d : Nat} {E : EE} (hE : Mach l G own cc nL (d + 1) E) {pc : Nat} {lv : List (Nat × Value)} {st : List Value} {M : Mm} {ix n mL b : Nat} {y : MethodName} {yc : ByteArray} {ret : Option FieldType} {Q : Int64 → Mm → Prop} {As : List Value} {st0 : List Value} (hC : CtL l G d y yc mL ret (rv G b :: As) M Q) (hcw : Cond.code y yc mL ret ∈ gT) (hn : As.length = n) (hy : y.cls ≠ "java/lang/invoke/MethodHandle" ∧ y.cls ≠ "java/lang/invoke/VarHandle" ∧ (parseMethodDescriptor y.desc).map (fun d => d.parameters.length) = some n) (hmL : mL ≤ 45) (hst : (st.map fun v => v.category).sum ≤ 8) {ci N : Nat} {C : String} {T : u_T} {fs : List Value} (hb9 : b < 340) (hcel : cel G M b = .inr (ci, fs)) (hcl : vwCl[ci]? = some (C, T, N)) (hyC : y.cls = C) (w1 : Cond.methodLink own ix y ∈ gT) (w2 : Cond.instanceMethod y ∈ gT) (w3 : Cond.selects C y y ∈ gT) (w4 : Cond.initialized C ∈ gT) (hst0 : st0 = As.reverse ++ rv G b :: st) (hd : decode cc pc = .ok (.invokevirtual ix, 3)) (kk : ∀ (r : Int64) (M2 : Mm), Q r M2 → E (pc + 3) lv (.long r :: st) M2) : E pc lv st0 M := by
  obtain ⟨p, e, R, s, m, args, below, meth, c, cs, sz, QF, hx, hb, hml, hown, hts, hK, hSt, hR, rfl⟩ := hE
  subst hst0
  refine fun H locs ls hP hS hl => va_calll (va_runV (As := As) (rest := st) (n := n) ⟨hx, hb, hml, hown, hts⟩ hC (cwV n hts (gT_good ?_) rfl rfl rfl ⟨hyC, hy⟩ ⟨by show d + 1 ≤ R.frames; omega, by show 8 + (mL + 11) + 64 * d ≤ R.locals; omega⟩) ⟨Pre.blind G M _, (va_recv hK.1 hP hcl (by rw [cells_get G M hb9, hcel])), fun U hU hW => ⟨rfl, by rw [hU]; exact hP, hK.warm hW, (by rw [hU]; exact (hSt.kept hS.2.1).moved hW.alike)⟩⟩ rfl hn hl.1 rfl (lv_room hst) hd ⟨hR.2.2.1, hR.2.2.2⟩) hS (fun q _ h => h) (fun q h => h) (fun r M2 t H1 locs1 ht _ hw2 hB _ _ hS1 => kk r M2 hw2 H1 locs1 ls (by rw [← ht]; exact hB) hS1 hl)
  intro w hw
  simp only [wsV, wT, List.mem_append, List.mem_cons, List.not_mem_nil, or_false] at hw
  rcases hw with (rfl | rfl | rfl | rfl) | (rfl | hw)
  · exact w1
  · exact w2
  · exact w3
  · exact w4
  · exact hcw
  · exact hw

set_option maxHeartbeats 1000000 in
theorem e_callSl {l : Launch} {G : Gs} {own : String} {cc : ByteArray} {nL d : Nat} {E : EE} (hE : Mach l G own cc nL (d + 1) E) {pc : Nat} {lv : List (Nat × Value)} {st : List Value} {M : Mm} {ix n mL b : Nat} {y : MethodName} {yc : ByteArray} {ret : Option FieldType} {Q : Int64 → Mm → Prop} {As : List Value} {st0 : List Value} (hC : CtL l G d y yc mL ret As M Q) (hcw : Cond.code y yc mL ret ∈ gT) (hn : As.length = n) (hy : y.cls ≠ "java/lang/invoke/MethodHandle" ∧ y.cls ≠ "java/lang/invoke/VarHandle" ∧ (parseMethodDescriptor y.desc).map (fun d => d.parameters.length) = some n) (hmL : mL ≤ 45) (hst : (st.map fun v => v.category).sum ≤ 8) (w1 : Cond.methodLink own ix y ∈ gT) (w2 : Cond.static y ∈ gT) (w4 : Cond.initialized y.cls ∈ gT) (hst0 : st0 = As.reverse ++ st) (hd : decode cc pc = .ok (.invokestatic ix, 3)) (kk : ∀ (r : Int64) (M2 : Mm), Q r M2 → E (pc + 3) lv (.long r :: st) M2) : E pc lv st0 M := by
  obtain ⟨p, e, R, s, m, args, below, meth, c, cs, sz, QF, hx, hb, hml, hown, hts, hK, hSt, hR, rfl⟩ := hE
  subst hst0
  refine fun H locs ls hP hS hl => va_calll (va_runS (As := As) (rest := st) (n := n) ⟨hx, hb, hml, hown, hts⟩ hC (va_cwS n hts (gT_good ?_) rfl rfl rfl hy ⟨by show d + 1 ≤ R.frames; omega, by show 8 + (mL + 11) + 64 * d ≤ R.locals; omega⟩) ⟨Pre.blind G M _, fun U hU hW => ⟨rfl, by rw [hU]; exact hP, hK.warm hW, (by rw [hU]; exact (hSt.kept hS.2.1).moved hW.alike)⟩⟩ rfl hn hl.1 rfl (lv_room hst) hd ⟨hR.2.2.1, hR.2.2.2⟩) hS (fun q _ h => h) (fun q h => h) (fun r M2 t H1 locs1 ht _ hw2 hB _ _ hS1 => kk r M2 hw2 H1 locs1 ls (by rw [← ht]; exact hB) hS1 hl)
  intro w hw
  simp only [va_wsS, wT, List.mem_append, List.mem_cons, List.not_mem_nil, or_false] at hw
  rcases hw with (rfl | rfl | rfl) | (rfl | hw)
  · exact w1
  · exact w2
  · exact w4
  · exact hcw
  · exact hw

set_option maxHeartbeats 1000000 in
theorem e_callNl {l : Launch} {G : Gs} {own : String} {cc : ByteArray} {nL d : Nat} {E : EE} (hE : Mach l G own cc nL (d + 1) E) {pc : Nat} {lv : List (Nat × Value)} {st : List Value} {M : Mm} {ix n mL b : Nat} {y : MethodName} {yc : ByteArray} {ret : Option FieldType} {Q : Int64 → Mm → Prop} {As : List Value} {st0 : List Value} (hC : CtL l G d y yc mL ret As M Q) (hcw : Cond.code y yc mL ret ∈ gT) (hn : As.length = n) (hy : y.cls ≠ "java/lang/invoke/MethodHandle" ∧ y.cls ≠ "java/lang/invoke/VarHandle" ∧ (parseMethodDescriptor y.desc).map (fun d => d.parameters.length) = some n) (hmL : mL ≤ 45) (hst : (st.map fun v => v.category).sum ≤ 8) {host : String} (w1 : Cond.methodLinkNest own ix y host ∈ nT) (w2 : Cond.static y ∈ gT) (w4 : Cond.initialized y.cls ∈ gT) (hst0 : st0 = As.reverse ++ st) (hd : decode cc pc = .ok (.invokestatic ix, 3)) (kk : ∀ (r : Int64) (M2 : Mm), Q r M2 → E (pc + 3) lv (.long r :: st) M2) : E pc lv st0 M := by
  obtain ⟨p, e, R, s, m, args, below, meth, c, cs, sz, QF, hx, hb, hml, hown, hts, hK, hSt, hR, rfl⟩ := hE
  subst hst0
  refine fun H locs ls hP hS hl => va_calll (va_runSN (As := As) (rest := st) (n := n) ⟨hx, hb, hml, hown, hts⟩ hC ⟨va_cnB n hts (gT_good ?_) rfl rfl rfl (hK.2.2 _ w1) (hts _ w4) hy ⟨by show d + 1 ≤ R.frames; omega, by show 8 + (mL + 11) + 64 * d ≤ R.locals; omega⟩, hts _ w2, trivial⟩ ⟨Pre.blind G M _, fun U hU hW => ⟨rfl, by rw [hU]; exact hP, hK.warm hW, (by rw [hU]; exact (hSt.kept hS.2.1).moved hW.alike)⟩⟩ rfl hn hl.1 rfl (lv_room hst) hd ⟨hR.2.2.1, hR.2.2.2⟩) hS (fun q _ h => h) (fun q h => h) (fun r M2 t H1 locs1 ht _ hw2 hB _ _ hS1 => kk r M2 hw2 H1 locs1 ls (by rw [← ht]; exact hB) hS1 hl)
  intro w hw
  simp only [wT, List.mem_cons] at hw
  rcases hw with rfl | hw
  · exact hcw
  · exact hw

set_option maxHeartbeats 1000000 in
theorem e_callVv {l : Launch} {G : Gs} {own : String} {cc : ByteArray} {nL d : Nat} {E : EE} (hE : Mach l G own cc nL (d + 1) E) {pc : Nat} {lv : List (Nat × Value)} {st : List Value} {M : Mm} {ix n mL b : Nat} {y : MethodName} {yc : ByteArray} {ret : Option FieldType} {Q : Mm → Prop} {As : List Value} {st0 : List Value} (hC : CtV l G d y yc mL ret (rv G b :: As) M Q) (hcw : Cond.code y yc mL ret ∈ gT) (hn : As.length = n) (hy : y.cls ≠ "java/lang/invoke/MethodHandle" ∧ y.cls ≠ "java/lang/invoke/VarHandle" ∧ (parseMethodDescriptor y.desc).map (fun d => d.parameters.length) = some n) (hmL : mL ≤ 45) (hst : (st.map fun v => v.category).sum ≤ 8) {ci N : Nat} {C : String} {T : u_T} {fs : List Value} (hb9 : b < 340) (hcel : cel G M b = .inr (ci, fs)) (hcl : vwCl[ci]? = some (C, T, N)) (hyC : y.cls = C) (w1 : Cond.methodLink own ix y ∈ gT) (w2 : Cond.instanceMethod y ∈ gT) (w3 : Cond.selects C y y ∈ gT) (w4 : Cond.initialized C ∈ gT) (hst0 : st0 = As.reverse ++ rv G b :: st) (hd : decode cc pc = .ok (.invokevirtual ix, 3)) (kk : ∀ (M2 : Mm), Q M2 → E (pc + 3) lv st M2) : E pc lv st0 M := by
  obtain ⟨p, e, R, s, m, args, below, meth, c, cs, sz, QF, hx, hb, hml, hown, hts, hK, hSt, hR, rfl⟩ := hE
  subst hst0
  refine fun H locs ls hP hS hl => va_callv (va_runV (As := As) (rest := st) (n := n) ⟨hx, hb, hml, hown, hts⟩ hC (cwV n hts (gT_good ?_) rfl rfl rfl ⟨hyC, hy⟩ ⟨by show d + 1 ≤ R.frames; omega, by show 8 + (mL + 11) + 64 * d ≤ R.locals; omega⟩) ⟨Pre.blind G M _, (va_recv hK.1 hP hcl (by rw [cells_get G M hb9, hcel])), fun U hU hW => ⟨rfl, by rw [hU]; exact hP, hK.warm hW, (by rw [hU]; exact (hSt.kept hS.2.1).moved hW.alike)⟩⟩ rfl hn hl.1 rfl (lv_room hst) hd ⟨hR.2.2.1, hR.2.2.2⟩) hS (fun q _ h => h) (fun q h => h) (fun  M2 t H1 locs1 ht _ hw2 hB _ _ hS1 => kk  M2 hw2 H1 locs1 ls (by rw [← ht]; exact hB) hS1 hl)
  intro w hw
  simp only [wsV, wT, List.mem_append, List.mem_cons, List.not_mem_nil, or_false] at hw
  rcases hw with (rfl | rfl | rfl | rfl) | (rfl | hw)
  · exact w1
  · exact w2
  · exact w3
  · exact w4
  · exact hcw
  · exact hw

set_option maxHeartbeats 1000000 in
theorem e_callSv {l : Launch} {G : Gs} {own : String} {cc : ByteArray} {nL d : Nat} {E : EE} (hE : Mach l G own cc nL (d + 1) E) {pc : Nat} {lv : List (Nat × Value)} {st : List Value} {M : Mm} {ix n mL b : Nat} {y : MethodName} {yc : ByteArray} {ret : Option FieldType} {Q : Mm → Prop} {As : List Value} {st0 : List Value} (hC : CtV l G d y yc mL ret As M Q) (hcw : Cond.code y yc mL ret ∈ gT) (hn : As.length = n) (hy : y.cls ≠ "java/lang/invoke/MethodHandle" ∧ y.cls ≠ "java/lang/invoke/VarHandle" ∧ (parseMethodDescriptor y.desc).map (fun d => d.parameters.length) = some n) (hmL : mL ≤ 45) (hst : (st.map fun v => v.category).sum ≤ 8) (w1 : Cond.methodLink own ix y ∈ gT) (w2 : Cond.static y ∈ gT) (w4 : Cond.initialized y.cls ∈ gT) (hst0 : st0 = As.reverse ++ st) (hd : decode cc pc = .ok (.invokestatic ix, 3)) (kk : ∀ (M2 : Mm), Q M2 → E (pc + 3) lv st M2) : E pc lv st0 M := by
  obtain ⟨p, e, R, s, m, args, below, meth, c, cs, sz, QF, hx, hb, hml, hown, hts, hK, hSt, hR, rfl⟩ := hE
  subst hst0
  refine fun H locs ls hP hS hl => va_callv (va_runS (As := As) (rest := st) (n := n) ⟨hx, hb, hml, hown, hts⟩ hC (va_cwS n hts (gT_good ?_) rfl rfl rfl hy ⟨by show d + 1 ≤ R.frames; omega, by show 8 + (mL + 11) + 64 * d ≤ R.locals; omega⟩) ⟨Pre.blind G M _, fun U hU hW => ⟨rfl, by rw [hU]; exact hP, hK.warm hW, (by rw [hU]; exact (hSt.kept hS.2.1).moved hW.alike)⟩⟩ rfl hn hl.1 rfl (lv_room hst) hd ⟨hR.2.2.1, hR.2.2.2⟩) hS (fun q _ h => h) (fun q h => h) (fun  M2 t H1 locs1 ht _ hw2 hB _ _ hS1 => kk  M2 hw2 H1 locs1 ls (by rw [← ht]; exact hB) hS1 hl)
  intro w hw
  simp only [va_wsS, wT, List.mem_append, List.mem_cons, List.not_mem_nil, or_false] at hw
  rcases hw with (rfl | rfl | rfl) | (rfl | hw)
  · exact w1
  · exact w2
  · exact w4
  · exact hcw
  · exact hw

set_option maxHeartbeats 1000000 in
theorem e_callNv {l : Launch} {G : Gs} {own : String} {cc : ByteArray} {nL d : Nat} {E : EE} (hE : Mach l G own cc nL (d + 1) E) {pc : Nat} {lv : List (Nat × Value)} {st : List Value} {M : Mm} {ix n mL b : Nat} {y : MethodName} {yc : ByteArray} {ret : Option FieldType} {Q : Mm → Prop} {As : List Value} {st0 : List Value} (hC : CtV l G d y yc mL ret As M Q) (hcw : Cond.code y yc mL ret ∈ gT) (hn : As.length = n) (hy : y.cls ≠ "java/lang/invoke/MethodHandle" ∧ y.cls ≠ "java/lang/invoke/VarHandle" ∧ (parseMethodDescriptor y.desc).map (fun d => d.parameters.length) = some n) (hmL : mL ≤ 45) (hst : (st.map fun v => v.category).sum ≤ 8) {host : String} (w1 : Cond.methodLinkNest own ix y host ∈ nT) (w2 : Cond.static y ∈ gT) (w4 : Cond.initialized y.cls ∈ gT) (hst0 : st0 = As.reverse ++ st) (hd : decode cc pc = .ok (.invokestatic ix, 3)) (kk : ∀ (M2 : Mm), Q M2 → E (pc + 3) lv st M2) : E pc lv st0 M := by
  obtain ⟨p, e, R, s, m, args, below, meth, c, cs, sz, QF, hx, hb, hml, hown, hts, hK, hSt, hR, rfl⟩ := hE
  subst hst0
  refine fun H locs ls hP hS hl => va_callv (va_runSN (As := As) (rest := st) (n := n) ⟨hx, hb, hml, hown, hts⟩ hC ⟨va_cnB n hts (gT_good ?_) rfl rfl rfl (hK.2.2 _ w1) (hts _ w4) hy ⟨by show d + 1 ≤ R.frames; omega, by show 8 + (mL + 11) + 64 * d ≤ R.locals; omega⟩, hts _ w2, trivial⟩ ⟨Pre.blind G M _, fun U hU hW => ⟨rfl, by rw [hU]; exact hP, hK.warm hW, (by rw [hU]; exact (hSt.kept hS.2.1).moved hW.alike)⟩⟩ rfl hn hl.1 rfl (lv_room hst) hd ⟨hR.2.2.1, hR.2.2.2⟩) hS (fun q _ h => h) (fun q h => h) (fun  M2 t H1 locs1 ht _ hw2 hB _ _ hS1 => kk  M2 hw2 H1 locs1 ls (by rw [← ht]; exact hB) hS1 hl)
  intro w hw
  simp only [wT, List.mem_cons] at hw
  rcases hw with rfl | hw
  · exact hcw
  · exact hw
