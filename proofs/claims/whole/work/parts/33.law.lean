def MachL (l : Launch) (G : Gs) (d : Nat) (b L : Nat) (xs : Nat → Int32) (E : EE) : Prop :=
  ∃ (p : Program) (e : Env) (R : Room) (s : State) (m : MethodId) (args : Array Value) (below : List Frame) (meth : Method) (c : Code) (cs sz : Nat) (QF : State → Prop),
    p.tables.exec = Jvm.exec ∧ c.code = cL_law ∧ c.maxLocals = 4 ∧ s.vm.findClass RL = some m.cls ∧ (∀ w ∈ gT, w.before args s = true) ∧ KK G s ∧ St G s s.heap ∧ (d ≤ R.frames ∧ 64 * d ≤ R.locals ∧ cs ≤ R.cells ∧ sz ≤ R.slots) ∧ (va_X b L xs s s.heap ∧ b < s.heap.size ∧ ¬ AA G b) ∧ E = VV p l e R s m args below meth c cs sz 4 G QF
theorem MachL.mach {l : Launch} {G : Gs} {d b L : Nat} {xs : Nat → Int32} {E : EE} (h : MachL l G d b L xs E) : Mach l G RL cL_law 4 d E := by
  obtain ⟨p, e, R, s, m, args, below, meth, c, cs, sz, QF, hx, hb, hml, hown, hts, hK, hSt, hR, -, hE⟩ := h
  exact ⟨p, e, R, s, m, args, below, meth, c, cs, sz, QF, hx, hb, hml, hown, hts, hK, hSt, hR, hE⟩
theorem e_sld {l : Launch} {G : Gs} {d b L : Nat} {xs : Nat → Int32} {E : EE} {pc : Nat} {lv : List (Nat × Value)} {st : List Value} {M : Mm} {i : Int32} (hE : MachL l G d b L xs E) (hin : vp_in i L) (hd : decode cL_law pc = .ok (.iaload, 1)) (kk : E (pc + 1) lv (.int (xs (tn i)) :: st) M) : E pc lv (.int i :: .ref b :: st) M := by
  obtain ⟨p, e, R, s, m, args, below, meth, c, cs, sz, QF, hx, hb, hml, hown, hts, hK, hSt, hR, hX, rfl⟩ := hE
  exact fun H locs ls hP hS hl => va_sld hx hb hX.1 hX.2.1 hX.2.2 hS hin hd (kk H locs ls hP hS hl)
theorem e_slen {l : Launch} {G : Gs} {d b L : Nat} {xs : Nat → Int32} {E : EE} {pc : Nat} {lv : List (Nat × Value)} {st : List Value} {M : Mm} (hE : MachL l G d b L xs E) (hd : decode cL_law pc = .ok (.arraylength, 1)) (kk : E (pc + 1) lv (.int (Int32.ofNat L) :: st) M) : E pc lv (.ref b :: st) M := by
  obtain ⟨p, e, R, s, m, args, below, meth, c, cs, sz, QF, hx, hb, hml, hown, hts, hK, hSt, hR, hX, rfl⟩ := hE
  exact fun H locs ls hP hS hl => va_slen hx hb hX.1 hX.2.1 hX.2.2 hS hd (kk H locs ls hP hS hl)
