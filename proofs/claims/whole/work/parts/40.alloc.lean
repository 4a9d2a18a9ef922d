
abbrev Gd : Type := va_G × (Nat → ClassId)
def tysD (C : Gd) : List (ClassId × FieldType) := [(C.2 11, .byte), (C.2 12, .int), (C.2 13, .long), (C.2 14, .boolean), (C.2 15, .object "RiverBureau$Flow"), (C.2 16, .object "RiverBureau$Kept"), (C.2 17, .array .int)]
def sgf (z N : Nat) (cf : Nat → va_E) : va_W := (List.range N).map (fun k => (z + k, cf k))
theorem sgf_get (z : Nat) {N k : Nat} (cf : Nat → va_E) (h : k < N) : (sgf z N cf)[k]? = some (z + k, cf k) := by
  unfold sgf
  rw [List.getElem?_map, List.getElem?_range h]
  rfl
theorem sgf_none (z : Nat) {N k : Nat} (cf : Nat → va_E) (h : ¬ k < N) : (sgf z N cf)[k]? = none := by
  apply List.getElem?_eq_none
  unfold sgf
  rw [List.length_map, List.length_range]
  omega
theorem sgf_len (z N : Nat) (cf : Nat → va_E) : (sgf z N cf).length = N := by unfold sgf; rw [List.length_map, List.length_range]
theorem sgf_set (z : Nat) {N k : Nat} (cf : Nat → va_E) (e : va_E) : (sgf z N cf).set k (z + k, e) = sgf z N (va_up cf k e) := by
  apply List.ext_getElem?
  intro i
  by_cases hi : i < N
  · rw [List.getElem?_set, sgf_get z _ hi, sgf_get z _ hi, sgf_len]
    by_cases e1 : k = i
    · subst e1; simp [hi, va_up]
    · rw [if_neg e1]; simp only [va_up, if_neg (fun q : i = k => e1 q.symm)]
  · rw [sgf_none z _ hi, List.getElem?_set, sgf_none z _ hi, sgf_len]
    by_cases e1 : k = i
    · rw [if_pos e1, if_neg (by omega)]
    · rw [if_neg e1]
theorem sgf_D (z N : Nat) (cf : Nat → va_E) : va_D (fun q => z ≤ q) (sgf z N cf) := by
  refine ⟨fun i j p q hi hj e => ?_, fun k q hk => ?_⟩
  · by_cases h1 : i < N
    · by_cases h2 : j < N
      · rw [sgf_get z _ h1] at hi
        rw [sgf_get z _ h2] at hj
        cases hi; cases hj
        have e : z + i = z + j := e
        omega
      · rw [sgf_none z _ h2] at hj; cases hj
    · rw [sgf_none z _ h1] at hi; cases hi
  · by_cases h1 : k < N
    · rw [sgf_get z _ h1] at hk
      cases hk
      exact Nat.le_add_right z k
    · rw [sgf_none z _ h1] at hk; cases hk
theorem sgf_P {D : va_G} {z N : Nat} {cf : Nat → va_E} {H : Heap} (h : ∀ k, k < N → va_at D vwCl (z + k, cf k) H) : va_P D vwCl (sgf z N cf) H := by
  intro k q hk
  by_cases h1 : k < N
  · rw [sgf_get z _ h1] at hk
    cases hk
    exact h k h1
  · rw [sgf_none z _ h1] at hk; cases hk
theorem sgf_at {D : va_G} {z N k : Nat} {cf : Nat → va_E} {H : Heap} (h : va_P D vwCl (sgf z N cf) H) (hk : k < N) : va_at D vwCl (z + k, cf k) H := h k _ (sgf_get z cf hk)
/-- a new cell at the end -/
theorem sgf_push {D : va_G} {z N : Nat} {cf : Nat → va_E} {e : va_E} {H H1 : Heap} (hP : va_P D vwCl (sgf z N cf) H) (ho : ∀ q, q < z + N → H1[q]? = H[q]?) (hn : va_at D vwCl (z + N, e) H1) : va_P D vwCl (sgf z (N + 1) (va_up cf N e)) H1 := by
  refine sgf_P fun k hk => ?_
  by_cases h1 : k = N
  · subst h1; simpa [va_up] using hn
  · have h2 : k < N := by omega
    have h3 := sgf_at hP h2
    simp only [va_up, if_neg h1]
    exact h3.kept (ho _ (by show z + k < z + N; omega))
def aoA (U : State) : Prop := (Cond.arrayOver (.array .int)).before #[] U = true
theorem aoA.use {A : Array Value} {U : State} (h : aoA U) : (Cond.arrayOver (.array .int)).before A U = true := h
theorem aoA.moved {u U : State} (hvm : u.vm.Alike U.vm) (h : aoA u) : aoA U := by
  obtain ⟨comp, hc, c, hi, k, hk, hb⟩ : ∃ comp, u.vm.findClass (FieldType.array .int).toString = some comp ∧ ∃ c, (u.vm.classes.findIdx? fun (x : Class) => match x.kind with | .array component _ => component == comp | _ => false) = some c ∧ ∃ k, u.vm.classes[c]? = some k ∧ (match k.kind with | .array _ ty => decide (ty = FieldType.array .int) && decide (u.vm.findClass ("[" ++ (FieldType.array .int).toString) = some c) | _ => false) = true := by
    unfold aoA Cond.before Cond.holds at h
    simp only [Cond.value, beq_iff_eq] at h
    cases hc : u.vm.findClass (FieldType.array .int).toString with
    | none => rw [hc] at h; simp at h
    | some comp =>
      rw [hc] at h
      simp only [Option.bind_some, Option.bind_eq_some_iff, Option.map_eq_some_iff] at h
      obtain ⟨c, hi, k, hk, hb⟩ := h
      exact ⟨comp, rfl, c, hi, k, hk, hb⟩
  obtain ⟨k', hk', he⟩ := hvm.2.2 _ _ hk
  have hi2 : (U.vm.classes.findIdx? fun (x : Class) => match x.kind with | .array component _ => component == comp | _ => false) = some c := by
    have a1 := va_idx_bare U.vm comp
    have a2 := va_idx_bare u.vm comp
    first | rw [← hvm.bare_eq, a2] at a1 | rw [hvm.bare_eq, a2] at a1
    exact a1.symm.trans hi
  have f1 : U.vm.findClass (FieldType.array .int).toString = some comp := by rw [hvm.findClass]; exact hc
  have hb2 : (match k'.kind with | .array _ ty => decide (ty = FieldType.array .int) && decide (U.vm.findClass ("[" ++ (FieldType.array .int).toString) = some c) | _ => false) = true := by
    rw [hvm.findClass, he]; exact hb
  unfold aoA Cond.before Cond.holds
  simp only [Cond.value, beq_iff_eq]
  rw [f1]
  simp only [Option.bind_some, Option.bind_eq_some_iff, Option.map_eq_some_iff]
  exact ⟨c, hi2, k', hk', hb2⟩
def KA (C : Gd) (U : State) : Prop := va_K C.1 vwCl (tysD C) U ∧ (∀ w ∈ nT, va_Nw w U) ∧ va_AO "RiverBureau$Flow" U ∧ va_AO "RiverBureau$Kept" U ∧ aoA U
theorem KA.warm {C : Gd} {s U : State} (hW : s.WarmedH U.vm) (h : KA C s) : KA C U := ⟨va_K.moved hW.alike h.1, nT_warm hW h.2.1, h.2.2.1.moved hW.alike, h.2.2.2.1.moved hW.alike, h.2.2.2.2.moved hW.alike⟩
def PreA (C : Gd) (z N : Nat) (cf : Nat → va_E) (U : State) : Prop := U.heap.size = z + N ∧ va_P C.1 vwCl (sgf z N cf) U.heap ∧ KA C U
abbrev PstA (C : Gd) (z N : Nat) (cf : Nat → va_E) (t : State) : Prop := t.heap.size = z + N ∧ va_P C.1 vwCl (sgf z N cf) t.heap
theorem PreA.blind (C : Gd) (z N : Nat) (cf : Nat → va_E) (av : List Value) : FrameBlind (va_Pc av (PreA C z N cf)) := by
  intro a U g mk q
  obtain ⟨q0, qz, qP, qK, qN, q1, q2, q3⟩ := q
  exact ⟨q0, qz, qP, va_K.moved (u := U) (U := U.calling g mk a) (Vm.Alike.refl U.vm) qK, nT_same (s := U) (U := U.calling g mk a) rfl qN, va_AO.moved (u := U) (U := U.calling g mk a) (Vm.Alike.refl U.vm) q1, va_AO.moved (u := U) (U := U.calling g mk a) (Vm.Alike.refl U.vm) q2, aoA.moved (u := U) (U := U.calling g mk a) (Vm.Alike.refl U.vm) q3⟩
def rma (d mc ms : Nat) : Room := { frames := d, cells := mc, slots := ms, locals := 64 * d }
def CtA (l : Launch) (C : Gd) (d mc ms : Nat) (y : MethodName) (cc : ByteArray) (n : Nat) (av : List Value) (z N : Nat) (cf : Nat → va_E) (N' : Nat) (cf' : Nat → va_E) : Prop :=
  Met l y (wT y cc n none) (rma d mc ms) (va_Pc av (PreA C z N cf)) (va_Qv (fun _ : Unit => True) (fun _ t => PstA C z N' cf' t) (fun q => z ≤ q)) mc ms (fun q => z ≤ q)
abbrev EA : Type := Nat → List (Nat × Value) → List Value → Nat → (Nat → va_E) → Nat → Nat → Prop
def VB (p : Program) (l : Launch) (e : Env) (R : Room) (s : State) (m : MethodId) (args : Array Value) (below : List Frame) (meth : Method) (c : Code) (nL z : Nat) (C : Gd) (QF : State → Prop) : EA :=
  fun pc lv st N cf cs sz => ∀ (H : Heap) (locs : List Loc) (ls : Array Slot), H.size = z + N → va_P C.1 vwCl (sgf z N cf) H → va_S (fun q => z ≤ q) s.heap H locs → lv_has ls nL lv → W p l e R s m args below meth c H locs cs sz QF (F0 m pc ls st)
def MaA (l : Launch) (C : Gd) (own : String) (cc : ByteArray) (nL d z mc ms : Nat) (E : EA) : Prop :=
  ∃ (p : Program) (e : Env) (R : Room) (s : State) (m : MethodId) (args : Array Value) (below : List Frame) (meth : Method) (c : Code) (QF : State → Prop),
    p.tables.exec = Jvm.exec ∧ c.code = cc ∧ c.maxLocals = nL ∧ s.vm.findClass own = some m.cls ∧ (∀ w ∈ gT, w.before args s = true) ∧ KA C s ∧ (own ≠ RL ∧ own ≠ RJ7 → meth.name = "<init>") ∧ (d ≤ R.frames ∧ 64 * d ≤ R.locals ∧ mc ≤ R.cells ∧ ms ≤ R.slots) ∧ z ≤ s.heap.size ∧ E = VB p l e R s m args below meth c nL z C QF
def RtA (cc : ByteArray) (E : EA) (mc ms N' : Nat) (cf' : Nat → va_E) : Prop := ∀ {pc : Nat} {lv : List (Nat × Value)} {N cs sz : Nat} {cf : Nat → va_E}, decode cc pc = .ok (.return_, 1) → cs ≤ mc → sz ≤ ms → N = N' → (∀ k, k < N' → cf k = cf' k) → E pc lv [] N cf cs sz
theorem sgf_congr {z N : Nat} {cf cf' : Nat → va_E} (h : ∀ k, k < N → cf k = cf' k) : sgf z N cf = sgf z N cf' := by
  unfold sgf
  apply List.map_congr_left
  intro k hk
  rw [h k (List.mem_range.mp hk)]
set_option maxHeartbeats 4000000 in
theorem CtA.mk {l : Launch} {C : Gd} {d mc ms : Nat} {y : MethodName} {cc : ByteArray} {n : Nat} {av : List Value} {z N N' : Nat} {cf cf' : Nat → va_E} {own : String} (hy : plainName y.cls = true) (ho : y.cls = own) (hi : y.name = "<init>" ∨ own = RJ7) (hlen : (lg_sl av).length ≤ n)
    (h : ∀ E : EA, MaA l C own cc n d z mc ms E → RtA cc E mc ms N' cf' → E 0 (lv_args 0 av) [] N cf 0 0) : CtA l C d mc ms y cc n av z N cf N' cf' := by
  subst ho
  refine Met.ofW (cc := cc) (maxL := n) (ret := none) hy rfl ?_
  intro p e s m args below meth c s₁ B hml hv
  obtain ⟨rfl, hsz, hP, hK⟩ := hv
  have hts : ∀ w ∈ gT, w.before av.toArray s = true := fun w hw => atoms_spec (ws := wT y cc n none) B.pre w (List.mem_cons_of_mem _ hw)
  have hown : s.vm.findClass y.cls = some m.cls := findClass_of_methodNamed B.named
  have hr := B.returns
  have hlocks := B.notSynchronized
  have hnm : meth.name = y.name := (name_of_methodNamed B.named B.method).1
  have h0 := h (VB p l e (headSpec (wT y cc n none) (rma d mc ms)).room s m av.toArray below meth c n z C (MQ below (va_Qv (fun _ : Unit => True) (fun _ t => PstA C z N' cf' t) (fun q => z ≤ q)) av.toArray s mc ms (fun q => z ≤ q)))
    ⟨p, e, _, s, m, av.toArray, below, meth, c, _, B.exec, B.bytes, hml, hown, hts, hK, (fun q => by rcases hi with hi | hi; exact hnm.trans hi; exact (q.2 hi).elim), ⟨Nat.le_refl d, Nat.le_refl _, Nat.le_refl _, Nat.le_refl _⟩, by rw [hsz]; exact Nat.le_add_right _ _, rfl⟩ ?_
  · have hl := lv_entry av (n := n) hlen
    rw [lg_entry_eq]
    exact h0 s.heap [] _ hsz hP va_S.rf hl
  · intro pc lv N2 cs sz cf2 hd h1 h2 h3 h4 H locs ls hz2 hP2 hS2 hl2
    subst h3
    refine W.widen (k := mc) (n := ms) h1 h2 ?_
    exact W.vret B.exec B.bytes hr (fun t ht hW => ⟨⟨(), rfl, trivial, by rw [ht]; exact hz2, by rw [ht, ← sgf_congr h4]; exact hP2⟩, hS2.F ht⟩) hS2.2.2 hd
theorem a_iconst {l : Launch} {C : Gd} {own : String} {cc : ByteArray} {nL d z mc ms : Nat} {E : EA} (hE : MaA l C own cc nL d z mc ms E) {pc : Nat} {lv : List (Nat × Value)} {st : List Value} {N cs sz : Nat} {cf : Nat → va_E} {n : Int} {v : Int32} (hv : Int32.ofInt n = v) (hd : decode cc pc = .ok (.iconst n, 1)) (kk : E (pc + 1) lv (.int v :: st) N cf cs sz) : E pc lv (st) N cf cs sz := by
  obtain ⟨p, e, R, s, m, args, below, meth, c, QF, hx, hb, hml, hown, hts, hK, hin2, hR, hz, rfl⟩ := hE
  exact fun H locs ls hz2 hP hS hl => lv_iconst hx hb hd hv (kk H locs ls hz2 hP hS hl)

theorem a_bipush {l : Launch} {C : Gd} {own : String} {cc : ByteArray} {nL d z mc ms : Nat} {E : EA} (hE : MaA l C own cc nL d z mc ms E) {pc : Nat} {lv : List (Nat × Value)} {st : List Value} {N cs sz : Nat} {cf : Nat → va_E} {n : Int} {v : Int32} (hv : (Int8.ofInt n).toInt32 = v) (hd : decode cc pc = .ok (.bipush n, 2)) (kk : E (pc + 2) lv (.int v :: st) N cf cs sz) : E pc lv (st) N cf cs sz := by
  obtain ⟨p, e, R, s, m, args, below, meth, c, QF, hx, hb, hml, hown, hts, hK, hin2, hR, hz, rfl⟩ := hE
  exact fun H locs ls hz2 hP hS hl => lv_bipush hx hb hd hv (kk H locs ls hz2 hP hS hl)

theorem a_sipush {l : Launch} {C : Gd} {own : String} {cc : ByteArray} {nL d z mc ms : Nat} {E : EA} (hE : MaA l C own cc nL d z mc ms E) {pc : Nat} {lv : List (Nat × Value)} {st : List Value} {N cs sz : Nat} {cf : Nat → va_E} {n : Int} {v : Int32} (hv : (Int16.ofInt n).toInt32 = v) (hd : decode cc pc = .ok (.sipush n, 3)) (kk : E (pc + 3) lv (.int v :: st) N cf cs sz) : E pc lv (st) N cf cs sz := by
  obtain ⟨p, e, R, s, m, args, below, meth, c, QF, hx, hb, hml, hown, hts, hK, hin2, hR, hz, rfl⟩ := hE
  exact fun H locs ls hz2 hP hS hl => lv_sipush hx hb hd hv (kk H locs ls hz2 hP hS hl)

theorem a_lconst {l : Launch} {C : Gd} {own : String} {cc : ByteArray} {nL d z mc ms : Nat} {E : EA} (hE : MaA l C own cc nL d z mc ms E) {pc : Nat} {lv : List (Nat × Value)} {st : List Value} {N cs sz : Nat} {cf : Nat → va_E} {n : Fin 2} {v : Int64} (hv : Int64.ofNat (n : Nat) = v) (hd : decode cc pc = .ok (.lconst n, 1)) (kk : E (pc + 1) lv (.long v :: st) N cf cs sz) : E pc lv (st) N cf cs sz := by
  obtain ⟨p, e, R, s, m, args, below, meth, c, QF, hx, hb, hml, hown, hts, hK, hin2, hR, hz, rfl⟩ := hE
  exact fun H locs ls hz2 hP hS hl => lv_lconst hx hb hd hv (kk H locs ls hz2 hP hS hl)

theorem a_iload_n {l : Launch} {C : Gd} {own : String} {cc : ByteArray} {nL d z mc ms : Nat} {E : EA} (hE : MaA l C own cc nL d z mc ms E) {pc : Nat} {lv : List (Nat × Value)} {st : List Value} {N cs sz : Nat} {cf : Nat → va_E} {k : Fin 4} {i : Nat} {x : Int32} (hi : (k : Nat) = i) (n : Nat) (hk : lv[n]? = some (i, .int x)) (hd : decode cc pc = .ok (.iload_n k, 1)) (kk : E (pc + 1) lv (.int x :: st) N cf cs sz) : E pc lv (st) N cf cs sz := by
  obtain ⟨p, e, R, s, m, args, below, meth, c, QF, hx, hb, hml, hown, hts, hK, hin2, hR, hz, rfl⟩ := hE
  exact fun H locs ls hz2 hP hS hl => lv_iload_n hx hb hd hi (lv_at hl n hk) (kk H locs ls hz2 hP hS hl)

theorem a_aload_n {l : Launch} {C : Gd} {own : String} {cc : ByteArray} {nL d z mc ms : Nat} {E : EA} (hE : MaA l C own cc nL d z mc ms E) {pc : Nat} {lv : List (Nat × Value)} {st : List Value} {N cs sz : Nat} {cf : Nat → va_E} {k : Fin 4} {i : Nat} {x : Nat} (hi : (k : Nat) = i) (n : Nat) (hk : lv[n]? = some (i, .ref x)) (hd : decode cc pc = .ok (.aload_n k, 1)) (kk : E (pc + 1) lv (.ref x :: st) N cf cs sz) : E pc lv (st) N cf cs sz := by
  obtain ⟨p, e, R, s, m, args, below, meth, c, QF, hx, hb, hml, hown, hts, hK, hin2, hR, hz, rfl⟩ := hE
  exact fun H locs ls hz2 hP hS hl => lv_aload_n hx hb hd hi (lv_at hl n hk) (kk H locs ls hz2 hP hS hl)

theorem a_istore_n {l : Launch} {C : Gd} {own : String} {cc : ByteArray} {nL d z mc ms : Nat} {E : EA} (hE : MaA l C own cc nL d z mc ms E) {pc : Nat} {lv : List (Nat × Value)} {st : List Value} {N cs sz : Nat} {cf : Nat → va_E} {k : Fin 4} {i : Nat} {x : Int32} {lv' : List (Nat × Value)} (hd : decode cc pc = .ok (.istore_n k, 1)) (hi : (k : Nat) = i) (hn : i < nL) (hlv : (i, Value.int x) :: lv.filter (fun q => !(q.1 == i) && !(q.1 + 1 == i && q.2.category == 2)) = lv') (kk : E (pc + 1) lv' st N cf cs sz) : E pc lv (.int x :: st) N cf cs sz := by
  obtain ⟨p, e, R, s, m, args, below, meth, c, QF, hx, hb, hml, hown, hts, hK, hin2, hR, hz, rfl⟩ := hE
  exact fun H locs ls hz2 hP hS hl => lv_istore_n hx hb hd hi hl hn hlv (fun ls' hl' => kk H locs ls' hz2 hP hS hl')

theorem a_astore_n {l : Launch} {C : Gd} {own : String} {cc : ByteArray} {nL d z mc ms : Nat} {E : EA} (hE : MaA l C own cc nL d z mc ms E) {pc : Nat} {lv : List (Nat × Value)} {st : List Value} {N cs sz : Nat} {cf : Nat → va_E} {k : Fin 4} {i : Nat} {x : Nat} {lv' : List (Nat × Value)} (hd : decode cc pc = .ok (.astore_n k, 1)) (hi : (k : Nat) = i) (hn : i < nL) (hlv : (i, Value.ref x) :: lv.filter (fun q => !(q.1 == i) && !(q.1 + 1 == i && q.2.category == 2)) = lv') (kk : E (pc + 1) lv' st N cf cs sz) : E pc lv (.ref x :: st) N cf cs sz := by
  obtain ⟨p, e, R, s, m, args, below, meth, c, QF, hx, hb, hml, hown, hts, hK, hin2, hR, hz, rfl⟩ := hE
  exact fun H locs ls hz2 hP hS hl => lv_astore_n hx hb hd hi hl hn hlv (fun ls' hl' => kk H locs ls' hz2 hP hS hl')

theorem a_iinc {l : Launch} {C : Gd} {own : String} {cc : ByteArray} {nL d z mc ms : Nat} {E : EA} (hE : MaA l C own cc nL d z mc ms E) {pc : Nat} {lv : List (Nat × Value)} {st : List Value} {N cs sz : Nat} {cf : Nat → va_E} {i k : Nat} {n : Int} {x v : Int32} {lv' : List (Nat × Value)} (hd : decode cc pc = .ok (.iinc i n, 3)) (hk : lv[k]? = some (i, .int x)) (hv : x + Int32.ofInt n = v) (hn : i < nL) (hlv : (i, Value.int v) :: lv.filter (fun q => !(q.1 == i) && !(q.1 + 1 == i && q.2.category == 2)) = lv') (kk : E (pc + 3) lv' st N cf cs sz) : E pc lv st N cf cs sz := by
  obtain ⟨p, e, R, s, m, args, below, meth, c, QF, hx, hb, hml, hown, hts, hK, hin2, hR, hz, rfl⟩ := hE
  exact fun H locs ls hz2 hP hS hl => lv_iinc hx hb hd hl hk hv hn hlv (fun ls' hl' => kk H locs ls' hz2 hP hS hl')

theorem a_dup {l : Launch} {C : Gd} {own : String} {cc : ByteArray} {nL d z mc ms : Nat} {E : EA} (hE : MaA l C own cc nL d z mc ms E) {pc : Nat} {lv : List (Nat × Value)} {st : List Value} {N cs sz : Nat} {cf : Nat → va_E} {v : Value} (hv : v.category = 1) (hd : decode cc pc = .ok (.dup, 1)) (kk : E (pc + 1) lv (v :: v :: st) N cf cs sz) : E pc lv (v :: st) N cf cs sz := by
  obtain ⟨p, e, R, s, m, args, below, meth, c, QF, hx, hb, hml, hown, hts, hK, hin2, hR, hz, rfl⟩ := hE
  exact fun H locs ls hz2 hP hS hl => lv_dup hx hb hd hv (kk H locs ls hz2 hP hS hl)

theorem a_icmp_ge {l : Launch} {C : Gd} {own : String} {cc : ByteArray} {nL d z mc ms : Nat} {E : EA} (hE : MaA l C own cc nL d z mc ms E) {pc : Nat} {lv : List (Nat × Value)} {st : List Value} {N cs sz : Nat} {cf : Nat → va_E} {x y : Int32} {off : Int} (tgt : Nat) (hd : decode cc pc = .ok (.if_icmp .ge off, 3)) (ht : (pc : Int) + off = (tgt : Int)) (kt : y ≤ x → E tgt lv st N cf cs sz) (kf : ¬ y ≤ x → E (pc + 3) lv st N cf cs sz) : E pc lv (.int y :: .int x :: st) N cf cs sz := by
  obtain ⟨p, e, R, s, m, args, below, meth, c, QF, hx, hb, hml, hown, hts, hK, hin2, hR, hz, rfl⟩ := hE
  exact fun H locs ls hz2 hP hS hl => lv_icmp_ge hx hb hd ht (fun c0 => kt c0 H locs ls hz2 hP hS hl) (fun c0 => kf c0 H locs ls hz2 hP hS hl)

theorem a_icmp_gt {l : Launch} {C : Gd} {own : String} {cc : ByteArray} {nL d z mc ms : Nat} {E : EA} (hE : MaA l C own cc nL d z mc ms E) {pc : Nat} {lv : List (Nat × Value)} {st : List Value} {N cs sz : Nat} {cf : Nat → va_E} {x y : Int32} {off : Int} (tgt : Nat) (hd : decode cc pc = .ok (.if_icmp .gt off, 3)) (ht : (pc : Int) + off = (tgt : Int)) (kt : y < x → E tgt lv st N cf cs sz) (kf : ¬ y < x → E (pc + 3) lv st N cf cs sz) : E pc lv (.int y :: .int x :: st) N cf cs sz := by
  obtain ⟨p, e, R, s, m, args, below, meth, c, QF, hx, hb, hml, hown, hts, hK, hin2, hR, hz, rfl⟩ := hE
  exact fun H locs ls hz2 hP hS hl => lv_icmp_gt hx hb hd ht (fun c0 => kt c0 H locs ls hz2 hP hS hl) (fun c0 => kf c0 H locs ls hz2 hP hS hl)

theorem a_goto {l : Launch} {C : Gd} {own : String} {cc : ByteArray} {nL d z mc ms : Nat} {E : EA} (hE : MaA l C own cc nL d z mc ms E) {pc : Nat} {lv : List (Nat × Value)} {st : List Value} {N cs sz : Nat} {cf : Nat → va_E} {off : Int} (tgt : Nat) (hd : decode cc pc = .ok (.goto off, 3)) (ht : (pc : Int) + off = (tgt : Int)) (kk : E tgt lv st N cf cs sz) : E pc lv st N cf cs sz := by
  obtain ⟨p, e, R, s, m, args, below, meth, c, QF, hx, hb, hml, hown, hts, hK, hin2, hR, hz, rfl⟩ := hE
  exact fun H locs ls hz2 hP hS hl => lv_goto hx hb hd ht (kk H locs ls hz2 hP hS hl)

theorem a_sub {l : Launch} {C : Gd} {own : String} {cc : ByteArray} {nL d z mc ms : Nat} {E : EA} (hE : MaA l C own cc nL d z mc ms E) {pc : Nat} {lv : List (Nat × Value)} {st : List Value} {N cs sz : Nat} {cf : Nat → va_E} {lv' : List (Nat × Value)} (ks : List Nat) (h : lv_pick lv ks = lv') (kk : E pc lv' st N cf cs sz) : E pc lv st N cf cs sz := by
  obtain ⟨p, e, R, s, m, args, below, meth, c, QF, hx, hb, hml, hown, hts, hK, hin2, hR, hz, rfl⟩ := hE
  exact fun H locs ls hz2 hP hS hl => kk H locs ls hz2 hP hS (lv_sub hl ks h)


/-- what lies at the cells may be told otherwise, if it is the same -/
theorem a_cf {l : Launch} {C : Gd} {own : String} {cc : ByteArray} {nL d z mc ms : Nat} {E : EA} (hE : MaA l C own cc nL d z mc ms E) {pc : Nat} {lv : List (Nat × Value)} {st : List Value} {N cs sz : Nat} {cf : Nat → va_E} {cf2 : Nat → va_E} (h : ∀ k, k < N → cf k = cf2 k) (kk : E pc lv st N cf2 cs sz) : E pc lv st N cf cs sz := by
  obtain ⟨p, e, R, s, m, args, below, meth, c, QF, hx, hb, hml, hown, hts, hK, hin2, hR, hz, rfl⟩ := hE
  exact fun H locs ls hz2 hP hS hl => kk H locs ls hz2 (by rw [← sgf_congr h]; exact hP) hS hl
theorem a_obj {l : Launch} {C : Gd} {own : String} {cc : ByteArray} {nL d z mc ms : Nat} {E : EA} (hE : MaA l C own cc nL d z mc ms E) {pc : Nat} {lv : List (Nat × Value)} {st : List Value} {N cs sz : Nat} {cf : Nat → va_E} {ix a : Nat} (hd0 : 1 ≤ d) (w1 : Cond.methodLink own ix objectInit ∈ gT) (w2 : Cond.instanceMethod objectInit ∈ gT) (w3 : Cond.code objectInit ⟨#[0xb1]⟩ 1 none ∈ gT) (hst : (st.map fun v => v.category).sum ≤ 8) (hd : decode cc pc = .ok (.invokespecial ix, 3)) (kk : E (pc + 3) lv st N cf cs sz) : E pc lv (.ref a :: st) N cf cs sz := by
  obtain ⟨p, e, R, s, m, args, below, meth, c, QF, hx, hb, hml, hown, hts, hK, hin2, hR, hz, rfl⟩ := hE
  refine fun H locs ls hz2 hP hS hl => W.objInit hx hb hown (hts _ w1) (hts _ w2) (hts _ w3) rfl (by rw [hml]; exact hl.1) rfl hd (by omega) ?_ (kk H locs ls hz2 hP hS hl)
  have := lv_room (m := m) (pc := pc) (ls := ls) (rest := (.ref a :: st)) (st := st) hst
  omega
theorem a_new {l : Launch} {C : Gd} {own : String} {cc : ByteArray} {nL d z mc ms : Nat} {E : EA} (hE : MaA l C own cc nL d z mc ms E) {pc : Nat} {lv : List (Nat × Value)} {st : List Value} {N cs sz : Nat} {cf : Nat → va_E} {ix ci n : Nat} {K : String} {T : u_T} {fs : List Value} (ty : Nat → FieldType) (hty : ∀ k, k < n → parseFieldDescriptor (T k).2.2.1 = some (ty k)) (hcl : vwCl[ci]? = some (K, T, n)) (hin : ∀ w ∈ u_ws K T n, w ∈ gT) (w1 : Cond.classLink own ix K ∈ gT) (w2 : Cond.instantiable K n ∈ gT) (w3 : Cond.initialized K ∈ gT) (hfs : ∀ j, j < n → defaultValue (ty j) = vp_V fs j) (hc1 : cs + 1 ≤ mc) (hs1 : sz + n ≤ ms) (hd : decode cc pc = .ok (.new ix, 3)) (kk : E (pc + 3) lv (.ref (z + N) :: st) (N + 1) (va_up cf N (.inr (ci, fs))) (cs + 1) (sz + n)) : E pc lv st N cf cs sz := by
  obtain ⟨p, e, R, s, m, args, below, meth, c, QF, hx, hb, hml, hown, hts, hK, hin2, hR, hz, rfl⟩ := hE
  intro H locs ls hz2 hP hS hl
  have hKn := hK.1.1 ci _ hcl
  refine W.newcK hx hb hown (hts _ w1) (hts _ w2) (hts _ w3) rfl hd (by omega) (by omega) hKn.2.1 hz2 fun H1 kC hkC e1 z1 o1 => ?_
  exact kk H1 locs ls (by omega) (sgf_push hP (fun q hq => o1 q hq) ⟨_, hcl, (u_born ty hts hin hKn hkC e1 hty).to hfs⟩) ⟨by have := hS.1; omega, fun x h1 h2 => (o1 x (by have := hS.1; omega)).trans (hS.2.1 x h1 h2), hS.2.2⟩ hl


theorem a_newaI {l : Launch} {C : Gd} {own : String} {cc : ByteArray} {nL d z mc ms : Nat} {E : EA} (hE : MaA l C own cc nL d z mc ms E) {pc : Nat} {lv : List (Nat × Value)} {st : List Value} {N cs sz : Nat} {cf : Nat → va_E} {n : Int32} {K : Nat} (w1 : Cond.arrayClass .int ∈ gT) (hn : ¬ n < 0) (hN : n.toNatClampNeg = K) (hbt : K * componentBytes .int ≤ 536870912) (hc1 : cs + 1 ≤ mc) (hs1 : sz + K ≤ ms) (hd : decode cc pc = .ok (.newarray .int, 2)) (kk : E (pc + 2) lv (.ref (z + N) :: st) (N + 1) (va_up cf N (.inl (C.2 12, K, .inl (fun _ => 0)))) (cs + 1) (sz + K)) : E pc lv (.int n :: st) N cf cs sz := by
  obtain ⟨p, e, R, s, m, args, below, meth, c, QF, hx, hb, hml, hown, hts, hK, hin2, hR, hz, rfl⟩ := hE
  intro H locs ls hz2 hP hS hl
  refine va_newaK hx hb (atype := .int) (hts _ w1) rfl hd rfl hn hN hbt (by omega) (by omega) hz2 fun H1 cA e1 z1 o1 hAr hNm => ?_
  have hcA : cA = C.2 12 := Option.some.inj (hNm.symm.trans (hK.1.2 1 _ rfl).2)
  subst hcA
  exact kk H1 locs ls (by omega) (sgf_push hP (fun q hq => o1 q hq) e1) ⟨by have := hS.1; omega, fun x h1 h2 => (o1 x (by have := hS.1; omega)).trans (hS.2.1 x h1 h2), hS.2.2⟩ hl


theorem a_newaJ {l : Launch} {C : Gd} {own : String} {cc : ByteArray} {nL d z mc ms : Nat} {E : EA} (hE : MaA l C own cc nL d z mc ms E) {pc : Nat} {lv : List (Nat × Value)} {st : List Value} {N cs sz : Nat} {cf : Nat → va_E} {n : Int32} {K : Nat} (w1 : Cond.arrayClass .long ∈ gT) (hn : ¬ n < 0) (hN : n.toNatClampNeg = K) (hbt : K * componentBytes .long ≤ 536870912) (hc1 : cs + 1 ≤ mc) (hs1 : sz + K ≤ ms) (hd : decode cc pc = .ok (.newarray .long, 2)) (kk : E (pc + 2) lv (.ref (z + N) :: st) (N + 1) (va_up cf N (.inl (C.2 13, K, .inr (.inl (fun _ => 0))))) (cs + 1) (sz + K)) : E pc lv (.int n :: st) N cf cs sz := by
  obtain ⟨p, e, R, s, m, args, below, meth, c, QF, hx, hb, hml, hown, hts, hK, hin2, hR, hz, rfl⟩ := hE
  intro H locs ls hz2 hP hS hl
  refine va_newaK hx hb (atype := .long) (hts _ w1) rfl hd rfl hn hN hbt (by omega) (by omega) hz2 fun H1 cA e1 z1 o1 hAr hNm => ?_
  have hcA : cA = C.2 13 := Option.some.inj (hNm.symm.trans (hK.1.2 2 _ rfl).2)
  subst hcA
  exact kk H1 locs ls (by omega) (sgf_push hP (fun q hq => o1 q hq) e1) ⟨by have := hS.1; omega, fun x h1 h2 => (o1 x (by have := hS.1; omega)).trans (hS.2.1 x h1 h2), hS.2.2⟩ hl


theorem a_newaB {l : Launch} {C : Gd} {own : String} {cc : ByteArray} {nL d z mc ms : Nat} {E : EA} (hE : MaA l C own cc nL d z mc ms E) {pc : Nat} {lv : List (Nat × Value)} {st : List Value} {N cs sz : Nat} {cf : Nat → va_E} {n : Int32} {K : Nat} (w1 : Cond.arrayClass .byte ∈ gT) (hn : ¬ n < 0) (hN : n.toNatClampNeg = K) (hbt : K * componentBytes .byte ≤ 536870912) (hc1 : cs + 1 ≤ mc) (hs1 : sz + K ≤ ms) (hd : decode cc pc = .ok (.newarray .byte, 2)) (kk : E (pc + 2) lv (.ref (z + N) :: st) (N + 1) (va_up cf N (.inl (C.2 11, K, .inl (fun _ => 0)))) (cs + 1) (sz + K)) : E pc lv (.int n :: st) N cf cs sz := by
  obtain ⟨p, e, R, s, m, args, below, meth, c, QF, hx, hb, hml, hown, hts, hK, hin2, hR, hz, rfl⟩ := hE
  intro H locs ls hz2 hP hS hl
  refine va_newaK hx hb (atype := .byte) (hts _ w1) rfl hd rfl hn hN hbt (by omega) (by omega) hz2 fun H1 cA e1 z1 o1 hAr hNm => ?_
  have hcA : cA = C.2 11 := Option.some.inj (hNm.symm.trans (hK.1.2 0 _ rfl).2)
  subst hcA
  exact kk H1 locs ls (by omega) (sgf_push hP (fun q hq => o1 q hq) e1) ⟨by have := hS.1; omega, fun x h1 h2 => (o1 x (by have := hS.1; omega)).trans (hS.2.1 x h1 h2), hS.2.2⟩ hl


theorem a_newaZ {l : Launch} {C : Gd} {own : String} {cc : ByteArray} {nL d z mc ms : Nat} {E : EA} (hE : MaA l C own cc nL d z mc ms E) {pc : Nat} {lv : List (Nat × Value)} {st : List Value} {N cs sz : Nat} {cf : Nat → va_E} {n : Int32} {K : Nat} (w1 : Cond.arrayClass .boolean ∈ gT) (hn : ¬ n < 0) (hN : n.toNatClampNeg = K) (hbt : K * componentBytes .boolean ≤ 536870912) (hc1 : cs + 1 ≤ mc) (hs1 : sz + K ≤ ms) (hd : decode cc pc = .ok (.newarray .boolean, 2)) (kk : E (pc + 2) lv (.ref (z + N) :: st) (N + 1) (va_up cf N (.inl (C.2 14, K, .inl (fun _ => 0)))) (cs + 1) (sz + K)) : E pc lv (.int n :: st) N cf cs sz := by
  obtain ⟨p, e, R, s, m, args, below, meth, c, QF, hx, hb, hml, hown, hts, hK, hin2, hR, hz, rfl⟩ := hE
  intro H locs ls hz2 hP hS hl
  refine va_newaK hx hb (atype := .boolean) (hts _ w1) rfl hd rfl hn hN hbt (by omega) (by omega) hz2 fun H1 cA e1 z1 o1 hAr hNm => ?_
  have hcA : cA = C.2 14 := Option.some.inj (hNm.symm.trans (hK.1.2 3 _ rfl).2)
  subst hcA
  exact kk H1 locs ls (by omega) (sgf_push hP (fun q hq => o1 q hq) e1) ⟨by have := hS.1; omega, fun x h1 h2 => (o1 x (by have := hS.1; omega)).trans (hS.2.1 x h1 h2), hS.2.2⟩ hl


theorem a_newqF {l : Launch} {C : Gd} {own : String} {cc : ByteArray} {nL d z mc ms : Nat} {E : EA} (hE : MaA l C own cc nL d z mc ms E) {pc : Nat} {lv : List (Nat × Value)} {st : List Value} {N cs sz : Nat} {cf : Nat → va_E} {ix : Nat} {n : Int32} {K : Nat} (w1 : Cond.classLink own ix "RiverBureau$Flow" ∈ gT) (hn : ¬ n < 0) (hN : n.toNatClampNeg = K) (hbt : K * 4 ≤ 536870912) (hc1 : cs + 1 ≤ mc) (hs1 : sz + K ≤ ms) (hd : decode cc pc = .ok (.anewarray ix, 3)) (kk : E (pc + 3) lv (.ref (z + N) :: st) (N + 1) (va_up cf N (.inl (C.2 15, K, .inr (.inr (.inr (.inr (fun _ => none))))))) (cs + 1) (sz + K)) : E pc lv (.int n :: st) N cf cs sz := by
  obtain ⟨p, e, R, s, m, args, below, meth, c, QF, hx, hb, hml, hown, hts, hK, hin2, hR, hz, rfl⟩ := hE
  intro H locs ls hz2 hP hS hl
  subst hN
  refine W.anew hx hb hown (hts _ w1) (va_AO.use hK.2.2.1) rfl hd rfl hn hbt (by omega) (by omega) fun cA kA comp f1 f2 f3 f4 => ?_
  generalize hH1 : H.push ({ cls := cA, slots := Array.replicate n.toNatClampNeg .null, vm := .none } : Cell) = H1
  have z1 : H1.size = H.size + 1 := by rw [← hH1, Array.size_push]
  have e1 : H1[H.size]? = some (arrV cA n.toNatClampNeg (fun _ => .null)) := by rw [← hH1, Array.getElem?_push_size, ← arrV_new]
  have o1 : ∀ q : Nat, q < H.size → H1[q]? = H[q]? := fun q hq => by rw [← hH1, Array.getElem?_push, if_neg (Nat.ne_of_lt hq)]
  obtain ⟨kA2, comp2, g1, g2, g3, g4⟩ := (hK.1.2 4 _ rfl).2
  have hcA : cA = C.2 15 := Option.some.inj (f1.symm.trans g4)
  subst hcA
  rw [hz2] at z1 e1 o1
  rw [show H.size = z + N from hz2]
  exact kk H1 locs ls (by omega) (sgf_push hP (fun q hq => o1 q hq) e1) ⟨by have := hS.1; omega, fun x h1 h2 => (o1 x (by have := hS.1; omega)).trans (hS.2.1 x h1 h2), hS.2.2⟩ hl


theorem a_newqK {l : Launch} {C : Gd} {own : String} {cc : ByteArray} {nL d z mc ms : Nat} {E : EA} (hE : MaA l C own cc nL d z mc ms E) {pc : Nat} {lv : List (Nat × Value)} {st : List Value} {N cs sz : Nat} {cf : Nat → va_E} {ix : Nat} {n : Int32} {K : Nat} (w1 : Cond.classLink own ix "RiverBureau$Kept" ∈ gT) (hn : ¬ n < 0) (hN : n.toNatClampNeg = K) (hbt : K * 4 ≤ 536870912) (hc1 : cs + 1 ≤ mc) (hs1 : sz + K ≤ ms) (hd : decode cc pc = .ok (.anewarray ix, 3)) (kk : E (pc + 3) lv (.ref (z + N) :: st) (N + 1) (va_up cf N (.inl (C.2 16, K, .inr (.inr (.inr (.inr (fun _ => none))))))) (cs + 1) (sz + K)) : E pc lv (.int n :: st) N cf cs sz := by
  obtain ⟨p, e, R, s, m, args, below, meth, c, QF, hx, hb, hml, hown, hts, hK, hin2, hR, hz, rfl⟩ := hE
  intro H locs ls hz2 hP hS hl
  subst hN
  refine W.anew hx hb hown (hts _ w1) (va_AO.use hK.2.2.2.1) rfl hd rfl hn hbt (by omega) (by omega) fun cA kA comp f1 f2 f3 f4 => ?_
  generalize hH1 : H.push ({ cls := cA, slots := Array.replicate n.toNatClampNeg .null, vm := .none } : Cell) = H1
  have z1 : H1.size = H.size + 1 := by rw [← hH1, Array.size_push]
  have e1 : H1[H.size]? = some (arrV cA n.toNatClampNeg (fun _ => .null)) := by rw [← hH1, Array.getElem?_push_size, ← arrV_new]
  have o1 : ∀ q : Nat, q < H.size → H1[q]? = H[q]? := fun q hq => by rw [← hH1, Array.getElem?_push, if_neg (Nat.ne_of_lt hq)]
  obtain ⟨kA2, comp2, g1, g2, g3, g4⟩ := (hK.1.2 5 _ rfl).2
  have hcA : cA = C.2 16 := Option.some.inj (f1.symm.trans g4)
  subst hcA
  rw [hz2] at z1 e1 o1
  rw [show H.size = z + N from hz2]
  exact kk H1 locs ls (by omega) (sgf_push hP (fun q hq => o1 q hq) e1) ⟨by have := hS.1; omega, fun x h1 h2 => (o1 x (by have := hS.1; omega)).trans (hS.2.1 x h1 h2), hS.2.2⟩ hl


theorem a_get {l : Launch} {C : Gd} {own : String} {cc : ByteArray} {nL d z mc ms : Nat} {E : EA} (hE : MaA l C own cc nL d z mc ms E) {pc : Nat} {lv : List (Nat × Value)} {st : List Value} {N cs sz : Nat} {cf : Nat → va_E} {k ci ix j n : Nat} {K : String} {T : u_T} {fs : List Value} {v : Value} (hk : k < N) (hc : cf k = .inr (ci, fs)) (hcl : vwCl[ci]? = some (K, T, n)) (hin : ∀ w ∈ u_ws K T n, w ∈ gT) (hj : j < n) (hw : Cond.fieldLink own ix K (T j).2.1 (T j).2.2.1 ∈ gT) (hT : (T j).1 = K) (hv : fs[j]? = some v) (hd : decode cc pc = .ok (.getfield ix, 3)) (kk : E (pc + 3) lv (v :: st) N cf cs sz) : E pc lv (.ref (z + k) :: st) N cf cs sz := by
  obtain ⟨p, e, R, s, m, args, below, meth, c, QF, hx, hb, hml, hown, hts, hK, hin2, hR, hz, rfl⟩ := hE
  exact fun H locs ls hz2 hP hS hl => va_get (D := C.1) (ci := ci) (C := K) (T := T) (N := n) hx hb hts hin hown hK.1 hP k (by rw [sgf_get z cf hk, hc]) hcl j hj (hts _ hw) (fun _ h9 => by rw [← hT]; exact h9) hv hd (kk H locs ls hz2 hP hS hl)
/-- one cell changes, the heap's size stays -/
theorem sgf_upd {D : va_G} {z N k : Nat} {cf : Nat → va_E} {e : va_E} {H H1 : Heap} (hP : va_P D vwCl (sgf z N cf) H) (ho : ∀ q, q ≠ z + k → H1[q]? = H[q]?) (hn : va_at D vwCl (z + k, e) H1) : va_P D vwCl (sgf z N (va_up cf k e)) H1 := by
  refine sgf_P fun i hi => ?_
  by_cases h1 : i = k
  · subst h1; simpa [va_up] using hn
  · simp only [va_up, if_neg h1]
    exact (sgf_at hP hi).kept (ho _ (by show z + i ≠ z + k; omega))
theorem a_put {l : Launch} {C : Gd} {own : String} {cc : ByteArray} {nL d z mc ms : Nat} {E : EA} (hE : MaA l C own cc nL d z mc ms E) {pc : Nat} {lv : List (Nat × Value)} {st : List Value} {N cs sz : Nat} {cf : Nat → va_E} {k ci ix j n : Nat} {K : String} {T : u_T} {fs : List Value} {v : Value} {ty : FieldType} (ty0 : Nat → FieldType) (hty : ∀ k, k < n → parseFieldDescriptor (T k).2.2.1 = some (ty0 k)) (hnm : ∀ a, a < n → ∀ b, b < n → a ≠ b → (T a).2.1 ≠ (T b).2.1) (hk : k < N) (hc : cf k = .inr (ci, fs)) (hcl : vwCl[ci]? = some (K, T, n)) (hin : ∀ w ∈ u_ws K T n, w ∈ gT) (hj : j < n) (hw : Cond.fieldLink own ix K (T j).2.1 (T j).2.2.1 ∈ gT) (hT : (T j).1 = K) (hfin : (T j).2.2.2 = false) (hdes : parseFieldDescriptor (T j).2.2.1 = some ty) (hn : narrow ty v = v) (hfit : fits ty v = true) (hl0 : j < fs.length) (hd : decode cc pc = .ok (.putfield ix, 3)) (kk : E (pc + 3) lv st N (va_up cf k (.inr (ci, fs.set j v))) cs sz) : E pc lv (v :: .ref (z + k) :: st) N cf cs sz := by
  obtain ⟨p, e, R, s, m, args, below, meth, c, QF, hx, hb, hml, hown, hts, hK, hin2, hR, hz, rfl⟩ := hE
  intro H locs ls hz2 hP hS hl
  have hap := va_apart (own := own) hts hin ty0 hty hnm hK.1 hcl
  have he := sgf_at hP hk
  rw [hc] at he
  obtain ⟨r, h1, cell, q1, q2, q3, q4⟩ := he
  have hr : r = (K, T, n) := Option.some.inj (h1.symm.trans hcl)
  subst hr
  obtain ⟨hSl, hfc, kC, hkC, hkind⟩ := hK.1.1 ci _ hcl
  obtain ⟨cfl, kf, fi, f, hi, hsl⟩ := hSl j hj
  have hlay := hts _ (hin _ (u_in_lay hj))
  unfold u_lay at hlay
  rw [if_neg (by rw [hfin]; decide)] at hlay
  have hst := (u_facts hfc hkC (u_lays hts hin hj) hi).1
  have h6 := u_store hfc hkC hkind hlay hi hdes hn hfit
  refine W.putK hx hb (f := f) ⟨hown, hts _ hw, ⟨_, _, _, by rw [← hT]; exact hi⟩, hst⟩ (by rw [q2]; exact h6) q1 q3 (by rw [hsl]; exact k2_hasslot (q4 j hj)) rfl rfl hd fun H1 e1 e2 e3 => ?_
  rw [hsl] at e1 ⊢
  exact kk H1 _ ls (e2.trans hz2) (sgf_upd hP e3 ⟨_, hcl, t_OB.to (V := updV (vp_V fs) j v) ⟨_, e1, q2, q3, t_set q4 hap hj v⟩ (fun a _ => vp_updV_set hl0 v a)⟩) (hS.put e2 e3 (Nat.le_add_right z k)) hl
theorem a_putF {l : Launch} {C : Gd} {own : String} {cc : ByteArray} {nL d z mc ms : Nat} {E : EA} (hE : MaA l C own cc nL d z mc ms E) {pc : Nat} {lv : List (Nat × Value)} {st : List Value} {N cs sz : Nat} {cf : Nat → va_E} {k ci ix j n : Nat} {K : String} {T : u_T} {fs : List Value} {v : Value} {ty : FieldType} (ty0 : Nat → FieldType) (hty : ∀ k, k < n → parseFieldDescriptor (T k).2.2.1 = some (ty0 k)) (hnm : ∀ a, a < n → ∀ b, b < n → a ≠ b → (T a).2.1 ≠ (T b).2.1) (hk : k < N) (hc : cf k = .inr (ci, fs)) (hcl : vwCl[ci]? = some (K, T, n)) (hin : ∀ w ∈ u_ws K T n, w ∈ gT) (hj : j < n) (hw : Cond.fieldLink own ix K (T j).2.1 (T j).2.2.1 ∈ gT) (hT : (T j).1 = K) (hfin : (T j).2.2.2 = true) (hdecl : (T j).1 = own) (hoL : own ≠ RL ∧ own ≠ RJ7) (hdes : parseFieldDescriptor (T j).2.2.1 = some ty) (hn : narrow ty v = v) (hfit : fits ty v = true) (hl0 : j < fs.length) (hd : decode cc pc = .ok (.putfield ix, 3)) (kk : E (pc + 3) lv st N (va_up cf k (.inr (ci, fs.set j v))) cs sz) : E pc lv (v :: .ref (z + k) :: st) N cf cs sz := by
  obtain ⟨p, e, R, s, m, args, below, meth, c, QF, hx, hb, hml, hown, hts, hK, hin2, hR, hz, rfl⟩ := hE
  intro H locs ls hz2 hP hS hl
  have hap := va_apart (own := own) hts hin ty0 hty hnm hK.1 hcl
  have he := sgf_at hP hk
  rw [hc] at he
  obtain ⟨r, h1, cell, q1, q2, q3, q4⟩ := he
  have hr : r = (K, T, n) := Option.some.inj (h1.symm.trans hcl)
  subst hr
  obtain ⟨hSl, hfc, kC, hkC, hkind⟩ := hK.1.1 ci _ hcl
  obtain ⟨cfl, kf, fi, f, hi, hsl⟩ := hSl j hj
  have hlay := hts _ (hin _ (u_in_lay hj))
  unfold u_lay at hlay
  rw [if_pos hfin] at hlay
  have hst := (u_facts hfc hkC (u_lays hts hin hj) hi).1
  have hcf : m.cls = cfl := by
    obtain ⟨_, _, c', _, _, _, -, -, hf', -, -, -, hown2, -⟩ := Cond.laysFinal_spec hlay
    have e1 : c' = cfl := by have := hi.symm.trans hf'; simp at this; exact this.1.symm
    rw [hdecl] at hown2
    rw [← e1]; exact Option.some.inj (hown.symm.trans hown2)
  have h6 := u_fits hfc hkC hkind (Or.inr hlay) hi hdes hn hfit
  refine W.putFinK hx hb hown (hts _ hw) (by rw [← hT]; exact hi) hst hcf (hin2 hoL) (by rw [q2]; exact h6) q1 q3 (by rw [hsl]; exact k2_hasslot (q4 j hj)) rfl rfl hd fun H1 e1 e2 e3 => ?_
  rw [hsl] at e1 ⊢
  exact kk H1 _ ls (e2.trans hz2) (sgf_upd hP e3 ⟨_, hcl, t_OB.to (V := updV (vp_V fs) j v) ⟨_, e1, q2, q3, t_set q4 hap hj v⟩ (fun a _ => vp_updV_set hl0 v a)⟩) (hS.put e2 e3 (Nat.le_add_right z k)) hl
theorem a_iast {l : Launch} {C : Gd} {own : String} {cc : ByteArray} {nL d z mc ms : Nat} {E : EA} (hE : MaA l C own cc nL d z mc ms E) {pc : Nat} {lv : List (Nat × Value)} {st : List Value} {N cs sz : Nat} {cf : Nat → va_E} {k n : Nat} {i x : Int32} {f : Nat → Int32} (hk : k < N) (hc : cf k = .inl (C.2 12, n, .inl f)) (hin : vp_in i n) (hd : decode cc pc = .ok (.iastore, 1)) (kk : E (pc + 1) lv st N (va_up cf k (.inl (C.2 12, n, .inl (upd f (tn i) x)))) cs sz) : E pc lv (.int x :: .int i :: .ref (z + k) :: st) N cf cs sz := by
  obtain ⟨p, e, R, s, m, args, below, meth, c, QF, hx, hb, hml, hown, hts, hK, hin2, hR, hz, rfl⟩ := hE
  intro H locs ls hz2 hP hS hl
  have he := sgf_at hP hk
  rw [hc] at he
  refine W.iast hx hb he ((hK.1.2 1 _ rfl).1 n (fun j => .int (f j))) (fun q => by cases q) (by show ¬ (i < 0 ∨ (arrV _ _ _).slots.size ≤ _); rw [arrV_size]; exact hin) rfl rfl hd fun H1 e1 z1 o1 => ?_
  refine kk H1 _ ls (z1.trans hz2) (sgf_upd hP o1 ?_) (hS.put z1 o1 (Nat.le_add_right z k)) hl
  show H1[z + k]? = some (vp_cell _ _)
  rw [e1, vp_cell_i, vp_cell_i, arrV_store]
  congr 2
  funext q
  by_cases hq : q = i.toNatClampNeg
  · subst hq; simp [updV, upd]
  · simp [updV, upd, hq]


theorem a_aastF {l : Launch} {C : Gd} {own : String} {cc : ByteArray} {nL d z mc ms : Nat} {E : EA} (hE : MaA l C own cc nL d z mc ms E) {pc : Nat} {lv : List (Nat × Value)} {st : List Value} {N cs sz : Nat} {cf : Nat → va_E} {k k2 n : Nat} {i : Int32} {fs : List Value} {f : Nat → Option Nat} (hk : k < N) (hc : cf k = .inl (C.2 15, n, .inr (.inr (.inr (.inr f))))) (hk2 : k2 < N) (hc2 : cf k2 = .inr (2, fs)) (hin : vp_in i n) (hd : decode cc pc = .ok (.aastore, 1)) (kk : E (pc + 1) lv st N (va_up cf k (.inl (C.2 15, n, .inr (.inr (.inr (.inr (va_up f (tn i) (some (z + k2))))))))) cs sz) : E pc lv (.ref (z + k2) :: .int i :: .ref (z + k) :: st) N cf cs sz := by
  obtain ⟨p, e, R, s, m, args, below, meth, c, QF, hx, hb, hml, hown, hts, hK, hin2, hR, hz, rfl⟩ := hE
  intro H locs ls hz2 hP hS hl
  have hlt : i.toNatClampNeg < n := Nat.not_le.mp fun q => hin (Or.inr q)
  have h0 : ¬ i < 0 := fun q => hin (Or.inl q)
  have he := sgf_at hP hk
  rw [hc] at he
  have hv := sgf_at hP hk2
  rw [hc2] at hv
  obtain ⟨r', hr', cellV, g1, g2, g3, -⟩ := hv
  have hcls := (hK.1.1 2 _ rfl).2
  obtain ⟨kA, comp, k1, k2', k3, -⟩ := (hK.1.2 4 _ rfl).2
  have hcomp : comp = C.1.1 2 := Option.some.inj (k3.symm.trans hcls.1)
  subst hcomp
  obtain ⟨kC, hkC, -⟩ := hcls.2
  refine W.aast hx hb he (fun q h => by cases h) (fun h => by cases h) k1 k2' rfl hkC ⟨h0, by show _ < (arrV _ _ _).slots.size; rw [arrV_size]; exact hlt⟩ g1 (fun q h => by rw [g3] at h; cases h) (by rw [g2]; exact hkC) (by rw [g2]; exact va_assign hcls) rfl rfl hd fun H1 e1 z1 o1 => ?_
  refine kk H1 _ ls (z1.trans hz2) (sgf_upd hP o1 ?_) (hS.put z1 o1 (Nat.le_add_right z k)) hl
  show H1[z + k]? = some (vp_cell _ _)
  rw [e1, vp_cell_q, vp_cell_q, arrV_store]
  congr 2
  funext q
  by_cases hq : q = i.toNatClampNeg
  · subst hq; simp [updV, va_up, va_rf]
  · simp [updV, va_up, hq]


theorem a_aastK {l : Launch} {C : Gd} {own : String} {cc : ByteArray} {nL d z mc ms : Nat} {E : EA} (hE : MaA l C own cc nL d z mc ms E) {pc : Nat} {lv : List (Nat × Value)} {st : List Value} {N cs sz : Nat} {cf : Nat → va_E} {k k2 n : Nat} {i : Int32} {fs : List Value} {f : Nat → Option Nat} (hk : k < N) (hc : cf k = .inl (C.2 16, n, .inr (.inr (.inr (.inr f))))) (hk2 : k2 < N) (hc2 : cf k2 = .inr (3, fs)) (hin : vp_in i n) (hd : decode cc pc = .ok (.aastore, 1)) (kk : E (pc + 1) lv st N (va_up cf k (.inl (C.2 16, n, .inr (.inr (.inr (.inr (va_up f (tn i) (some (z + k2))))))))) cs sz) : E pc lv (.ref (z + k2) :: .int i :: .ref (z + k) :: st) N cf cs sz := by
  obtain ⟨p, e, R, s, m, args, below, meth, c, QF, hx, hb, hml, hown, hts, hK, hin2, hR, hz, rfl⟩ := hE
  intro H locs ls hz2 hP hS hl
  have hlt : i.toNatClampNeg < n := Nat.not_le.mp fun q => hin (Or.inr q)
  have h0 : ¬ i < 0 := fun q => hin (Or.inl q)
  have he := sgf_at hP hk
  rw [hc] at he
  have hv := sgf_at hP hk2
  rw [hc2] at hv
  obtain ⟨r', hr', cellV, g1, g2, g3, -⟩ := hv
  have hcls := (hK.1.1 3 _ rfl).2
  obtain ⟨kA, comp, k1, k2', k3, -⟩ := (hK.1.2 5 _ rfl).2
  have hcomp : comp = C.1.1 3 := Option.some.inj (k3.symm.trans hcls.1)
  subst hcomp
  obtain ⟨kC, hkC, -⟩ := hcls.2
  refine W.aast hx hb he (fun q h => by cases h) (fun h => by cases h) k1 k2' rfl hkC ⟨h0, by show _ < (arrV _ _ _).slots.size; rw [arrV_size]; exact hlt⟩ g1 (fun q h => by rw [g3] at h; cases h) (by rw [g2]; exact hkC) (by rw [g2]; exact va_assign hcls) rfl rfl hd fun H1 e1 z1 o1 => ?_
  refine kk H1 _ ls (z1.trans hz2) (sgf_upd hP o1 ?_) (hS.put z1 o1 (Nat.le_add_right z k)) hl
  show H1[z + k]? = some (vp_cell _ _)
  rw [e1, vp_cell_q, vp_cell_q, arrV_store]
  congr 2
  funext q
  by_cases hq : q = i.toNatClampNeg
  · subst hq; simp [updV, va_up, va_rf]
  · simp [updV, va_up, hq]


set_option maxHeartbeats 1000000 in
theorem a_callI {l : Launch} {C : Gd} {own : String} {cc : ByteArray} {nL d z mc ms : Nat} {E : EA} (hE : MaA l C own cc nL (d + 1) z mc ms E) {pc : Nat} {lv : List (Nat × Value)} {st : List Value} {N cs sz : Nat} {cf : Nat → va_E} {ix n mL b mc2 ms2 N2 : Nat} {cf2 : Nat → va_E} {y : MethodName} {yc : ByteArray} {As st0 : List Value} (hC : CtA l C d mc2 ms2 y yc mL (.ref b :: As) z N cf N2 cf2) (hcw : Cond.code y yc mL none ∈ gT) (hn : As.length = n) (hy : y.cls ≠ "java/lang/invoke/MethodHandle" ∧ y.cls ≠ "java/lang/invoke/VarHandle" ∧ (parseMethodDescriptor y.desc).map (fun d => d.parameters.length) = some n) (hy1 : y.name = "<init>") (hmL : mL ≤ 45) (hst : (st.map fun v => v.category).sum ≤ 8) (w1 : Cond.methodLink own ix y ∈ gT) (w2 : Cond.instanceMethod y ∈ gT) (w4 : Cond.initialized y.cls ∈ gT) (hst0 : st0 = As.reverse ++ .ref b :: st) (hc1 : cs + mc2 ≤ mc) (hs1 : sz + ms2 ≤ ms) (hd : decode cc pc = .ok (.invokespecial ix, 3)) (kk : E (pc + 3) lv st N2 cf2 (cs + mc2) (sz + ms2)) : E pc lv st0 N cf cs sz := by
  obtain ⟨p, e, R, s, m, args, below, meth, c, QF, hx, hb, hml, hown, hts, hK, hin2, hR, hz, rfl⟩ := hE
  subst hst0
  have hgd : ∀ w ∈ wT y yc mL none, w ∈ gT := by
    intro w hw
    simp only [wT, List.mem_cons] at hw
    rcases hw with rfl | hw
    · exact hcw
    · exact hw
  exact fun H locs ls hz2 hP hS hl => va_callv (va_runI (As := As) (rest := st) (n := n) ⟨hx, hb, hml, hown, hts⟩ hC (cwI n hts (gT_good hgd) rfl rfl rfl (hts _ w4) (hts _ w1) (hts _ w2) hy1 hy ⟨by show d + 1 ≤ R.frames; omega, by show 8 + (mL + 11) + 64 * d ≤ R.locals; omega⟩) ⟨PreA.blind C z N cf _, fun U hU hW => ⟨rfl, by rw [hU]; exact hz2, by rw [hU]; exact hP, hK.warm hW⟩⟩ rfl hn hl.1 rfl (lv_room hst) hd ⟨by omega, by omega⟩) hS (fun q _ h => h) (fun q h => h) (fun u t H1 locs1 ht _ _ hB _ _ hS1 => kk H1 locs1 ls (by rw [← ht]; exact hB.1) (by rw [← ht]; exact hB.2) hS1 hl)


set_option maxHeartbeats 1000000 in
theorem a_callN {l : Launch} {C : Gd} {own : String} {cc : ByteArray} {nL d z mc ms : Nat} {E : EA} (hE : MaA l C own cc nL (d + 1) z mc ms E) {pc : Nat} {lv : List (Nat × Value)} {st : List Value} {N cs sz : Nat} {cf : Nat → va_E} {ix n mL b mc2 ms2 N2 : Nat} {cf2 : Nat → va_E} {y : MethodName} {yc : ByteArray} {As st0 : List Value} (hC : CtA l C d mc2 ms2 y yc mL (.ref b :: As) z N cf N2 cf2) (hcw : Cond.code y yc mL none ∈ gT) (hn : As.length = n) (hy : y.cls ≠ "java/lang/invoke/MethodHandle" ∧ y.cls ≠ "java/lang/invoke/VarHandle" ∧ (parseMethodDescriptor y.desc).map (fun d => d.parameters.length) = some n) (hy1 : y.name = "<init>") (hmL : mL ≤ 45) (hst : (st.map fun v => v.category).sum ≤ 8) {host : String} (w1 : Cond.methodLinkNest own ix y host ∈ nT) (w2 : Cond.instanceMethod y ∈ gT) (w4 : Cond.initialized y.cls ∈ gT) (hst0 : st0 = As.reverse ++ .ref b :: st) (hc1 : cs + mc2 ≤ mc) (hs1 : sz + ms2 ≤ ms) (hd : decode cc pc = .ok (.invokespecial ix, 3)) (kk : E (pc + 3) lv st N2 cf2 (cs + mc2) (sz + ms2)) : E pc lv st0 N cf cs sz := by
  obtain ⟨p, e, R, s, m, args, below, meth, c, QF, hx, hb, hml, hown, hts, hK, hin2, hR, hz, rfl⟩ := hE
  subst hst0
  have hgd : ∀ w ∈ wT y yc mL none, w ∈ gT := by
    intro w hw
    simp only [wT, List.mem_cons] at hw
    rcases hw with rfl | hw
    · exact hcw
    · exact hw
  exact fun H locs ls hz2 hP hS hl => va_callv (va_runIN (As := As) (rest := st) (n := n) ⟨hx, hb, hml, hown, hts⟩ hC ⟨va_cnB n hts (gT_good hgd) rfl rfl rfl (hK.2.1 _ w1) (hts _ w4) hy ⟨by show d + 1 ≤ R.frames; omega, by show 8 + (mL + 11) + 64 * d ≤ R.locals; omega⟩, hy1, hts _ w2⟩ ⟨PreA.blind C z N cf _, fun U hU hW => ⟨rfl, by rw [hU]; exact hz2, by rw [hU]; exact hP, hK.warm hW⟩⟩ rfl hn hl.1 rfl (lv_room hst) hd ⟨by omega, by omega⟩) hS (fun q _ h => h) (fun q h => h) (fun u t H1 locs1 ht _ _ hB _ _ hS1 => kk H1 locs1 ls (by rw [← ht]; exact hB.1) (by rw [← ht]; exact hB.2) hS1 hl)


theorem a_ilen {l : Launch} {C : Gd} {own : String} {cc : ByteArray} {nL d z mc ms : Nat} {E : EA} (hE : MaA l C own cc nL d z mc ms E) {pc : Nat} {lv : List (Nat × Value)} {st : List Value} {N cs sz : Nat} {cf : Nat → va_E} {k n : Nat} {f : Nat → Int32} {v : Int32} (hk : k < N) (hc : cf k = .inl (C.2 12, n, .inl f)) (hv : Int32.ofNat n = v) (hd : decode cc pc = .ok (.arraylength, 1)) (kk : E (pc + 1) lv (.int v :: st) N cf cs sz) : E pc lv (.ref (z + k) :: st) N cf cs sz := by
  obtain ⟨p, e, R, s, m, args, below, meth, c, QF, hx, hb, hml, hown, hts, hK, hin2, hR, hz, rfl⟩ := hE
  exact fun H locs ls hz2 hP hS hl => va_alen hx hb hK.1 hP k 1 (by rw [sgf_get z cf hk, hc]) rfl hv hd (kk H locs ls hz2 hP hS hl)
set_option maxHeartbeats 1000000 in
theorem a_callS {l : Launch} {C : Gd} {own : String} {cc : ByteArray} {nL d z mc ms : Nat} {E : EA} (hE : MaA l C own cc nL (d + 1) z mc ms E) {pc : Nat} {lv : List (Nat × Value)} {st : List Value} {N cs sz : Nat} {cf : Nat → va_E} {ix n mL N2 : Nat} {cf2 : Nat → va_E} {y : MethodName} {yc : ByteArray} {As st0 : List Value} (hC : CtA l C d 0 0 y yc mL As z N cf N2 cf2) (hcw : Cond.code y yc mL none ∈ gT) (hn : As.length = n) (hy : y.cls ≠ "java/lang/invoke/MethodHandle" ∧ y.cls ≠ "java/lang/invoke/VarHandle" ∧ (parseMethodDescriptor y.desc).map (fun d => d.parameters.length) = some n) (hmL : mL ≤ 45) (hst : (st.map fun v => v.category).sum ≤ 8) (w1 : Cond.methodLink own ix y ∈ gT) (w2 : Cond.static y ∈ gT) (w4 : Cond.initialized y.cls ∈ gT) (hst0 : st0 = As.reverse ++ st) (hc1 : cs ≤ mc) (hs1 : sz ≤ ms) (hd : decode cc pc = .ok (.invokestatic ix, 3)) (kk : E (pc + 3) lv st N2 cf2 cs sz) : E pc lv st0 N cf cs sz := by
  obtain ⟨p, e, R, s, m, args, below, meth, c, QF, hx, hb, hml, hown, hts, hK, hin2, hR, hz, rfl⟩ := hE
  subst hst0
  have hgd : ∀ w ∈ va_wsS own ix y (wT y yc mL none), w ∈ gT := by
    intro w hw
    simp only [va_wsS, wT, List.mem_append, List.mem_cons, List.not_mem_nil, or_false] at hw
    rcases hw with (rfl | rfl | rfl) | (rfl | hw)
    · exact w1
    · exact w2
    · exact w4
    · exact hcw
    · exact hw
  exact fun H locs ls hz2 hP hS hl => va_callv (va_runS (As := As) (rest := st) (n := n) ⟨hx, hb, hml, hown, hts⟩ hC (va_cwS n hts (gT_good hgd) rfl rfl rfl hy ⟨by show d + 1 ≤ R.frames; omega, by show 8 + (mL + 11) + 64 * d ≤ R.locals; omega⟩) ⟨PreA.blind C z N cf _, fun U hU hW => ⟨rfl, by rw [hU]; exact hz2, by rw [hU]; exact hP, hK.warm hW⟩⟩ rfl hn hl.1 rfl (lv_room hst) hd ⟨by omega, by omega⟩) hS (fun q _ h => h) (fun q h => h) (fun u t H1 locs1 ht _ _ hB _ _ hS1 => kk H1 locs1 ls (by rw [← ht]; exact hB.1) (by rw [← ht]; exact hB.2) hS1 hl)
