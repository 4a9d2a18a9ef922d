/-! the words that keep -/
def gT : List Cond := lw_tbl.filter goodWord
theorem gT_mem {w : Cond} (i : Nat) (h : lw_tbl[i]? = some w) (hg : goodWord w = true) : w ∈ gT := List.mem_filter.mpr ⟨List.mem_of_getElem? h, hg⟩
theorem gT_good {ws : List Cond} (h : ∀ w ∈ ws, w ∈ gT) : GoodIn gT ws := fun w hw => ⟨h w hw, good_of_word (List.mem_filter.mp (h w hw)).2⟩
def wT (y : MethodName) (cc : ByteArray) (n : Nat) (ret : Option FieldType) : List Cond := .code y cc n ret :: gT
def isNst : Cond → Bool
  | .methodLinkNest .. => true
  | _ => false
def nT : List Cond := lw_tbl.filter isNst
theorem nT_mem {w : Cond} (i : Nat) (h : lw_tbl[i]? = some w) (hg : isNst w = true) : w ∈ nT := List.mem_filter.mpr ⟨List.mem_of_getElem? h, hg⟩
theorem nT_warm {s U : State} (hW : s.WarmedH U.vm) (h : ∀ w ∈ nT, va_Nw w s) : ∀ w ∈ nT, va_Nw w U := by
  intro w hw
  have h1 := h w hw
  have h2 := (List.mem_filter.mp hw).2
  cases w <;> first | (simp [isNst] at h2; done) | exact va_Nw.warmM hW h1
theorem nT_same {s U : State} (e : s.vm = U.vm) (h : ∀ w ∈ nT, va_Nw w s) : ∀ w ∈ nT, va_Nw w U := by
  intro w hw
  have h1 := h w hw
  have h2 := (List.mem_filter.mp hw).2
  cases w <;> first | (simp [isNst] at h2; done) | exact va_Nw.same rfl e h1
/-! the cells' kinds and lengths by their numbers -/
def kdA : List Nat := [9, 12, 16, 2, 7, 12, 17, 12, 12, 12, 12, 12, 12, 7, 12, 17, 12, 12, 12, 12, 0, 12, 12, 12, 12, 12, 12, 12, 0, 12, 12, 12, 12, 12, 12, 12, 6, 12, 6, 12, 5, 12, 12, 15, 2, 2, 2, 2, 1, 13, 12, 4, 12, 13, 3, 12, 3, 12, 3, 12]
def lnA : List Nat := [0, 6, 3, 0, 0, 6, 6, 40, 40, 40, 40, 40, 40, 0, 4, 4, 60, 60, 60, 60, 0, 5, 5, 5, 5, 5, 5, 32, 0, 5, 5, 5, 5, 5, 5, 32, 0, 60, 0, 60, 0, 3, 3, 4, 0, 0, 0, 0, 0, 32, 32, 0, 5, 32, 0, 5, 0, 5, 0, 5]
def lnM : List Nat := [6, 6, 240, 40, 4, 240, 5, 5, 5, 5, 5, 5, 25, 5, 186, 5, 1860, 3, 3, 93, 15, 5580, 4, 4, 20, 20, 5]
def kd (k : Nat) : Nat := if k < 60 then kdA.getD k 99 else if k < 312 then (if (k - 60) % 63 = 0 then 8 else if (k - 60) % 63 = 2 then 15 else 2) else if k = 312 then 10 else if k < 340 then (if k = 318 then 11 else if k = 330 then 14 else 12) else 99
def ln (k : Nat) : Nat := if k < 60 then lnA.getD k 0 else if k < 312 then (if (k - 60) % 63 = 2 then 60 else 0) else lnM.getD (k - 313) 0
theorem kd_lt {k : Nat} (h : kd k ≠ 99) : k < 340 := by
  unfold kd at h
  by_cases h1 : k < 60
  · omega
  · by_cases h2 : k < 312
    · omega
    · by_cases h3 : k = 312
      · omega
      · by_cases h4 : k < 340
        · exact h4
        · simp [h1, h2, h3, h4] at h
/-- classes and their slots, array classes by their kinds, addresses by the cells' numbers, addresses of the static arrays -/
abbrev Gs : Type := va_G × (Nat → ClassId) × (Nat → Nat) × (Nat → Nat)
def ad (G : Gs) (k : Nat) : Nat := G.2.2.1 k
abbrev rv (G : Gs) (k : Nat) : Value := .ref (ad G k)
def cel (G : Gs) (M : Mm) (k : Nat) : va_E :=
  match kd k with
  | 0 => .inr (0, [rv G (k + 1), rv G (k + 2), rv G (k + 3), rv G (k + 4), rv G (k + 5), rv G (k + 6), rv G (k + 7), .int (gi M k 7), .int (gi M k 8)])
  | 1 => .inr (1, [rv G (k + 1), rv G (k + 2)])
  | 2 => .inr (2, [.int (gi M k 0), .int (gi M k 1), .int (gi M k 2), .int (gi M k 3), .int (gi M k 4), .int (gi M k 5), .long (gl M k 6)])
  | 3 => .inr (3, [rv G (stOf k), rv G (k + 1), .int (gi M k 2)])
  | 4 => .inr (4, [rv G (20), rv G (k + 1), rv G (k + 2)])
  | 5 => .inr (5, [rv G (k + 1), .int (gi M k 1), .int (gi M k 2), rv G (20), rv G (k + 3), rv G (k + 2), .int (gi M k 6), .int (gi M k 7), .int (gi M k 8)])
  | 6 => .inr (6, [rv G (chOf k), rv G (k + 1), .int (gi M k 2), .int (gi M k 3), .int (gi M k 4), .int (gi M k 5)])
  | 7 => .inr (7, [.int (gi M k 0), rv G (k + 2), rv G (k + 1)])
  | 8 => .inr (8, [rv G (k + 1), rv G (k + 2), .int (gi M k 2)])
  | 9 => .inr (9, [rv G (4), rv G (13), rv G (20), rv G (36), rv G (38), rv G (60), rv G (2), rv G (3), rv G (40), rv G (48), rv G (51), rv G (1), .int (gi M k 12), .int (gi M k 13), .long (gl M k 14), .long (gl M k 15)])
  | 10 => .inr (10, [.int (gi M k 0), rv G (313), .int (gi M k 2), .long (gl M k 3), .long (gl M k 4), rv G (314), rv G (315), rv G (316), rv G (317), rv G (318), .int (gi M k 10), .int (gi M k 11), rv G (319), rv G (320), rv G (321), rv G (322), rv G (323), rv G (324), .int (gi M k 18), .int (gi M k 19), .int (gi M k 20), .int (gi M k 21), .int (gi M k 22), rv G (325), rv G (326), rv G (327), .int (gi M k 26), rv G (328), .int (gi M k 28), rv G (329), rv G (330), rv G (331), rv G (332), rv G (333), rv G (334), rv G (335), rv G (336), .int (gi M k 37), .int (gi M k 38), rv G (337), rv G (338), rv G (339), .int (gi M k 42), .long (gl M k 43)])
  | 11 => .inl (G.2.1 11, ln k, .inl (gi M k))
  | 12 => .inl (G.2.1 12, ln k, .inl (gi M k))
  | 13 => .inl (G.2.1 13, ln k, .inr (.inl (gl M k)))
  | 14 => .inl (G.2.1 14, ln k, .inl (gi M k))
  | 15 => .inl (G.2.1 15, ln k, .inr (.inr (.inr (.inr (fun j => some (ad G (k + 1 + j)))))))
  | 16 => .inl (G.2.1 16, ln k, .inr (.inr (.inr (.inr (fun j => some (ad G (54 + 2 * j)))))))
  | _ => .inl (G.2.1 17, ln k, .inr (.inr (.inr (.inr (fun j => some (ad G (k + 1 + j)))))))
theorem cel_0 (G : Gs) (M : Mm) {k : Nat} (h : kd k = 0) : cel G M k = .inr (0, [rv G (k + 1), rv G (k + 2), rv G (k + 3), rv G (k + 4), rv G (k + 5), rv G (k + 6), rv G (k + 7), .int (gi M k 7), .int (gi M k 8)]) := by unfold cel; rw [h]; rfl
theorem cel_1 (G : Gs) (M : Mm) {k : Nat} (h : kd k = 1) : cel G M k = .inr (1, [rv G (k + 1), rv G (k + 2)]) := by unfold cel; rw [h]; rfl
theorem cel_2 (G : Gs) (M : Mm) {k : Nat} (h : kd k = 2) : cel G M k = .inr (2, [.int (gi M k 0), .int (gi M k 1), .int (gi M k 2), .int (gi M k 3), .int (gi M k 4), .int (gi M k 5), .long (gl M k 6)]) := by unfold cel; rw [h]; rfl
theorem cel_3 (G : Gs) (M : Mm) {k : Nat} (h : kd k = 3) : cel G M k = .inr (3, [rv G (stOf k), rv G (k + 1), .int (gi M k 2)]) := by unfold cel; rw [h]; rfl
theorem cel_4 (G : Gs) (M : Mm) {k : Nat} (h : kd k = 4) : cel G M k = .inr (4, [rv G (20), rv G (k + 1), rv G (k + 2)]) := by unfold cel; rw [h]; rfl
theorem cel_5 (G : Gs) (M : Mm) {k : Nat} (h : kd k = 5) : cel G M k = .inr (5, [rv G (k + 1), .int (gi M k 1), .int (gi M k 2), rv G (20), rv G (k + 3), rv G (k + 2), .int (gi M k 6), .int (gi M k 7), .int (gi M k 8)]) := by unfold cel; rw [h]; rfl
theorem cel_6 (G : Gs) (M : Mm) {k : Nat} (h : kd k = 6) : cel G M k = .inr (6, [rv G (chOf k), rv G (k + 1), .int (gi M k 2), .int (gi M k 3), .int (gi M k 4), .int (gi M k 5)]) := by unfold cel; rw [h]; rfl
theorem cel_7 (G : Gs) (M : Mm) {k : Nat} (h : kd k = 7) : cel G M k = .inr (7, [.int (gi M k 0), rv G (k + 2), rv G (k + 1)]) := by unfold cel; rw [h]; rfl
theorem cel_8 (G : Gs) (M : Mm) {k : Nat} (h : kd k = 8) : cel G M k = .inr (8, [rv G (k + 1), rv G (k + 2), .int (gi M k 2)]) := by unfold cel; rw [h]; rfl
theorem cel_9 (G : Gs) (M : Mm) {k : Nat} (h : kd k = 9) : cel G M k = .inr (9, [rv G (4), rv G (13), rv G (20), rv G (36), rv G (38), rv G (60), rv G (2), rv G (3), rv G (40), rv G (48), rv G (51), rv G (1), .int (gi M k 12), .int (gi M k 13), .long (gl M k 14), .long (gl M k 15)]) := by unfold cel; rw [h]; rfl
theorem cel_10 (G : Gs) (M : Mm) {k : Nat} (h : kd k = 10) : cel G M k = .inr (10, [.int (gi M k 0), rv G (313), .int (gi M k 2), .long (gl M k 3), .long (gl M k 4), rv G (314), rv G (315), rv G (316), rv G (317), rv G (318), .int (gi M k 10), .int (gi M k 11), rv G (319), rv G (320), rv G (321), rv G (322), rv G (323), rv G (324), .int (gi M k 18), .int (gi M k 19), .int (gi M k 20), .int (gi M k 21), .int (gi M k 22), rv G (325), rv G (326), rv G (327), .int (gi M k 26), rv G (328), .int (gi M k 28), rv G (329), rv G (330), rv G (331), rv G (332), rv G (333), rv G (334), rv G (335), rv G (336), .int (gi M k 37), .int (gi M k 38), rv G (337), rv G (338), rv G (339), .int (gi M k 42), .long (gl M k 43)]) := by unfold cel; rw [h]; rfl
theorem cel_11 (G : Gs) (M : Mm) {k : Nat} (h : kd k = 11) : cel G M k = .inl (G.2.1 11, ln k, .inl (gi M k)) := by unfold cel; rw [h]; rfl
theorem cel_12 (G : Gs) (M : Mm) {k : Nat} (h : kd k = 12) : cel G M k = .inl (G.2.1 12, ln k, .inl (gi M k)) := by unfold cel; rw [h]; rfl
theorem cel_13 (G : Gs) (M : Mm) {k : Nat} (h : kd k = 13) : cel G M k = .inl (G.2.1 13, ln k, .inr (.inl (gl M k))) := by unfold cel; rw [h]; rfl
theorem cel_14 (G : Gs) (M : Mm) {k : Nat} (h : kd k = 14) : cel G M k = .inl (G.2.1 14, ln k, .inl (gi M k)) := by unfold cel; rw [h]; rfl
theorem cel_15 (G : Gs) (M : Mm) {k : Nat} (h : kd k = 15) : cel G M k = .inl (G.2.1 15, ln k, .inr (.inr (.inr (.inr (fun j => some (ad G (k + 1 + j))))))) := by unfold cel; rw [h]; rfl
theorem cel_16 (G : Gs) (M : Mm) {k : Nat} (h : kd k = 16) : cel G M k = .inl (G.2.1 16, ln k, .inr (.inr (.inr (.inr (fun j => some (ad G (54 + 2 * j))))))) := by unfold cel; rw [h]; rfl
theorem cel_17 (G : Gs) (M : Mm) {k : Nat} (h : kd k = 17) : cel G M k = .inl (G.2.1 17, ln k, .inr (.inr (.inr (.inr (fun j => some (ad G (k + 1 + j))))))) := by unfold cel; rw [h]; rfl

theorem cel_si (G : Gs) (M : Mm) {k j a : Nat} {x : Int32} (h : a ≠ k) : cel G (si M k j x) a = cel G M a := by
  have e : gi (si M k j x) a = gi M a := by funext b; exact gi_si_ne (Or.inl h)
  have e2 : gl (si M k j x) a = gl M a := rfl
  unfold cel
  simp only [e, e2]
theorem cel_sl (G : Gs) (M : Mm) {k j a : Nat} {x : Int64} (h : a ≠ k) : cel G (sl M k j x) a = cel G M a := by
  have e : gl (sl M k j x) a = gl M a := by funext b; exact gl_sl_ne (Or.inl h)
  have e2 : gi (sl M k j x) a = gi M a := rfl
  unfold cel
  simp only [e, e2]
theorem cel_cpi (G : Gs) (M : Mm) {k0 k1 sp dp n a : Nat} (h : a ≠ k1) : cel G (cpi M k0 k1 sp dp n) a = cel G M a := by
  have e : gi (cpi M k0 k1 sp dp n) a = gi M a := by funext b; rw [gi_cpi, if_neg h]
  have e2 : gl (cpi M k0 k1 sp dp n) a = gl M a := rfl
  unfold cel
  simp only [e, e2]
def cells (G : Gs) (M : Mm) : va_W := (List.range 340).map (fun k => (ad G k, cel G M k))
theorem cells_get (G : Gs) (M : Mm) {k : Nat} (h : k < 340) : (cells G M)[k]? = some (ad G k, cel G M k) := by
  unfold cells
  rw [List.getElem?_map, List.getElem?_range h]
  rfl
theorem cells_none (G : Gs) (M : Mm) {k : Nat} (h : ¬ k < 340) : (cells G M)[k]? = none := by
  apply List.getElem?_eq_none
  unfold cells
  rw [List.length_map, List.length_range]
  omega
theorem cells_set {G : Gs} {M M' : Mm} {k : Nat} {e : va_E} (hk : cel G M' k = e) (ho : ∀ a, a ≠ k → cel G M' a = cel G M a) : (cells G M).set k (ad G k, e) = cells G M' := by
  apply List.ext_getElem?
  intro i
  by_cases hi : i < 340
  · rw [List.getElem?_set, cells_get G M' hi, cells_get G M hi]
    have hl : (cells G M).length = 340 := by unfold cells; rw [List.length_map, List.length_range]
    by_cases e1 : k = i
    · subst e1
      rw [if_pos rfl, if_pos (by rw [hl]; exact hi), hk]
    · rw [if_neg e1, ho i (fun q => e1 q.symm)]
  · rw [cells_none G M' hi, List.getElem?_set, cells_none G M hi]
    have hl : (cells G M).length = 340 := by unfold cells; rw [List.length_map, List.length_range]
    by_cases e1 : k = i
    · rw [if_pos e1, if_neg (by rw [hl]; omega)]
    · rw [if_neg e1]
def AA (G : Gs) : Nat → Prop := fun q => ∃ k, k < 340 ∧ q = ad G k
def Aj (G : Gs) : Prop := ∀ i j, i < 340 → j < 340 → ad G i = ad G j → i = j
theorem cells_D {G : Gs} (h : Aj G) (M : Mm) : va_D (AA G) (cells G M) := by
  refine ⟨fun i j p q hi hj e => ?_, fun k q hk => ?_⟩
  · by_cases h1 : i < 340
    · by_cases h2 : j < 340
      · rw [cells_get G M h1] at hi
        rw [cells_get G M h2] at hj
        cases hi; cases hj
        exact h i j h1 h2 e
      · rw [cells_none G M h2] at hj; cases hj
    · rw [cells_none G M h1] at hi; cases hi
  · by_cases h1 : k < 340
    · rw [cells_get G M h1] at hk
      cases hk
      exact ⟨k, h1, rfl⟩
    · rw [cells_none G M h1] at hk; cases hk
def tysG (G : Gs) : List (ClassId × FieldType) := [(G.2.1 11, .byte), (G.2.1 12, .int), (G.2.1 13, .long), (G.2.1 14, .boolean), (G.2.1 15, .object "RiverBureau$Flow"), (G.2.1 16, .object "RiverBureau$Kept"), (G.2.1 17, .array .int)]
def St (G : Gs) (U : State) (H : Heap) : Prop := va_Z "RiverBureau$Chart" "LETTERS" "[I" (.ref (G.2.2.2 0)) (AA G) U H ∧ va_T .int (G.2.2.2 0) 6 (fun j => .int (letT.getD j 0)) (AA G) U H ∧ va_Z "RiverBureau$Chart" "PARENTS" "[I" (.ref (G.2.2.2 1)) (AA G) U H ∧ va_T .int (G.2.2.2 1) 6 (fun j => .int (parT.getD j 0)) (AA G) U H
theorem St.moved {G : Gs} {u U : State} {H : Heap} (hvm : u.vm.Alike U.vm) (h : St G u H) : St G U H := ⟨h.1.moved hvm, h.2.1.moved hvm, h.2.2.1.moved hvm, h.2.2.2.moved hvm⟩
theorem St.kept {G : Gs} {U : State} {H H1 : Heap} (h : St G U H) (hq : ∀ a : Nat, a < H.size → ¬ AA G a → H1[a]? = H[a]?) : St G U H1 := ⟨h.1.kept hq, h.2.1.kept hq, h.2.2.1.kept hq, h.2.2.2.kept hq⟩
def KK (G : Gs) (U : State) : Prop := va_K G.1 vwCl (tysG G) U ∧ Aj G ∧ ∀ w ∈ nT, va_Nw w U
theorem KK.warm {G : Gs} {s U : State} (hW : s.WarmedH U.vm) (h : KK G s) : KK G U := ⟨va_K.moved hW.alike h.1, h.2.1, nT_warm hW h.2.2⟩
/-- the world at a method's start -/
def Pre (G : Gs) (M : Mm) (U : State) : Prop := va_P G.1 vwCl (cells G M) U.heap ∧ KK G U ∧ St G U U.heap
abbrev Pst (G : Gs) (M : Mm) (t : State) : Prop := va_P G.1 vwCl (cells G M) t.heap
theorem Pre.blind (G : Gs) (M : Mm) (av : List Value) : FrameBlind (va_Pc av (Pre G M)) := by
  intro a U g mk q
  obtain ⟨q0, qP, ⟨qK, qA, qN⟩, qS⟩ := q
  exact ⟨q0, qP, ⟨va_K.moved (u := U) (U := U.calling g mk a) (Vm.Alike.refl U.vm) qK, qA, nT_same (s := U) (U := U.calling g mk a) rfl qN⟩, qS.moved (u := U) (U := U.calling g mk a) (Vm.Alike.refl U.vm)⟩
def rmd (d : Nat) : Room := { frames := d, cells := 0, slots := 0, locals := 64 * d }
/-- contracts: int, long, void -/
def CtI (l : Launch) (G : Gs) (d : Nat) (y : MethodName) (cc : ByteArray) (n : Nat) (ret : Option FieldType) (av : List Value) (M : Mm) (Q : Int32 → Mm → Prop) : Prop :=
  Met l y (wT y cc n ret) (rmd d) (va_Pc av (Pre G M)) (va_Qi Q (Pst G) (AA G)) 0 0 (AA G)
def CtL (l : Launch) (G : Gs) (d : Nat) (y : MethodName) (cc : ByteArray) (n : Nat) (ret : Option FieldType) (av : List Value) (M : Mm) (Q : Int64 → Mm → Prop) : Prop :=
  Met l y (wT y cc n ret) (rmd d) (va_Pc av (Pre G M)) (va_Ql Q (Pst G) (AA G)) 0 0 (AA G)
def CtV (l : Launch) (G : Gs) (d : Nat) (y : MethodName) (cc : ByteArray) (n : Nat) (ret : Option FieldType) (av : List Value) (M : Mm) (Q : Mm → Prop) : Prop :=
  Met l y (wT y cc n ret) (rmd d) (va_Pc av (Pre G M)) (va_Qv Q (Pst G) (AA G)) 0 0 (AA G)
/-- the machine at pc, with known locals and operands, over the memory M, comes to the end that is due -/
def VV (p : Program) (l : Launch) (e : Env) (R : Room) (s : State) (m : MethodId) (args : Array Value) (below : List Frame) (meth : Method) (c : Code) (cs sz nL : Nat) (G : Gs) (QF : State → Prop) : Nat → List (Nat × Value) → List Value → Mm → Prop :=
  fun pc lv st M => ∀ (H : Heap) (locs : List Loc) (ls : Array Slot), va_P G.1 vwCl (cells G M) H → va_S (AA G) s.heap H locs → lv_has ls nL lv → W p l e R s m args below meth c H locs cs sz QF (F0 m pc ls st)
abbrev EE : Type := Nat → List (Nat × Value) → List Value → Mm → Prop
def Mach (l : Launch) (G : Gs) (own : String) (cc : ByteArray) (nL d : Nat) (E : EE) : Prop :=
  ∃ (p : Program) (e : Env) (R : Room) (s : State) (m : MethodId) (args : Array Value) (below : List Frame) (meth : Method) (c : Code) (cs sz : Nat) (QF : State → Prop),
    p.tables.exec = Jvm.exec ∧ c.code = cc ∧ c.maxLocals = nL ∧ s.vm.findClass own = some m.cls ∧ (∀ w ∈ gT, w.before args s = true) ∧ KK G s ∧ St G s s.heap ∧ (d ≤ R.frames ∧ 64 * d ≤ R.locals ∧ cs ≤ R.cells ∧ sz ≤ R.slots) ∧ E = VV p l e R s m args below meth c cs sz nL G QF
def RtI (cc : ByteArray) (E : EE) (Q : Int32 → Mm → Prop) : Prop := ∀ {pc : Nat} {lv : List (Nat × Value)} {x : Int32} {M : Mm}, decode cc pc = .ok (.ireturn, 1) → Q x M → E pc lv [.int x] M
def RtZ (cc : ByteArray) (E : EE) (Q : Int32 → Mm → Prop) : Prop := ∀ {pc : Nat} {lv : List (Nat × Value)} {x : Int32} {M : Mm}, decode cc pc = .ok (.ireturn, 1) → zb x → Q x M → E pc lv [.int x] M
def RtL (cc : ByteArray) (E : EE) (Q : Int64 → Mm → Prop) : Prop := ∀ {pc : Nat} {lv : List (Nat × Value)} {x : Int64} {M : Mm}, decode cc pc = .ok (.lreturn, 1) → Q x M → E pc lv [.long x] M
def RtV (cc : ByteArray) (E : EE) (Q : Mm → Prop) : Prop := ∀ {pc : Nat} {lv : List (Nat × Value)} {M : Mm}, decode cc pc = .ok (.return_, 1) → Q M → E pc lv [] M
theorem zb_nar {x : Int32} (h : zb x) : narrow .boolean (.int x) = .int x := by
  rcases h with rfl | rfl <;> rfl

set_option maxHeartbeats 4000000 in
theorem CtI.mk {l : Launch} {G : Gs} {d : Nat} {y : MethodName} {cc : ByteArray} {n : Nat} {av : List Value} {M : Mm} {Q : Int32 → Mm → Prop} {own : String} (hy : plainName y.cls = true) (ho : y.cls = own) (hlen : (lg_sl av).length ≤ n)
    (h : ∀ E : EE, Mach l G own cc n d E → RtI cc E Q → E 0 (lv_args 0 av) [] M) : CtI l G d y cc n (some .int) av M Q := by
  subst ho
  refine Met.ofW (cc := cc) (maxL := n) (ret := some .int) hy rfl ?_
  intro p e s m args below meth c s₁ B hml hv
  obtain ⟨rfl, hP, hK, hSt⟩ := hv
  have hts : ∀ w ∈ gT, w.before av.toArray s = true := fun w hw => atoms_spec (ws := wT y cc n (some .int)) B.pre w (List.mem_cons_of_mem _ hw)
  have hown : s.vm.findClass y.cls = some m.cls := findClass_of_methodNamed B.named
  have hr := B.returns
  have hlocks := B.notSynchronized
  have h0 := h (VV p l e (headSpec (wT y cc n (some .int)) (rmd d)).room s m av.toArray below meth c 0 0 n G (MQ below (va_Qi Q (Pst G) (AA G)) av.toArray s 0 0 (AA G)))
    ⟨p, e, _, s, m, av.toArray, below, meth, c, 0, 0, _, B.exec, B.bytes, hml, hown, hts, hK, hSt, ⟨Nat.le_refl d, Nat.le_refl _, Nat.zero_le _, Nat.zero_le _⟩, rfl⟩ ?_
  · have hl := lv_entry av (n := n) hlen
    rw [lg_entry_eq]
    exact h0 s.heap [] _ hP va_S.rf hl
  · intro pc lv x M2 hd hq H locs ls hP hS hl
    exact W.iret (v := x) B.exec B.bytes hr (fun t ht hW => ⟨⟨x, M2, rfl, hq, by show va_P _ _ _ t.heap; rw [ht]; exact hP⟩, hS.F ht⟩) hS.2.2 hd

set_option maxHeartbeats 4000000 in
theorem CtI.mkZ {l : Launch} {G : Gs} {d : Nat} {y : MethodName} {cc : ByteArray} {n : Nat} {av : List Value} {M : Mm} {Q : Int32 → Mm → Prop} {own : String} (hy : plainName y.cls = true) (ho : y.cls = own) (hlen : (lg_sl av).length ≤ n)
    (h : ∀ E : EE, Mach l G own cc n d E → RtZ cc E Q → E 0 (lv_args 0 av) [] M) : CtI l G d y cc n (some .boolean) av M Q := by
  subst ho
  refine Met.ofW (cc := cc) (maxL := n) (ret := some .boolean) hy rfl ?_
  intro p e s m args below meth c s₁ B hml hv
  obtain ⟨rfl, hP, hK, hSt⟩ := hv
  have hts : ∀ w ∈ gT, w.before av.toArray s = true := fun w hw => atoms_spec (ws := wT y cc n (some .boolean)) B.pre w (List.mem_cons_of_mem _ hw)
  have hown : s.vm.findClass y.cls = some m.cls := findClass_of_methodNamed B.named
  have hr := B.returns
  have hlocks := B.notSynchronized
  have h0 := h (VV p l e (headSpec (wT y cc n (some .boolean)) (rmd d)).room s m av.toArray below meth c 0 0 n G (MQ below (va_Qi Q (Pst G) (AA G)) av.toArray s 0 0 (AA G)))
    ⟨p, e, _, s, m, av.toArray, below, meth, c, 0, 0, _, B.exec, B.bytes, hml, hown, hts, hK, hSt, ⟨Nat.le_refl d, Nat.le_refl _, Nat.zero_le _, Nat.zero_le _⟩, rfl⟩ ?_
  · have hl := lv_entry av (n := n) hlen
    rw [lg_entry_eq]
    exact h0 s.heap [] _ hP va_S.rf hl
  · intro pc lv x M2 hd hz hq H locs ls hP hS hl
    exact W.zret (v := x) B.exec B.bytes hr (zb_nar hz) (fun t ht hW => ⟨⟨x, M2, rfl, hq, by show va_P _ _ _ t.heap; rw [ht]; exact hP⟩, hS.F ht⟩) hS.2.2 hd

set_option maxHeartbeats 4000000 in
theorem CtL.mk {l : Launch} {G : Gs} {d : Nat} {y : MethodName} {cc : ByteArray} {n : Nat} {av : List Value} {M : Mm} {Q : Int64 → Mm → Prop} {own : String} (hy : plainName y.cls = true) (ho : y.cls = own) (hlen : (lg_sl av).length ≤ n)
    (h : ∀ E : EE, Mach l G own cc n d E → RtL cc E Q → E 0 (lv_args 0 av) [] M) : CtL l G d y cc n (some .long) av M Q := by
  subst ho
  refine Met.ofW (cc := cc) (maxL := n) (ret := some .long) hy rfl ?_
  intro p e s m args below meth c s₁ B hml hv
  obtain ⟨rfl, hP, hK, hSt⟩ := hv
  have hts : ∀ w ∈ gT, w.before av.toArray s = true := fun w hw => atoms_spec (ws := wT y cc n (some .long)) B.pre w (List.mem_cons_of_mem _ hw)
  have hown : s.vm.findClass y.cls = some m.cls := findClass_of_methodNamed B.named
  have hr := B.returns
  have hlocks := B.notSynchronized
  have h0 := h (VV p l e (headSpec (wT y cc n (some .long)) (rmd d)).room s m av.toArray below meth c 0 0 n G (MQ below (va_Ql Q (Pst G) (AA G)) av.toArray s 0 0 (AA G)))
    ⟨p, e, _, s, m, av.toArray, below, meth, c, 0, 0, _, B.exec, B.bytes, hml, hown, hts, hK, hSt, ⟨Nat.le_refl d, Nat.le_refl _, Nat.zero_le _, Nat.zero_le _⟩, rfl⟩ ?_
  · have hl := lv_entry av (n := n) hlen
    rw [lg_entry_eq]
    exact h0 s.heap [] _ hP va_S.rf hl
  · intro pc lv x M2 hd hq H locs ls hP hS hl
    exact W.lret (v := x) B.exec B.bytes hr (fun t ht hW => ⟨⟨x, M2, rfl, hq, by show va_P _ _ _ t.heap; rw [ht]; exact hP⟩, hS.F ht⟩) hS.2.2 hd

set_option maxHeartbeats 4000000 in
theorem CtV.mk {l : Launch} {G : Gs} {d : Nat} {y : MethodName} {cc : ByteArray} {n : Nat} {av : List Value} {M : Mm} {Q : Mm → Prop} {own : String} (hy : plainName y.cls = true) (ho : y.cls = own) (hlen : (lg_sl av).length ≤ n)
    (h : ∀ E : EE, Mach l G own cc n d E → RtV cc E Q → E 0 (lv_args 0 av) [] M) : CtV l G d y cc n (none) av M Q := by
  subst ho
  refine Met.ofW (cc := cc) (maxL := n) (ret := none) hy rfl ?_
  intro p e s m args below meth c s₁ B hml hv
  obtain ⟨rfl, hP, hK, hSt⟩ := hv
  have hts : ∀ w ∈ gT, w.before av.toArray s = true := fun w hw => atoms_spec (ws := wT y cc n (none)) B.pre w (List.mem_cons_of_mem _ hw)
  have hown : s.vm.findClass y.cls = some m.cls := findClass_of_methodNamed B.named
  have hr := B.returns
  have hlocks := B.notSynchronized
  have h0 := h (VV p l e (headSpec (wT y cc n (none)) (rmd d)).room s m av.toArray below meth c 0 0 n G (MQ below (va_Qv Q (Pst G) (AA G)) av.toArray s 0 0 (AA G)))
    ⟨p, e, _, s, m, av.toArray, below, meth, c, 0, 0, _, B.exec, B.bytes, hml, hown, hts, hK, hSt, ⟨Nat.le_refl d, Nat.le_refl _, Nat.zero_le _, Nat.zero_le _⟩, rfl⟩ ?_
  · have hl := lv_entry av (n := n) hlen
    rw [lg_entry_eq]
    exact h0 s.heap [] _ hP va_S.rf hl
  · intro pc lv M2 hd hq H locs ls hP hS hl
    exact W.vret B.exec B.bytes hr (fun t ht hW => ⟨⟨M2, rfl, hq, by show va_P _ _ _ t.heap; rw [ht]; exact hP⟩, hS.F ht⟩) hS.2.2 hd
