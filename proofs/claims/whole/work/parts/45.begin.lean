/-! THE CLAIM OUT OF ONE WALK OF THE LAW'S BODY. Your part is whole_start (and what it stands on); all else here is the same for every law, but numbers. -/
def R_law : String := "RiverBureauLaw"
def lw_P (b : Addr) (xs : List Int32) (args : Array Value) (s : State) : Prop := args = #[.ref b] ∧ s.IntsAt b xs ∧ xs.length ≤ 384 ∧ (Jvm.Cond.and given_1 narrow_1).before args s = true
def lw_Q (_ : Array Value) (s : State) (o : Outcome) (t : State) : Prop := o = .returned (some (.int 1)) ∧ Framed s o t [] 600000 7302250
def lw_Z (below : List Frame) (a : Array Value) (s : State) : State → Prop := fun t => ∃ o, t.status = .running ∧ Ended t below o ∧ lw_Q a s o t
/-- the law's own end, with 1 on the stack, nothing written that was there before, its room as the claim has it -/
theorem lw_ret {p : Program} {l : Launch} {e : Env} {s : State} {m : MethodId} {below : List Frame} {meth : Method} {c : Code} {b : Nat} (hx : p.tables.exec = Jvm.exec) (hb : c.code = code) (hr : meth.sig.returnType = ret) (hlocks : meth.locks = false) {pc : Nat} {H : Heap} {ls : Array Slot} (hdg : decode code pc = .ok (.ireturn, 1)) : W p l e room_1 s m #[Value.ref b] below meth c H [] 600000 7302250 (lw_Z below #[Value.ref b] s) (F0 m pc ls [.int 1]) := by
  intro T hT X
  obtain ⟨fs, hret, hrun, hended, hW, hframe⟩ := X.leave (v := some (.int 1)) (hlocks := hlocks) (fun h => by rw [hr] at h; cases h)
  have hmeth' : T.vm.method? m = some meth := X.method'
  refine ⟨T.setFrames fs, ?_, .returned (some (.int 1)), hrun, hended, rfl, ⟨_, rfl⟩, hW, hframe⟩
  jvm_step X.here [X.here.top, hx, hb, hdg, hmeth', hr, ret, narrow_b1]
  (try refine ⟨rfl, ?_⟩); (try refine ⟨rfl, ?_⟩)
  first | (intro acts; rw [hret _ acts rfl rfl rfl]) | rw [hret _ _ rfl rfl rfl]
  exact Steps.refl _
/-- what holds at the law's entry: the machine, the code, the tables' words (any of lw_tbl by 'hts w (by decide +kernel)'), the script of L ints xs at the cell b, what the Statement gives of the start (any of its parts by flat_of_before) -/
def lw_At (p : Program) (s : State) (m : MethodId) (meth : Method) (c : Code) (b L : Nat) (xs : Nat → Int32) : Prop :=
  p.tables.exec = Jvm.exec ∧ c.code = code ∧ meth.sig.returnType = ret ∧ c.maxLocals = 4 ∧ s.vm.findClass R_law = some m.cls ∧ (∀ w ∈ lw_tbl, w.before #[Value.ref b] s = true) ∧ va_X b L xs s s.heap ∧ b < s.heap.size ∧ meth.locks = false ∧ (Jvm.Cond.and given_1 narrow_1).before #[Value.ref b] s = true

theorem tz_94 : Cond.classLink RL 7 RX9 ∈ gT := gT_mem 94 (by decide +kernel) (by decide +kernel)
theorem tz_993 : Cond.classLink RL 10 RX10 ∈ gT := gT_mem 993 (by decide +kernel) (by decide +kernel)
theorem tz_96 : Cond.methodLink RL 9 yX9_init ∈ gT := gT_mem 96 (by decide +kernel) (by decide +kernel)
theorem tz_995 : Cond.methodLink RL 12 yX10_init ∈ gT := gT_mem 995 (by decide +kernel) (by decide +kernel)
theorem tl_aoF : Cond.arrayOver (.object "RiverBureau$Flow") ∈ lw_tbl := List.mem_of_getElem? (i := 245) (by decide +kernel)
theorem tl_aoK : Cond.arrayOver (.object "RiverBureau$Kept") ∈ lw_tbl := List.mem_of_getElem? (i := 259) (by decide +kernel)
theorem tl_aoA : Cond.arrayOver (.array .int) ∈ lw_tbl := List.mem_of_getElem? (i := 109) (by decide +kernel)
theorem tl_L : Cond.laysStatic "RiverBureau$Chart" "LETTERS" "[I" ∈ lw_tbl := List.mem_of_getElem? (i := 551) (by decide +kernel)
theorem tl_P : Cond.laysStatic "RiverBureau$Chart" "PARENTS" "[I" ∈ lw_tbl := List.mem_of_getElem? (i := 573) (by decide +kernel)

theorem st_K {s : State} {args : Array Value} (hts : ∀ w ∈ lw_tbl, w.before args s = true) : ∃ C : Gd, KA C s := by
  have hg : ∀ w ∈ gT, w.before args s = true := fun w hw => hts w (List.mem_filter.mp hw).1
  obtain ⟨c0, i0, k0⟩ := u_known (C := RX0) (T := TX0) (N := 9) (n := 9) hg inW_0 (hg _ ins_0)
  obtain ⟨c1, i1, k1⟩ := u_known (C := RX1) (T := TX1) (N := 2) (n := 2) hg inW_1 (hg _ ins_1)
  obtain ⟨c2, i2, k2⟩ := u_known (C := RX2) (T := TX2) (N := 7) (n := 7) hg inW_2 (hg _ ins_2)
  obtain ⟨c3, i3, k3⟩ := u_known (C := RX3) (T := TX3) (N := 3) (n := 3) hg inW_3 (hg _ ins_3)
  obtain ⟨c4, i4, k4⟩ := u_known (C := RX4) (T := TX4) (N := 3) (n := 3) hg inW_4 (hg _ ins_4)
  obtain ⟨c5, i5, k5⟩ := u_known (C := RX5) (T := TX5) (N := 9) (n := 9) hg inW_5 (hg _ ins_5)
  obtain ⟨c6, i6, k6⟩ := u_known (C := RX6) (T := TX6) (N := 6) (n := 6) hg inW_6 (hg _ ins_6)
  obtain ⟨c7, i7, k7⟩ := u_known (C := RX7) (T := TX7) (N := 3) (n := 3) hg inW_7 (hg _ ins_7)
  obtain ⟨c8, i8, k8⟩ := u_known (C := RX8) (T := TX8) (N := 3) (n := 3) hg inW_8 (hg _ ins_8)
  obtain ⟨c9, i9, k9⟩ := u_known (C := RX9) (T := TX9) (N := 16) (n := 16) hg inW_9 (hg _ ins_9)
  obtain ⟨c10, i10, k10⟩ := u_known (C := RX10) (T := TX10) (N := 44) (n := 44) hg inW_10 (hg _ ins_10)
  obtain ⟨a11, ka11, co11, f11, g11, h11⟩ := Cond.arrayClass_spec (hg _ tw_arB)
  obtain ⟨a12, ka12, co12, f12, g12, h12⟩ := Cond.arrayClass_spec (hg _ tw_arI)
  obtain ⟨a13, ka13, co13, f13, g13, h13⟩ := Cond.arrayClass_spec (hg _ tw_arJ)
  obtain ⟨a14, ka14, co14, f14, g14, h14⟩ := Cond.arrayClass_spec (hg _ tw_arZ)
  obtain ⟨co15, a15, ka15, e15, -, g15, h15, f15⟩ := Cond.arrayOver_spec (hts _ tl_aoF)
  obtain ⟨co16, a16, ka16, e16, -, g16, h16, f16⟩ := Cond.arrayOver_spec (hts _ tl_aoK)
  obtain ⟨co17, a17, ka17, e17, g17, h17, f17⟩ := Cond.arrayOver_specA (hts _ tl_aoA)
  refine ⟨((fun k => match k with | 0 => c0 | 1 => c1 | 2 => c2 | 3 => c3 | 4 => c4 | 5 => c5 | 6 => c6 | 7 => c7 | 8 => c8 | 9 => c9 | _ => c10, fun k => match k with | 0 => i0 | 1 => i1 | 2 => i2 | 3 => i3 | 4 => i4 | 5 => i5 | 6 => i6 | 7 => i7 | 8 => i8 | 9 => i9 | _ => i10), fun k => match k with | 11 => a11 | 12 => a12 | 13 => a13 | 14 => a14 | 15 => a15 | 16 => a16 | _ => a17), ⟨fun c q hq => ?_, fun k q hk => ?_⟩, fun w hw => ?_, va_AO.of (hts _ tl_aoF), va_AO.of (hts _ tl_aoK), hts _ tl_aoA⟩
  · match c, hq with
    | 0, hq => cases hq; exact k0
    | 1, hq => cases hq; exact k1
    | 2, hq => cases hq; exact k2
    | 3, hq => cases hq; exact k3
    | 4, hq => cases hq; exact k4
    | 5, hq => cases hq; exact k5
    | 6, hq => cases hq; exact k6
    | 7, hq => cases hq; exact k7
    | 8, hq => cases hq; exact k8
    | 9, hq => cases hq; exact k9
    | 10, hq => cases hq; exact k10
    | n + 11, hq => cases hq
  · match k, hk with
    | 0, hk => cases hk; exact ⟨fun n z => ⟨fun q h => (by cases h), ka11, g11, co11, h11⟩, f11⟩
    | 1, hk => cases hk; exact ⟨fun n z => ⟨fun q h => (by cases h), ka12, g12, co12, h12⟩, f12⟩
    | 2, hk => cases hk; exact ⟨fun n z => ⟨fun q h => (by cases h), ka13, g13, co13, h13⟩, f13⟩
    | 3, hk => cases hk; exact ⟨fun n z => ⟨fun q h => (by cases h), ka14, g14, co14, h14⟩, f14⟩
    | 4, hk => cases hk; exact ⟨fun n z => ⟨fun q h => (by cases h), ka15, g15, co15, h15⟩, ka15, co15, g15, h15, e15, f15⟩
    | 5, hk => cases hk; exact ⟨fun n z => ⟨fun q h => (by cases h), ka16, g16, co16, h16⟩, ka16, co16, g16, h16, e16, f16⟩
    | 6, hk => cases hk; exact ⟨fun n z => ⟨fun q h => (by cases h), ka17, g17, co17, h17⟩, f17⟩
    | n + 7, hk => cases hk
  · have h1 := hts w (List.mem_filter.mp hw).1
    have h2 := (List.mem_filter.mp hw).2
    cases w <;> first | (simp [isNst] at h2; done) | exact va_Nw.of rfl h1

