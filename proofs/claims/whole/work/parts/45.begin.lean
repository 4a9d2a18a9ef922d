/-! THE CLAIM OUT OF ONE WALK OF THE LAW'S BODY. Your part is whole_start (and what it stands on); all else here is the same for every law, but numbers. -/
def R_law : String := "RiverBureauLaw"
def lw_P (b : Addr) (xs : List Int32) (args : Array Value) (s : State) : Prop := args = #[.ref b] ∧ s.IntsAt b xs ∧ xs.length ≤ 384 ∧ (Jvm.Cond.and given_1 narrow_1).before args s = true
def lw_Q (_ : Array Value) (s : State) (o : Outcome) (t : State) : Prop := o = .returned (some (.int 1)) ∧ Framed s o t [] 600000 7302250
def lw_Z (below : List Frame) (a : Array Value) (s : State) : State → Prop := fun t => ∃ o, t.status = .running ∧ Ended t below o ∧ lw_Q a s o t
/-- the law's own end, with 1 on the stack, nothing written that was there before, its room as the claim has it -/
theorem lw_ret {p : Program} {l : Launch} {e : Env} {s : State} {m : MethodId} {below : List Frame} {meth : Method} {c : Code} {b : Nat} (hx : p.tables.exec = Jvm.exec) (hb : c.code = code) (hr : meth.sig.returnType = ret) (hlocks : meth.locks = false) {pc : Nat} {H : Heap} {ls : Array Slot} (hdg : decode code pc = .ok (.ireturn, 1)) : W p l e room_1 s m #[Value.ref b] below meth c H [] 600000 7302250 (lw_Z below #[Value.ref b] s) (F0 m pc ls [.int 1]) := by
  intro T hT X
  obtain ⟨fs, hret, hrun, hended, hW, hframe⟩ := X.leave (v := some (.int 1)) (hlocks := hlocks) (fun h => by rw [hr] at h; cases h)
  have hmeth' : T.vm.method? m = some meth := X.method'
  refine ⟨T.setFrames fs, ?_, .returned (some (.int 1)), hrun, hended, rfl, ⟨_, rfl⟩, hW, hframe⟩
  jvm_step X.here [X.here.top, hx, hb, hdg, hmeth', hr, ret, narrow_b1]
  (try refine ⟨rfl, ?_⟩); (try refine ⟨rfl, ?_⟩)
  first | (intro acts; rw [hret _ acts rfl rfl rfl]) | rw [hret _ _ rfl rfl rfl]
  exact Steps.refl _
/-- what holds at the law's entry: the machine, the code, the tables' words (any of lw_tbl by 'hts w (by decide +kernel)'), the script of L ints xs at the cell b, what the Statement gives of the start (any of its parts by flat_of_before) -/
def lw_At (p : Program) (s : State) (m : MethodId) (meth : Method) (c : Code) (b L : Nat) (xs : Nat → Int32) : Prop :=
  p.tables.exec = Jvm.exec ∧ c.code = code ∧ meth.sig.returnType = ret ∧ c.maxLocals = 4 ∧ s.vm.findClass R_law = some m.cls ∧ (∀ w ∈ lw_tbl, w.before #[Value.ref b] s = true) ∧ va_X b L xs s s.heap ∧ b < s.heap.size ∧ meth.locks = false ∧ (Jvm.Cond.and given_1 narrow_1).before #[Value.ref b] s = true

theorem tz_94 : Cond.classLink RL 7 RX9 ∈ gT := gT_mem 94 (by decide +kernel) (by decide +kernel)
theorem tz_993 : Cond.classLink RL 10 RX10 ∈ gT := gT_mem 993 (by decide +kernel) (by decide +kernel)
theorem tz_96 : Cond.methodLink RL 9 yX9_init ∈ gT := gT_mem 96 (by decide +kernel) (by decide +kernel)
theorem tz_995 : Cond.methodLink RL 12 yX10_init ∈ gT := gT_mem 995 (by decide +kernel) (by decide +kernel)
theorem tl_aoF : Cond.arrayOver (.object "RiverBureau$Flow") ∈ lw_tbl := List.mem_of_getElem? (i := 245) (by decide +kernel)
theorem tl_aoK : Cond.arrayOver (.object "RiverBureau$Kept") ∈ lw_tbl := List.mem_of_getElem? (i := 259) (by decide +kernel)
theorem tl_aoA : Cond.arrayOver (.array .int) ∈ lw_tbl := List.mem_of_getElem? (i := 109) (by decide +kernel)
theorem tl_L : Cond.laysStatic "RiverBureau$Chart" "LETTERS" "[I" ∈ lw_tbl := List.mem_of_getElem? (i := 551) (by decide +kernel)
theorem tl_P : Cond.laysStatic "RiverBureau$Chart" "PARENTS" "[I" ∈ lw_tbl := List.mem_of_getElem? (i := 573) (by decide +kernel)

theorem st_K {s : State} {args : Array Value} (hts : ∀ w ∈ lw_tbl, w.before args s = true) : ∃ C : Gd, KA C s := by
  have hg : ∀ w ∈ gT, w.before args s = true := fun w hw => hts w (List.mem_filter.mp hw).1
  obtain ⟨c0, i0, k0⟩ := u_known (C := RX0) (T := TX0) (N := 9) (n := 9) hg inW_0 (hg _ ins_0)
  obtain ⟨c1, i1, k1⟩ := u_known (C := RX1) (T := TX1) (N := 2) (n := 2) hg inW_1 (hg _ ins_1)
  obtain ⟨c2, i2, k2⟩ := u_known (C := RX2) (T := TX2) (N := 7) (n := 7) hg inW_2 (hg _ ins_2)
  obtain ⟨c3, i3, k3⟩ := u_known (C := RX3) (T := TX3) (N := 3) (n := 3) hg inW_3 (hg _ ins_3)
  obtain ⟨c4, i4, k4⟩ := u_known (C := RX4) (T := TX4) (N := 3) (n := 3) hg inW_4 (hg _ ins_4)
  obtain ⟨c5, i5, k5⟩ := u_known (C := RX5) (T := TX5) (N := 9) (n := 9) hg inW_5 (hg _ ins_5)
  obtain ⟨c6, i6, k6⟩ := u_known (C := RX6) (T := TX6) (N := 6) (n := 6) hg inW_6 (hg _ ins_6)
  obtain ⟨c7, i7, k7⟩ := u_known (C := RX7) (T := TX7) (N := 3) (n := 3) hg inW_7 (hg _ ins_7)
  obtain ⟨c8, i8, k8⟩ := u_known (C := RX8) (T := TX8) (N := 3) (n := 3) hg inW_8 (hg _ ins_8)
  obtain ⟨c9, i9, k9⟩ := u_known (C := RX9) (T := TX9) (N := 16) (n := 16) hg inW_9 (hg _ ins_9)
  obtain ⟨c10, i10, k10⟩ := u_known (C := RX10) (T := TX10) (N := 44) (n := 44) hg inW_10 (hg _ ins_10)
  obtain ⟨a11, ka11, co11, f11, g11, h11⟩ := Cond.arrayClass_spec (hg _ tw_arB)
  obtain ⟨a12, ka12, co12, f12, g12, h12⟩ := Cond.arrayClass_spec (hg _ tw_arI)
  obtain ⟨a13, ka13, co13, f13, g13, h13⟩ := Cond.arrayClass_spec (hg _ tw_arJ)
  obtain ⟨a14, ka14, co14, f14, g14, h14⟩ := Cond.arrayClass_spec (hg _ tw_arZ)
  obtain ⟨co15, a15, ka15, e15, -, g15, h15, f15⟩ := Cond.arrayOver_spec (hts _ tl_aoF)
  obtain ⟨co16, a16, ka16, e16, -, g16, h16, f16⟩ := Cond.arrayOver_spec (hts _ tl_aoK)
  obtain ⟨co17, a17, ka17, e17, g17, h17, f17⟩ := Cond.arrayOver_specA (hts _ tl_aoA)
  refine ⟨((fun k => match k with | 0 => c0 | 1 => c1 | 2 => c2 | 3 => c3 | 4 => c4 | 5 => c5 | 6 => c6 | 7 => c7 | 8 => c8 | 9 => c9 | _ => c10, fun k => match k with | 0 => i0 | 1 => i1 | 2 => i2 | 3 => i3 | 4 => i4 | 5 => i5 | 6 => i6 | 7 => i7 | 8 => i8 | 9 => i9 | _ => i10), fun k => match k with | 11 => a11 | 12 => a12 | 13 => a13 | 14 => a14 | 15 => a15 | 16 => a16 | _ => a17), ⟨fun c q hq => ?_, fun k q hk => ?_⟩, fun w hw => ?_, va_AO.of (hts _ tl_aoF), va_AO.of (hts _ tl_aoK), hts _ tl_aoA⟩
  · match c, hq with
    | 0, hq => cases hq; exact k0
    | 1, hq => cases hq; exact k1
    | 2, hq => cases hq; exact k2
    | 3, hq => cases hq; exact k3
    | 4, hq => cases hq; exact k4
    | 5, hq => cases hq; exact k5
    | 6, hq => cases hq; exact k6
    | 7, hq => cases hq; exact k7
    | 8, hq => cases hq; exact k8
    | 9, hq => cases hq; exact k9
    | 10, hq => cases hq; exact k10
    | n + 11, hq => cases hq
  · match k, hk with
    | 0, hk => cases hk; exact ⟨fun n z => ⟨fun q h => (by cases h), ka11, g11, co11, h11⟩, f11⟩
    | 1, hk => cases hk; exact ⟨fun n z => ⟨fun q h => (by cases h), ka12, g12, co12, h12⟩, f12⟩
    | 2, hk => cases hk; exact ⟨fun n z => ⟨fun q h => (by cases h), ka13, g13, co13, h13⟩, f13⟩
    | 3, hk => cases hk; exact ⟨fun n z => ⟨fun q h => (by cases h), ka14, g14, co14, h14⟩, f14⟩
    | 4, hk => cases hk; exact ⟨fun n z => ⟨fun q h => (by cases h), ka15, g15, co15, h15⟩, ka15, co15, g15, h15, e15, f15⟩
    | 5, hk => cases hk; exact ⟨fun n z => ⟨fun q h => (by cases h), ka16, g16, co16, h16⟩, ka16, co16, g16, h16, e16, f16⟩
    | 6, hk => cases hk; exact ⟨fun n z => ⟨fun q h => (by cases h), ka17, g17, co17, h17⟩, f17⟩
    | n + 7, hk => cases hk
  · have h1 := hts w (List.mem_filter.mp hw).1
    have h2 := (List.mem_filter.mp hw).2
    cases w <;> first | (simp [isNst] at h2; done) | exact va_Nw.of rfl h1

set_option maxHeartbeats 4000000 in
set_option maxRecDepth 100000 in
theorem start_of (hlaw : ∀ (b L : Nat) (xs : Nat → Int32), L ≤ 384 → wp_law b L xs M0 (fun r _ => r = 1)) {p : Program} {e : Env} {s : State} {m : MethodId} {below : List Frame} {meth : Method} {c : Code} (l : Launch) {b L : Nat} {xs : Nat → Int32} (hL : L ≤ 384) (C0 : lw_At p s m meth c b L xs) : W p l e room_1 s m #[Value.ref b] below meth c s.heap [] 0 0 (lw_Z below #[Value.ref b] s) (entryFrame m ([Value.ref b] : List Value).toArray 4) := by
  obtain ⟨hx, hb, hr, hml, hown, hts, hX, hbl, hlocks, hgv⟩ := id C0
  have hg : ∀ w ∈ gT, w.before #[Value.ref b] s = true := fun w hw => hts w (List.mem_filter.mp hw).1
  obtain ⟨C, hKA⟩ := st_K hts
  have hs := flat_of_before _ hgv
  obtain ⟨t0, e0, T0⟩ := va_Tof (args := #[Value.ref b]) (s := s) (tm := .static "RiverBureau$Chart" "LETTERS" "[I") (ty := .int) (N := 6) (f := fun j => .int (letT.getD j 0)) (A := fun q => s.heap.size ≤ q) (by decide) (hs (.arrayOf (.static "RiverBureau$Chart" "LETTERS" "[I") .int) (by decide +kernel)) (va_eqt (hs (.eq (.length (.static "RiverBureau$Chart" "LETTERS" "[I")) (.int 6)) (by decide +kernel))) (fun j hj => by match j, hj with | 0, _ => exact va_eqt (hs (.eq (.elem (.static "RiverBureau$Chart" "LETTERS" "[I") (.int 0)) (.int 97)) (by decide +kernel)) | 1, _ => exact va_eqt (hs (.eq (.elem (.static "RiverBureau$Chart" "LETTERS" "[I") (.int 1)) (.int 116)) (by decide +kernel)) | 2, _ => exact va_eqt (hs (.eq (.elem (.static "RiverBureau$Chart" "LETTERS" "[I") (.int 2)) (.int 115)) (by decide +kernel)) | 3, _ => exact va_eqt (hs (.eq (.elem (.static "RiverBureau$Chart" "LETTERS" "[I") (.int 3)) (.int 98)) (by decide +kernel)) | 4, _ => exact va_eqt (hs (.eq (.elem (.static "RiverBureau$Chart" "LETTERS" "[I") (.int 4)) (.int 108)) (by decide +kernel)) | 5, _ => exact va_eqt (hs (.eq (.elem (.static "RiverBureau$Chart" "LETTERS" "[I") (.int 5)) (.int 109)) (by decide +kernel)) | n + 6, h => omega) (fun a ha h => absurd h (Nat.not_le.mpr ha))
  obtain ⟨t1, e1, T1⟩ := va_Tof (args := #[Value.ref b]) (s := s) (tm := .static "RiverBureau$Chart" "PARENTS" "[I") (ty := .int) (N := 6) (f := fun j => .int (parT.getD j 0)) (A := fun q => s.heap.size ≤ q) (by decide) (hs (.arrayOf (.static "RiverBureau$Chart" "PARENTS" "[I") .int) (by decide +kernel)) (va_eqt (hs (.eq (.length (.static "RiverBureau$Chart" "PARENTS" "[I")) (.int 6)) (by decide +kernel))) (fun j hj => by match j, hj with | 0, _ => exact va_eqt (hs (.eq (.elem (.static "RiverBureau$Chart" "PARENTS" "[I") (.int 0)) (.int 0)) (by decide +kernel)) | 1, _ => exact va_eqt (hs (.eq (.elem (.static "RiverBureau$Chart" "PARENTS" "[I") (.int 1)) (.int 0)) (by decide +kernel)) | 2, _ => exact va_eqt (hs (.eq (.elem (.static "RiverBureau$Chart" "PARENTS" "[I") (.int 2)) (.int 0)) (by decide +kernel)) | 3, _ => exact va_eqt (hs (.eq (.elem (.static "RiverBureau$Chart" "PARENTS" "[I") (.int 3)) (.int 0)) (by decide +kernel)) | 4, _ => exact va_eqt (hs (.eq (.elem (.static "RiverBureau$Chart" "PARENTS" "[I") (.int 4)) (.int 2)) (by decide +kernel)) | 5, _ => exact va_eqt (hs (.eq (.elem (.static "RiverBureau$Chart" "PARENTS" "[I") (.int 5)) (.int 3)) (by decide +kernel)) | n + 6, h => omega) (fun a ha h => absurd h (Nat.not_le.mpr ha))
  have Z0 : va_Z "RiverBureau$Chart" "LETTERS" "[I" (.ref t0) (fun q => s.heap.size ≤ q) s s.heap := va_Zref (hts _ tl_L) (hg _ iw_0) e0 (fun a ha h => absurd h (Nat.not_le.mpr ha))
  have Z1 : va_Z "RiverBureau$Chart" "PARENTS" "[I" (.ref t1) (fun q => s.heap.size ≤ q) s s.heap := va_Zref (hts _ tl_P) (hg _ iw_0) e1 (fun a ha h => absurd h (Nat.not_le.mpr ha))
  let sa : Nat → Nat := fun k => if k = 0 then t0 else t1
  let G : Gs := GG C s.heap.size sa
  have hAA : ∀ q, AA G q → s.heap.size ≤ q := by
    rintro q ⟨k, -, rfl⟩
    exact Nat.le_add_right _ _
  have hKK : KK G s := ⟨hKA.1, GG_Aj C s.heap.size sa, hKA.2.1⟩
  have hSt : St G s s.heap := ⟨Z0.narrow hAA, T0.narrow hAA, Z1.narrow hAA, T1.narrow hAA⟩
  have hE : MaA l C RL cL_law 4 100 s.heap.size 600000 7302250 (VB p l e room_1 s m #[Value.ref b] below meth c 4 s.heap.size C (lw_Z below #[Value.ref b] s)) :=
    ⟨p, e, room_1, s, m, #[Value.ref b], below, meth, c, _, hx, hb, hml, hown, hg, hKA, fun h => absurd rfl h.1, ⟨by decide, by decide, by decide, by decide⟩, Nat.le_refl _, rfl⟩
  have hV : VV p l e room_1 s m #[Value.ref b] below meth c 340 11387 4 G (lw_Z below #[Value.ref b] s) 16 [(0, .ref b), (1, rv G 0), (2, rv G 312)] [] M0 := by
    have hM : MachL l G (84 + 16) b L xs (VV p l e room_1 s m #[Value.ref b] below meth c 340 11387 4 G (lw_Z below #[Value.ref b] s)) :=
      ⟨p, e, room_1, s, m, #[Value.ref b], below, meth, c, 340, 11387, _, hx, hb, hml, hown, hg, hKK, hSt, ⟨by decide, by decide, by decide, by decide⟩, ⟨hX, hbl, fun h => absurd (hAA b h) (Nat.not_le.mpr hbl)⟩, rfl⟩
    refine t_law hM.mach ?_ hM (hlaw b L xs hL)
    intro pc lv x M hd hz hq H locs ls hP hS hl
    have hq : x = 1 := hq
    subst hq
    refine va_forget (fun q hq => hAA _ (hS.2.2 q hq)) ?_
    refine W.widen (k := 600000) (n := 7302250) (by decide) (by decide) ?_
    exact lw_ret hx hb hr hlocks hd
  have hl := lv_entry ([.ref b]) (n := 4) (Nat.le_of_ble_eq_true rfl)
  rw [lg_entry_eq]
  refine (?_ : VB p l e room_1 s m #[Value.ref b] below meth c 4 s.heap.size C (lw_Z below #[Value.ref b] s) 0 [(0, .ref b)] [] 0 (fun _ => fl0) 0 0) s.heap [] _ rfl (sgf_P (fun k hk => absurd hk (Nat.not_lt_zero k))) va_S.rf hl
  refine a_new (pc := 0) (N := 0) (ci := 9) (fs := [.null, .null, .null, .null, .null, .null, .null, .null, .null, .null, .null, .null, .int 0, .int 0, .long 0, .long 0]) hE tyX9 tyX9_ok rfl inW_9 tz_94 ins_9 iw_9 dfl_9 (by decide) (by decide) dL_law_0 ?_
  refine a_dup (pc := 3) hE rfl dL_law_3 ?_
  refine a_callI (pc := 4) (N := 1) (d := 99) (As := []) hE (ca_B_init (d := 95) rfl) cwA_B_init rfl hyA_B_init rfl (by decide) (Nat.le_of_ble_eq_true rfl) tz_96 imA_B_init iw_9 rfl (by decide) (by decide) dL_law_4 ?_
  refine a_astore_n (pc := 7) (lv' := [(1, .ref (s.heap.size + 0)), (0, .ref b)]) hE dL_law_7 rfl (by decide) rfl ?_
  refine a_new (pc := 8) (N := 312) (ci := 10) (fs := [.int 0, .null, .int 0, .long 0, .long 0, .null, .null, .null, .null, .null, .int 0, .int 0, .null, .null, .null, .null, .null, .null, .int 0, .int 0, .int 0, .int 0, .int 0, .null, .null, .null, .int 0, .null, .int 0, .null, .null, .null, .null, .null, .null, .null, .null, .int 0, .int 0, .null, .null, .null, .int 0, .long 0]) hE tyX10 tyX10_ok rfl inW_10 tz_993 ins_10 iw_10 dfl_10 (by decide) (by decide) dL_law_8 ?_
  refine a_dup (pc := 11) hE rfl dL_law_11 ?_
  refine a_callI (pc := 12) (N := 313) (d := 99) (As := []) hE (ca_M_init (d := 98) (N := 313) (k := 312) (by decide) rfl) cwA_M_init rfl hyA_M_init rfl (by decide) (Nat.le_of_ble_eq_true rfl) tz_995 imA_M_init iw_10 rfl (by decide) (by decide) dL_law_12 ?_
  refine a_astore_n (pc := 15) (lv' := [(2, .ref (s.heap.size + 312)), (1, .ref (s.heap.size + 0)), (0, .ref b)]) hE dL_law_15 rfl (by decide) rfl ?_
  intro H locs ls hz2 hP hS hl
  refine va_forget (fun q hq => hS.2.2 q hq) ?_
  exact hV H [] ls (world_ok (cf := fun _ => fl0) sa hP) ⟨hS.1, fun q h1 h2 => hS.2.1 q h1 (Nat.not_le.mpr h1), fun q hq => by cases hq⟩ (lv_sub hl [2, 1, 0] rfl)
