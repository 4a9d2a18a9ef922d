set_option maxHeartbeats 4000000 in
set_option maxRecDepth 100000 in
theorem start_of2 {p : Program} {e : Env} {s : State} {m : MethodId} {below : List Frame} {meth : Method} {c : Code} (l : Launch) {b L : Nat} {xs : Nat → Int32} (hL : L ≤ 384) (C0 : lw_At p s m meth c b L xs) : W p l e room_1 s m #[Value.ref b] below meth c s.heap [] 0 0 (lw_Z below #[Value.ref b] s) (entryFrame m ([Value.ref b] : List Value).toArray 4) := by
  obtain ⟨hx, hb, hr, hml, hown, hts, hX, hbl, hlocks, hgv⟩ := id C0
  have hg : ∀ w ∈ gT, w.before #[Value.ref b] s = true := fun w hw => hts w (List.mem_filter.mp hw).1
  obtain ⟨C, hKA⟩ := st_K hts
  have hs := flat_of_before _ hgv
  obtain ⟨t0, e0, T0⟩ := va_Tof (args := #[Value.ref b]) (s := s) (tm := .static "RiverBureau$Chart" "LETTERS" "[I") (ty := .int) (N := 6) (f := fun j => .int (letT.getD j 0)) (A := fun q => s.heap.size ≤ q) (by decide) (hs (.arrayOf (.static "RiverBureau$Chart" "LETTERS" "[I") .int) (by decide +kernel)) (va_eqt (hs (.eq (.length (.static "RiverBureau$Chart" "LETTERS" "[I")) (.int 6)) (by decide +kernel))) (fun j hj => by match j, hj with | 0, _ => exact va_eqt (hs (.eq (.elem (.static "RiverBureau$Chart" "LETTERS" "[I") (.int 0)) (.int 97)) (by decide +kernel)) | 1, _ => exact va_eqt (hs (.eq (.elem (.static "RiverBureau$Chart" "LETTERS" "[I") (.int 1)) (.int 116)) (by decide +kernel)) | 2, _ => exact va_eqt (hs (.eq (.elem (.static "RiverBureau$Chart" "LETTERS" "[I") (.int 2)) (.int 115)) (by decide +kernel)) | 3, _ => exact va_eqt (hs (.eq (.elem (.static "RiverBureau$Chart" "LETTERS" "[I") (.int 3)) (.int 98)) (by decide +kernel)) | 4, _ => exact va_eqt (hs (.eq (.elem (.static "RiverBureau$Chart" "LETTERS" "[I") (.int 4)) (.int 108)) (by decide +kernel)) | 5, _ => exact va_eqt (hs (.eq (.elem (.static "RiverBureau$Chart" "LETTERS" "[I") (.int 5)) (.int 109)) (by decide +kernel)) | n + 6, h => omega) (fun a ha h => absurd h (Nat.not_le.mpr ha))
  obtain ⟨t1, e1, T1⟩ := va_Tof (args := #[Value.ref b]) (s := s) (tm := .static "RiverBureau$Chart" "PARENTS" "[I") (ty := .int) (N := 6) (f := fun j => .int (parT.getD j 0)) (A := fun q => s.heap.size ≤ q) (by decide) (hs (.arrayOf (.static "RiverBureau$Chart" "PARENTS" "[I") .int) (by decide +kernel)) (va_eqt (hs (.eq (.length (.static "RiverBureau$Chart" "PARENTS" "[I")) (.int 6)) (by decide +kernel))) (fun j hj => by match j, hj with | 0, _ => exact va_eqt (hs (.eq (.elem (.static "RiverBureau$Chart" "PARENTS" "[I") (.int 0)) (.int 0)) (by decide +kernel)) | 1, _ => exact va_eqt (hs (.eq (.elem (.static "RiverBureau$Chart" "PARENTS" "[I") (.int 1)) (.int 0)) (by decide +kernel)) | 2, _ => exact va_eqt (hs (.eq (.elem (.static "RiverBureau$Chart" "PARENTS" "[I") (.int 2)) (.int 0)) (by decide +kernel)) | 3, _ => exact va_eqt (hs (.eq (.elem (.static "RiverBureau$Chart" "PARENTS" "[I") (.int 3)) (.int 0)) (by decide +kernel)) | 4, _ => exact va_eqt (hs (.eq (.elem (.static "RiverBureau$Chart" "PARENTS" "[I") (.int 4)) (.int 2)) (by decide +kernel)) | 5, _ => exact va_eqt (hs (.eq (.elem (.static "RiverBureau$Chart" "PARENTS" "[I") (.int 5)) (.int 3)) (by decide +kernel)) | n + 6, h => omega) (fun a ha h => absurd h (Nat.not_le.mpr ha))
  have Z0 : va_Z "RiverBureau$Chart" "LETTERS" "[I" (.ref t0) (fun q => s.heap.size ≤ q) s s.heap := va_Zref (hts _ tl_L) (hg _ iw_0) e0 (fun a ha h => absurd h (Nat.not_le.mpr ha))
  have Z1 : va_Z "RiverBureau$Chart" "PARENTS" "[I" (.ref t1) (fun q => s.heap.size ≤ q) s s.heap := va_Zref (hts _ tl_P) (hg _ iw_0) e1 (fun a ha h => absurd h (Nat.not_le.mpr ha))
  let sa : Nat → Nat := fun k => if k = 0 then t0 else t1
  let G : Gs := GG C s.heap.size sa
  have hAA : ∀ q, AA G q → s.heap.size ≤ q := by
    rintro q ⟨k, -, rfl⟩
    exact Nat.le_add_right _ _
  have hKK : KK G s := ⟨hKA.1, GG_Aj C s.heap.size sa, hKA.2.1⟩
  have hSt : St G s s.heap := ⟨Z0.narrow hAA, T0.narrow hAA, Z1.narrow hAA, T1.narrow hAA⟩
  have hE : MaA l C RL cL_law 4 100 s.heap.size 600000 7302250 (VB p l e room_1 s m #[Value.ref b] below meth c 4 s.heap.size C (lw_Z below #[Value.ref b] s)) :=
    ⟨p, e, room_1, s, m, #[Value.ref b], below, meth, c, _, hx, hb, hml, hown, hg, hKA, fun h => absurd rfl h.1, ⟨by decide, by decide, by decide, by decide⟩, Nat.le_refl _, rfl⟩
  have hV : VV p l e room_1 s m #[Value.ref b] below meth c 340 11387 4 G (lw_Z below #[Value.ref b] s) 16 [(0, .ref b), (1, rv G 0), (2, rv G 312)] [] M0 := by
    have hM : MachL l G (84 + 16) b L xs (VV p l e room_1 s m #[Value.ref b] below meth c 340 11387 4 G (lw_Z below #[Value.ref b] s)) :=
      ⟨p, e, room_1, s, m, #[Value.ref b], below, meth, c, 340, 11387, _, hx, hb, hml, hown, hg, hKK, hSt, ⟨by decide, by decide, by decide, by decide⟩, ⟨hX, hbl, fun h => absurd (hAA b h) (Nat.not_le.mpr hbl)⟩, rfl⟩
    refine t_law2 hM.mach ?_ hM hL
    intro pc lv x M hd hz hq H locs ls hP hS hl
    have hq : x = 1 := hq
    subst hq
    refine va_forget (fun q hq => hAA _ (hS.2.2 q hq)) ?_
    refine W.widen (k := 600000) (n := 7302250) (by decide) (by decide) ?_
    exact lw_ret hx hb hr hlocks hd
  have hl := lv_entry ([.ref b]) (n := 4) (Nat.le_of_ble_eq_true rfl)
  rw [lg_entry_eq]
  refine (?_ : VB p l e room_1 s m #[Value.ref b] below meth c 4 s.heap.size C (lw_Z below #[Value.ref b] s) 0 [(0, .ref b)] [] 0 (fun _ => fl0) 0 0) s.heap [] _ rfl (sgf_P (fun k hk => absurd hk (Nat.not_lt_zero k))) va_S.rf hl
  refine a_new (pc := 0) (N := 0) (ci := 9) (fs := [.null, .null, .null, .null, .null, .null, .null, .null, .null, .null, .null, .null, .int 0, .int 0, .long 0, .long 0]) hE tyX9 tyX9_ok rfl inW_9 tz_94 ins_9 iw_9 dfl_9 (by decide) (by decide) dL_law_0 ?_
  refine a_dup (pc := 3) hE rfl dL_law_3 ?_
  refine a_callI (pc := 4) (N := 1) (d := 99) (As := []) hE (ca_B_init (d := 95) rfl) cwA_B_init rfl hyA_B_init rfl (by decide) (Nat.le_of_ble_eq_true rfl) tz_96 imA_B_init iw_9 rfl (by decide) (by decide) dL_law_4 ?_
  refine a_astore_n (pc := 7) (lv' := [(1, .ref (s.heap.size + 0)), (0, .ref b)]) hE dL_law_7 rfl (by decide) rfl ?_
  refine a_new (pc := 8) (N := 312) (ci := 10) (fs := [.int 0, .null, .int 0, .long 0, .long 0, .null, .null, .null, .null, .null, .int 0, .int 0, .null, .null, .null, .null, .null, .null, .int 0, .int 0, .int 0, .int 0, .int 0, .null, .null, .null, .int 0, .null, .int 0, .null, .null, .null, .null, .null, .null, .null, .null, .int 0, .int 0, .null, .null, .null, .int 0, .long 0]) hE tyX10 tyX10_ok rfl inW_10 tz_993 ins_10 iw_10 dfl_10 (by decide) (by decide) dL_law_8 ?_
  refine a_dup (pc := 11) hE rfl dL_law_11 ?_
  refine a_callI (pc := 12) (N := 313) (d := 99) (As := []) hE (ca_M_init (d := 98) (N := 313) (k := 312) (by decide) rfl) cwA_M_init rfl hyA_M_init rfl (by decide) (Nat.le_of_ble_eq_true rfl) tz_995 imA_M_init iw_10 rfl (by decide) (by decide) dL_law_12 ?_
  refine a_astore_n (pc := 15) (lv' := [(2, .ref (s.heap.size + 312)), (1, .ref (s.heap.size + 0)), (0, .ref b)]) hE dL_law_15 rfl (by decide) rfl ?_
  intro H locs ls hz2 hP hS hl
  refine va_forget (fun q hq => hS.2.2 q hq) ?_
  exact hV H [] ls (world_ok (cf := fun _ => fl0) sa hP) ⟨hS.1, fun q h1 h2 => hS.2.1 q h1 (Nat.not_le.mpr h1), fun q hq => by cases hq⟩ (lv_sub hl [2, 1, 0] rfl)
