set_option maxHeartbeats 4000000 in
set_option maxRecDepth 20000 in
theorem t_B_answerFinding {l : Launch} {G : Gs} {d : Nat} {a1 : Int32} {M : Mm} {Q : Int32 → Mm → Prop}  (h : wp_B_answerFinding a1 M Q) : CtI l G (d + 0) yX9_answerFinding cX9_answerFinding 2 (some .int) [rv G 0, .int a1] M Q := by
  refine CtI.mk (by decide) rfl (Nat.le_of_ble_eq_true rfl) (fun E hE hR => ?_)
  show E 0 [(0, rv G 0), (1, .int a1)] [] M
  unfold wp_B_answerFinding at h
  refine e_aload_n (pc := 0) hE rfl 0 rfl dX9_answerFinding_0 ?_
  refine e_iload_n (pc := 1) hE rfl 1 rfl dX9_answerFinding_1 ?_
  refine p_RB_latestFound (pc := 2) hE tw_362 dX9_answerFinding_2 ?_
  refine e_aload_n (pc := 5) hE rfl 0 rfl dX9_answerFinding_5 ?_
  refine g_RB_found (pc := 6) hE tw_361 dX9_answerFinding_6 ?_
  refine e_iload_n (pc := 9) hE rfl 1 rfl dX9_answerFinding_9 ?_
  refine e_dup2 (pc := 10) hE rfl rfl dX9_answerFinding_10 ?_
  refine e_iald (pc := 11) hE ar_1 h.1 dX9_answerFinding_11 ?_
  have h := h.2
  refine e_iconst (pc := 12) (v := 1) hE ki_1 dX9_answerFinding_12 ?_
  refine e_iadd (pc := 13) hE dX9_answerFinding_13 ?_
  refine e_topi (fun x14 ex14 => ?_)
  have h := h x14 ex14
  refine e_iast (pc := 14) hE ar_1 h.1 dX9_answerFinding_14 ?_
  have h := h.2
  refine e_bipush (pc := 15) (v := -3) hE kb_m3 dX9_answerFinding_15 ?_
  exact hR dX9_answerFinding_17 h
set_option maxHeartbeats 4000000 in
set_option maxRecDepth 20000 in
theorem t_B_makeIn {l : Launch} {G : Gs} {d : Nat} {a1 : Nat} {a2 : Int32} {a3 : Int32} {a4 : Int32} {M : Mm} {Q : Int32 → Mm → Prop} (f1 : isSh a1) (h : wp_B_makeIn a1 a2 a3 a4 M Q) : CtI l G (d + 2) yX9_makeIn cX9_makeIn 5 (some .int) [rv G 0, rv G a1, .int a2, .int a3, .int a4] M Q := by
  refine CtI.mk (by decide) rfl (Nat.le_of_ble_eq_true rfl) (fun E hE hR => ?_)
  show E 0 [(0, rv G 0), (1, rv G a1), (2, .int a2), (3, .int a3), (4, .int a4)] [] M
  unfold wp_B_makeIn at h
  refine e_aload_n (pc := 0) hE rfl 1 rfl dX9_makeIn_0 ?_
  refine e_iload_n (pc := 1) hE rfl 2 rfl dX9_makeIn_1 ?_
  refine c_Sh_knows (pc := 2) (d := d + 1 + 0) hE (t_Sh_knows (d := d + 1) f1 h) (sh_kd f1) tw_407 (Nat.le_of_ble_eq_true rfl) dX9_makeIn_2 (fun r2 M2 h => ?_)
  refine e_if_eq (pc := 5) hE 16 dX9_makeIn_5 (by decide) (fun c0 => ?_) (fun c0 => ?_)
  · have h := h.1 c0
    refine e_iconst (pc := 16) (v := -1) hE ki_m1 dX9_makeIn_16 ?_
    exact hR dX9_makeIn_17 h
  · have h := h.2 c0
    refine e_iload_n (pc := 8) hE rfl 3 rfl dX9_makeIn_8 ?_
    refine e_aload_n (pc := 9) hE rfl 1 rfl dX9_makeIn_9 ?_
    refine g_Shelf_room (pc := 10) hE (sh_kd f1) tw_114 dX9_makeIn_10 ?_
    refine e_icmp_le (pc := 13) hE 18 dX9_makeIn_13 (by decide) (fun c0 => ?_) (fun c0 => ?_)
    · have h := h.1 c0
      refine e_iload_n (pc := 18) hE rfl 3 rfl dX9_makeIn_18 ?_
      refine e_if_ge (pc := 19) hE 28 dX9_makeIn_19 (by decide) (fun c0 => ?_) (fun c0 => ?_)
      · have h := h.1 c0
        refine e_aload_n (pc := 28) hE rfl 1 rfl dX9_makeIn_28 ?_
        refine e_iload_n (pc := 29) hE rfl 2 rfl dX9_makeIn_29 ?_
        refine e_iload_n (pc := 30) hE rfl 3 rfl dX9_makeIn_30 ?_
        refine e_iload (pc := 31) hE 4 rfl dX9_makeIn_31 ?_
        refine c_Sh_make (pc := 33) (d := d + 1) hE (t_Sh_make (d := d) f1 h) (sh_kd f1) tw_415 (Nat.le_of_ble_eq_true rfl) dX9_makeIn_33 (fun M33 h => ?_)
        refine e_iload_n (pc := 36) hE rfl 3 rfl dX9_makeIn_36 ?_
        exact hR dX9_makeIn_37 h
      · have h := h.2 c0
        refine e_aload_n (pc := 22) hE rfl 0 rfl dX9_makeIn_22 ?_
        refine e_iconst (pc := 23) (v := 5) hE ki_5 dX9_makeIn_23 ?_
        refine c_B_answerFinding (pc := 24) (d := d + 1 + 0) hE (t_B_answerFinding (d := d + 1)  h) tw_411 (Nat.le_of_ble_eq_true rfl) dX9_makeIn_24 (fun r24 M24 h => ?_)
        exact hR dX9_makeIn_27 h
    · have h := h.2 c0
      refine e_iconst (pc := 16) (v := -1) hE ki_m1 dX9_makeIn_16 ?_
      exact hR dX9_makeIn_17 h
set_option maxHeartbeats 4000000 in
set_option maxRecDepth 20000 in
theorem t_B_row {l : Launch} {G : Gs} {d : Nat} {a1 : Int32} {a2 : Int32} {M : Mm} {Q : Int32 → Mm → Prop}  (h : wp_B_row a1 a2 M Q) : CtI l G (d + 3) yX9_row cX9_row 3 (some .int) [rv G 0, .int a1, .int a2] M Q := by
  refine CtI.mk (by decide) rfl (Nat.le_of_ble_eq_true rfl) (fun E hE hR => ?_)
  show E 0 [(0, rv G 0), (1, .int a1), (2, .int a2)] [] M
  unfold wp_B_row at h
  refine e_aload_n (pc := 0) hE rfl 0 rfl dX9_row_0 ?_
  refine e_aload_n (pc := 1) hE rfl 0 rfl dX9_row_1 ?_
  refine g_RB_rows (pc := 2) hE tw_350 dX9_row_2 ?_
  refine e_iload_n (pc := 5) hE rfl 1 rfl dX9_row_5 ?_
  refine e_iload_n (pc := 6) hE rfl 2 rfl dX9_row_6 ?_
  refine e_iconst (pc := 7) (v := 0) hE ki_0 dX9_row_7 ?_
  refine c_B_makeIn (pc := 8) (d := d + 2) hE (t_B_makeIn (d := d) sh4 h) tw_403 (Nat.le_of_ble_eq_true rfl) dX9_row_8 (fun r8 M8 h => ?_)
  exact hR dX9_row_11 h
set_option maxHeartbeats 4000000 in
set_option maxRecDepth 20000 in
theorem t_B_shelfRefusal {l : Launch} {G : Gs} {d : Nat} {a1 : Nat} {a2 : Int32} {M : Mm} {Q : Int32 → Mm → Prop} (f1 : isSh a1) (h : wp_B_shelfRefusal a1 a2 M Q) : CtI l G (d + 2) yX9_shelfRefusal cX9_shelfRefusal 3 (some .int) [rv G 0, rv G a1, .int a2] M Q := by
  refine CtI.mk (by decide) rfl (Nat.le_of_ble_eq_true rfl) (fun E hE hR => ?_)
  show E 0 [(0, rv G 0), (1, rv G a1), (2, .int a2)] [] M
  unfold wp_B_shelfRefusal at h
  refine e_aload_n (pc := 0) hE rfl 1 rfl dX9_shelfRefusal_0 ?_
  refine e_iload_n (pc := 1) hE rfl 2 rfl dX9_shelfRefusal_1 ?_
  refine c_Sh_knows (pc := 2) (d := d + 1 + 0) hE (t_Sh_knows (d := d + 1) f1 h) (sh_kd f1) tw_407 (Nat.le_of_ble_eq_true rfl) dX9_shelfRefusal_2 (fun r2 M2 h => ?_)
  refine e_if_ne (pc := 5) hE 10 dX9_shelfRefusal_5 (by decide) (fun c0 => ?_) (fun c0 => ?_)
  · have h := h.1 c0
    refine e_aload_n (pc := 10) hE rfl 1 rfl dX9_shelfRefusal_10 ?_
    refine e_iload_n (pc := 11) hE rfl 2 rfl dX9_shelfRefusal_11 ?_
    refine c_Sh_isThere (pc := 12) (d := d + 1) hE (t_Sh_isThere (d := d) f1 h) (sh_kd f1) tw_432 (Nat.le_of_ble_eq_true rfl) dX9_shelfRefusal_12 (fun r12 M12 h => ?_)
    refine e_if_eq (pc := 15) hE 22 dX9_shelfRefusal_15 (by decide) (fun c0 => ?_) (fun c0 => ?_)
    · have h := h.1 c0
      refine e_aload_n (pc := 22) hE rfl 0 rfl dX9_shelfRefusal_22 ?_
      refine e_iconst (pc := 23) (v := 1) hE ki_1 dX9_shelfRefusal_23 ?_
      refine c_B_answerFinding (pc := 24) (d := d + 1 + 0) hE (t_B_answerFinding (d := d + 1)  h) tw_411 (Nat.le_of_ble_eq_true rfl) dX9_shelfRefusal_24 (fun r24 M24 h => ?_)
      exact hR dX9_shelfRefusal_27 h
    · have h := h.2 c0
      refine e_iconst (pc := 18) (v := 0) hE ki_0 dX9_shelfRefusal_18 ?_
      refine e_goto (pc := 19) hE 27 dX9_shelfRefusal_19 (by decide) ?_
      exact hR dX9_shelfRefusal_27 h
  · have h := h.2 c0
    refine e_iconst (pc := 8) (v := -1) hE ki_m1 dX9_shelfRefusal_8 ?_
    exact hR dX9_shelfRefusal_9 h
set_option maxHeartbeats 4000000 in
set_option maxRecDepth 20000 in
theorem t_B_placeRefusal {l : Launch} {G : Gs} {d : Nat} {a1 : Nat} {a2 : Int32} {a3 : Int32} {M : Mm} {Q : Int32 → Mm → Prop} (f1 : isSh a1) (h : wp_B_placeRefusal a1 a2 a3 M Q) : CtI l G (d + 3) yX9_placeRefusal cX9_placeRefusal 5 (some .int) [rv G 0, rv G a1, .int a2, .int a3] M Q := by
  refine CtI.mk (by decide) rfl (Nat.le_of_ble_eq_true rfl) (fun E hE hR => ?_)
  show E 0 [(0, rv G 0), (1, rv G a1), (2, .int a2), (3, .int a3)] [] M
  unfold wp_B_placeRefusal at h
  refine e_aload_n (pc := 0) hE rfl 0 rfl dX9_placeRefusal_0 ?_
  refine e_aload_n (pc := 1) hE rfl 1 rfl dX9_placeRefusal_1 ?_
  refine e_iload_n (pc := 2) hE rfl 2 rfl dX9_placeRefusal_2 ?_
  refine c_B_shelfRefusal (pc := 3) (d := d + 2) hE (t_B_shelfRefusal (d := d) f1 h) tw_428 (Nat.le_of_ble_eq_true rfl) dX9_placeRefusal_3 (fun r3 M3 h => ?_)
  refine e_istore (pc := 6) (lv' := [(4, .int r3), (0, rv G 0), (1, rv G a1), (2, .int a2), (3, .int a3)]) hE dX9_placeRefusal_6 (by decide) rfl ?_
  refine e_iload (pc := 8) hE 0 rfl dX9_placeRefusal_8 ?_
  refine e_if_eq (pc := 10) hE 16 dX9_placeRefusal_10 (by decide) (fun c0 => ?_) (fun c0 => ?_)
  · have h := h.1 c0
    refine e_aload_n (pc := 16) hE rfl 2 rfl dX9_placeRefusal_16 ?_
    refine e_iload_n (pc := 17) hE rfl 3 rfl dX9_placeRefusal_17 ?_
    refine e_iload_n (pc := 18) hE rfl 4 rfl dX9_placeRefusal_18 ?_
    refine e_iconst (pc := 19) (v := 1) hE ki_1 dX9_placeRefusal_19 ?_
    refine c_Sh_hasStretch (pc := 20) (d := d + 1 + 1) hE (t_Sh_hasStretch (d := d + 1) f1 h) (sh_kd f1) tw_436 (Nat.le_of_ble_eq_true rfl) dX9_placeRefusal_20 (fun r20 M20 h => ?_)
    refine e_if_eq (pc := 23) hE 30 dX9_placeRefusal_23 (by decide) (fun c0 => ?_) (fun c0 => ?_)
    · have h := h.1 c0
      refine e_aload_n (pc := 30) hE rfl 1 rfl dX9_placeRefusal_30 ?_
      refine e_iconst (pc := 31) (v := 2) hE ki_2 dX9_placeRefusal_31 ?_
      refine c_B_answerFinding (pc := 32) (d := d + 2 + 0) hE (t_B_answerFinding (d := d + 2)  h) tw_411 (Nat.le_of_ble_eq_true rfl) dX9_placeRefusal_32 (fun r32 M32 h => ?_)
      exact hR dX9_placeRefusal_35 h
    · have h := h.2 c0
      refine e_iconst (pc := 26) (v := 0) hE ki_0 dX9_placeRefusal_26 ?_
      refine e_goto (pc := 27) hE 35 dX9_placeRefusal_27 (by decide) ?_
      exact hR dX9_placeRefusal_35 h
  · have h := h.2 c0
    refine e_iload (pc := 13) hE 0 rfl dX9_placeRefusal_13 ?_
    exact hR dX9_placeRefusal_15 h
set_option maxHeartbeats 4000000 in
set_option maxRecDepth 20000 in
theorem t_B_lay {l : Launch} {G : Gs} {d : Nat} {a1 : Int32} {a2 : Int32} {a3 : Int32} {M : Mm} {Q : Int32 → Mm → Prop}  (h : wp_B_lay a1 a2 a3 M Q) : CtI l G (d + 4) yX9_lay cX9_lay 5 (some .int) [rv G 0, .int a1, .int a2, .int a3] M Q := by
  refine CtI.mk (by decide) rfl (Nat.le_of_ble_eq_true rfl) (fun E hE hR => ?_)
  show E 0 [(0, rv G 0), (1, .int a1), (2, .int a2), (3, .int a3)] [] M
  unfold wp_B_lay at h
  refine e_aload_n (pc := 0) hE rfl 0 rfl dX9_lay_0 ?_
  refine e_aload_n (pc := 1) hE rfl 0 rfl dX9_lay_1 ?_
  refine g_RB_rows (pc := 2) hE tw_350 dX9_lay_2 ?_
  refine e_iload_n (pc := 5) hE rfl 1 rfl dX9_lay_5 ?_
  refine e_iload_n (pc := 6) hE rfl 2 rfl dX9_lay_6 ?_
  refine c_B_placeRefusal (pc := 7) (d := d + 3) hE (t_B_placeRefusal (d := d) sh4 h) tw_424 (Nat.le_of_ble_eq_true rfl) dX9_lay_7 (fun r7 M7 h => ?_)
  refine e_istore (pc := 10) (lv' := [(4, .int r7), (0, rv G 0), (1, .int a1), (2, .int a2), (3, .int a3)]) hE dX9_lay_10 (by decide) rfl ?_
  refine e_iload (pc := 12) hE 0 rfl dX9_lay_12 ?_
  refine e_if_eq (pc := 14) hE 20 dX9_lay_14 (by decide) (fun c0 => ?_) (fun c0 => ?_)
  · have h := h.1 c0
    refine e_aload_n (pc := 20) hE rfl 1 rfl dX9_lay_20 ?_
    refine e_aload_n (pc := 21) hE rfl 1 rfl dX9_lay_21 ?_
    refine g_RB_rows (pc := 22) hE tw_350 dX9_lay_22 ?_
    refine e_iload_n (pc := 25) hE rfl 2 rfl dX9_lay_25 ?_
    refine e_iload_n (pc := 26) hE rfl 3 rfl dX9_lay_26 ?_
    refine c_Sh_valueAt (pc := 27) (d := d + 1 + 2) hE (t_Sh_valueAt (d := d + 1) sh4 h) (sh_kd sh4) tw_440 (Nat.le_of_ble_eq_true rfl) dX9_lay_27 (fun r27 M27 h => ?_)
    refine p_RB_told (pc := 30) hE tw_363 dX9_lay_30 ?_
    refine e_aload_n (pc := 33) hE rfl 1 rfl dX9_lay_33 ?_
    refine g_RB_rows (pc := 34) hE tw_350 dX9_lay_34 ?_
    refine e_iload_n (pc := 37) hE rfl 2 rfl dX9_lay_37 ?_
    refine e_iload_n (pc := 38) hE rfl 3 rfl dX9_lay_38 ?_
    refine e_iload_n (pc := 39) hE rfl 4 rfl dX9_lay_39 ?_
    refine c_Sh_setValue (pc := 40) (d := d + 1 + 2) hE (t_Sh_setValue (d := d + 1) sh4 h) (sh_kd sh4) tw_445 (Nat.le_of_ble_eq_true rfl) dX9_lay_40 (fun M40 h => ?_)
    refine e_iconst (pc := 43) (v := 1) hE ki_1 dX9_lay_43 ?_
    exact hR dX9_lay_44 h
  · have h := h.2 c0
    refine e_iload (pc := 17) hE 0 rfl dX9_lay_17 ?_
    exact hR dX9_lay_19 h
set_option maxHeartbeats 4000000 in
set_option maxRecDepth 20000 in
theorem t_B_at {l : Launch} {G : Gs} {d : Nat} {a1 : Int32} {a2 : Int32} {M : Mm} {Q : Int32 → Mm → Prop}  (h : wp_B_at a1 a2 M Q) : CtI l G (d + 4) yX9_at cX9_at 4 (some .int) [rv G 0, .int a1, .int a2] M Q := by
  refine CtI.mk (by decide) rfl (Nat.le_of_ble_eq_true rfl) (fun E hE hR => ?_)
  show E 0 [(0, rv G 0), (1, .int a1), (2, .int a2)] [] M
  unfold wp_B_at at h
  refine e_aload_n (pc := 0) hE rfl 0 rfl dX9_at_0 ?_
  refine e_aload_n (pc := 1) hE rfl 0 rfl dX9_at_1 ?_
  refine g_RB_rows (pc := 2) hE tw_350 dX9_at_2 ?_
  refine e_iload_n (pc := 5) hE rfl 1 rfl dX9_at_5 ?_
  refine e_iload_n (pc := 6) hE rfl 2 rfl dX9_at_6 ?_
  refine c_B_placeRefusal (pc := 7) (d := d + 3) hE (t_B_placeRefusal (d := d) sh4 h) tw_424 (Nat.le_of_ble_eq_true rfl) dX9_at_7 (fun r7 M7 h => ?_)
  refine e_istore_n (pc := 10) (lv' := [(3, .int r7), (0, rv G 0), (1, .int a1), (2, .int a2)]) hE dX9_at_10 rfl (by decide) rfl ?_
  refine e_iload_n (pc := 11) hE rfl 0 rfl dX9_at_11 ?_
  refine e_if_eq (pc := 12) hE 17 dX9_at_12 (by decide) (fun c0 => ?_) (fun c0 => ?_)
  · have h := h.1 c0
    refine e_aload_n (pc := 17) hE rfl 1 rfl dX9_at_17 ?_
    refine e_aload_n (pc := 18) hE rfl 1 rfl dX9_at_18 ?_
    refine g_RB_rows (pc := 19) hE tw_350 dX9_at_19 ?_
    refine e_iload_n (pc := 22) hE rfl 2 rfl dX9_at_22 ?_
    refine e_iload_n (pc := 23) hE rfl 3 rfl dX9_at_23 ?_
    refine c_Sh_valueAt (pc := 24) (d := d + 1 + 2) hE (t_Sh_valueAt (d := d + 1) sh4 h) (sh_kd sh4) tw_440 (Nat.le_of_ble_eq_true rfl) dX9_at_24 (fun r24 M24 h => ?_)
    refine p_RB_told (pc := 27) hE tw_363 dX9_at_27 ?_
    refine e_iconst (pc := 30) (v := 1) hE ki_1 dX9_at_30 ?_
    exact hR dX9_at_31 h
  · have h := h.2 c0
    refine e_iload_n (pc := 15) hE rfl 0 rfl dX9_at_15 ?_
    exact hR dX9_at_16 h
set_option maxHeartbeats 4000000 in
set_option maxRecDepth 20000 in
theorem t_B_tear {l : Launch} {G : Gs} {d : Nat} {a1 : Int32} {M : Mm} {Q : Int32 → Mm → Prop}  (h : wp_B_tear a1 M Q) : CtI l G (d + 3) yX9_tear cX9_tear 3 (some .int) [rv G 0, .int a1] M Q := by
  refine CtI.mk (by decide) rfl (Nat.le_of_ble_eq_true rfl) (fun E hE hR => ?_)
  show E 0 [(0, rv G 0), (1, .int a1)] [] M
  unfold wp_B_tear at h
  refine e_aload_n (pc := 0) hE rfl 0 rfl dX9_tear_0 ?_
  refine e_aload_n (pc := 1) hE rfl 0 rfl dX9_tear_1 ?_
  refine g_RB_rows (pc := 2) hE tw_350 dX9_tear_2 ?_
  refine e_iload_n (pc := 5) hE rfl 1 rfl dX9_tear_5 ?_
  refine c_B_shelfRefusal (pc := 6) (d := d + 2) hE (t_B_shelfRefusal (d := d) sh4 h) tw_428 (Nat.le_of_ble_eq_true rfl) dX9_tear_6 (fun r6 M6 h => ?_)
  refine e_istore_n (pc := 9) (lv' := [(2, .int r6), (0, rv G 0), (1, .int a1)]) hE dX9_tear_9 rfl (by decide) rfl ?_
  refine e_iload_n (pc := 10) hE rfl 0 rfl dX9_tear_10 ?_
  refine e_if_eq (pc := 11) hE 16 dX9_tear_11 (by decide) (fun c0 => ?_) (fun c0 => ?_)
  · have h := h.1 c0
    refine e_aload_n (pc := 16) hE rfl 1 rfl dX9_tear_16 ?_
    refine g_RB_rows (pc := 17) hE tw_350 dX9_tear_17 ?_
    refine e_iload_n (pc := 20) hE rfl 2 rfl dX9_tear_20 ?_
    refine c_Sh_drop (pc := 21) (d := d + 1 + 1) hE (t_Sh_drop (d := d + 1) sh4 h) (sh_kd sh4) tw_457 (Nat.le_of_ble_eq_true rfl) dX9_tear_21 (fun M21 h => ?_)
    refine e_iconst (pc := 24) (v := 1) hE ki_1 dX9_tear_24 ?_
    exact hR dX9_tear_25 h
  · have h := h.2 c0
    refine e_iload_n (pc := 14) hE rfl 0 rfl dX9_tear_14 ?_
    exact hR dX9_tear_15 h
set_option maxHeartbeats 4000000 in
set_option maxRecDepth 20000 in
theorem w_B_copy_57 {l : Launch} {G : Gs} {d : Nat} {E : EE} {a1 : Int32} {a2 : Int32} {a3 : Int32} {a4 : Int32} {a5 : Int32} {Q : Int32 → Mm → Prop} (hE : Mach l G RX9 cX9_copy 6 (d + 3) E) (hR : RtI cX9_copy E Q)     {M : Mm} (h : k_B_copy_57 a1 a2 a3 a4 a5 Q M)  : E 57 [(0, rv G 0)] [] M := by
  unfold k_B_copy_57 at h
  refine e_aload_n (pc := 57) hE rfl 0 rfl dX9_copy_57 ?_
  refine e_iconst (pc := 58) (v := 1) hE ki_1 dX9_copy_58 ?_
  refine c_B_answerFinding (pc := 59) (d := d + 2 + 0) hE (t_B_answerFinding (d := d + 2)  h) tw_411 (Nat.le_of_ble_eq_true rfl) dX9_copy_59 (fun r59 M59 h => ?_)
  exact hR dX9_copy_62 h
set_option maxHeartbeats 4000000 in
set_option maxRecDepth 20000 in
theorem w_B_copy_92 {l : Launch} {G : Gs} {d : Nat} {E : EE} {a1 : Int32} {a2 : Int32} {a3 : Int32} {a4 : Int32} {a5 : Int32} {Q : Int32 → Mm → Prop} (hE : Mach l G RX9 cX9_copy 6 (d + 3) E) (hR : RtI cX9_copy E Q)     {M : Mm} (h : k_B_copy_92 a1 a2 a3 a4 a5 Q M)  : E 92 [(0, rv G 0)] [] M := by
  unfold k_B_copy_92 at h
  refine e_aload_n (pc := 92) hE rfl 0 rfl dX9_copy_92 ?_
  refine e_iconst (pc := 93) (v := 2) hE ki_2 dX9_copy_93 ?_
  refine c_B_answerFinding (pc := 94) (d := d + 2 + 0) hE (t_B_answerFinding (d := d + 2)  h) tw_411 (Nat.le_of_ble_eq_true rfl) dX9_copy_94 (fun r94 M94 h => ?_)
  exact hR dX9_copy_97 h
set_option maxHeartbeats 4000000 in
set_option maxRecDepth 20000 in
theorem t_B_copy {l : Launch} {G : Gs} {d : Nat} {a1 : Int32} {a2 : Int32} {a3 : Int32} {a4 : Int32} {a5 : Int32} {M : Mm} {Q : Int32 → Mm → Prop}  (h : wp_B_copy a1 a2 a3 a4 a5 M Q) : CtI l G (d + 3) yX9_copy cX9_copy 6 (some .int) [rv G 0, .int a1, .int a2, .int a3, .int a4, .int a5] M Q := by
  refine CtI.mk (by decide) rfl (Nat.le_of_ble_eq_true rfl) (fun E hE hR => ?_)
  show E 0 [(0, rv G 0), (1, .int a1), (2, .int a2), (3, .int a3), (4, .int a4), (5, .int a5)] [] M
  unfold wp_B_copy at h
  refine e_aload_n (pc := 0) hE rfl 0 rfl dX9_copy_0 ?_
  refine g_RB_rows (pc := 1) hE tw_350 dX9_copy_1 ?_
  refine e_iload_n (pc := 4) hE rfl 1 rfl dX9_copy_4 ?_
  refine c_Sh_knows (pc := 5) (d := d + 2 + 0) hE (t_Sh_knows (d := d + 2) sh4 h) (sh_kd sh4) tw_407 (Nat.le_of_ble_eq_true rfl) dX9_copy_5 (fun r5 M5 h => ?_)
  refine e_if_eq (pc := 8) hE 22 dX9_copy_8 (by decide) (fun c0 => ?_) (fun c0 => ?_)
  · have h := h.1 c0
    refine e_iconst (pc := 22) (v := -1) hE ki_m1 dX9_copy_22 ?_
    exact hR dX9_copy_23 h
  · have h := h.2 c0
    refine e_aload_n (pc := 11) hE rfl 0 rfl dX9_copy_11 ?_
    refine g_RB_rows (pc := 12) hE tw_350 dX9_copy_12 ?_
    refine e_iload_n (pc := 15) hE rfl 3 rfl dX9_copy_15 ?_
    refine c_Sh_knows (pc := 16) (d := d + 2 + 0) hE (t_Sh_knows (d := d + 2) sh4 h) (sh_kd sh4) tw_407 (Nat.le_of_ble_eq_true rfl) dX9_copy_16 (fun r16 M16 h => ?_)
    refine e_if_ne (pc := 19) hE 24 dX9_copy_19 (by decide) (fun c0 => ?_) (fun c0 => ?_)
    · have h := h.1 c0
      refine e_iload (pc := 24) hE 5 rfl dX9_copy_24 ?_
      refine e_if_ge (pc := 26) hE 35 dX9_copy_26 (by decide) (fun c0 => ?_) (fun c0 => ?_)
      · have h := h.1 c0
        refine e_aload_n (pc := 35) hE rfl 0 rfl dX9_copy_35 ?_
        refine g_RB_rows (pc := 36) hE tw_350 dX9_copy_36 ?_
        refine e_iload_n (pc := 39) hE rfl 1 rfl dX9_copy_39 ?_
        refine c_Sh_isThere (pc := 40) (d := d + 1 + 1) hE (t_Sh_isThere (d := d + 1) sh4 h) (sh_kd sh4) tw_432 (Nat.le_of_ble_eq_true rfl) dX9_copy_40 (fun r40 M40 h => ?_)
        refine e_if_eq (pc := 43) hE 57 dX9_copy_43 (by decide) (fun c0 => ?_) (fun c0 => ?_)
        · have h := h.1 c0
          refine e_sub hE [0] rfl ?_
          exact w_B_copy_57 hE hR h
        · have h := h.2 c0
          refine e_aload_n (pc := 46) hE rfl 0 rfl dX9_copy_46 ?_
          refine g_RB_rows (pc := 47) hE tw_350 dX9_copy_47 ?_
          refine e_iload_n (pc := 50) hE rfl 3 rfl dX9_copy_50 ?_
          refine c_Sh_isThere (pc := 51) (d := d + 1 + 1) hE (t_Sh_isThere (d := d + 1) sh4 h) (sh_kd sh4) tw_432 (Nat.le_of_ble_eq_true rfl) dX9_copy_51 (fun r51 M51 h => ?_)
          refine e_if_ne (pc := 54) hE 63 dX9_copy_54 (by decide) (fun c0 => ?_) (fun c0 => ?_)
          · have h := h.1 c0
            refine e_aload_n (pc := 63) hE rfl 0 rfl dX9_copy_63 ?_
            refine g_RB_rows (pc := 64) hE tw_350 dX9_copy_64 ?_
            refine e_iload_n (pc := 67) hE rfl 1 rfl dX9_copy_67 ?_
            refine e_iload_n (pc := 68) hE rfl 2 rfl dX9_copy_68 ?_
            refine e_iload (pc := 69) hE 5 rfl dX9_copy_69 ?_
            refine c_Sh_hasStretch (pc := 71) (d := d + 1 + 1) hE (t_Sh_hasStretch (d := d + 1) sh4 h) (sh_kd sh4) tw_436 (Nat.le_of_ble_eq_true rfl) dX9_copy_71 (fun r71 M71 h => ?_)
            refine e_if_eq (pc := 74) hE 92 dX9_copy_74 (by decide) (fun c0 => ?_) (fun c0 => ?_)
            · have h := h.1 c0
              refine e_sub hE [0] rfl ?_
              exact w_B_copy_92 hE hR h
            · have h := h.2 c0
              refine e_aload_n (pc := 77) hE rfl 0 rfl dX9_copy_77 ?_
              refine g_RB_rows (pc := 78) hE tw_350 dX9_copy_78 ?_
              refine e_iload_n (pc := 81) hE rfl 3 rfl dX9_copy_81 ?_
              refine e_iload (pc := 82) hE 4 rfl dX9_copy_82 ?_
              refine e_iload (pc := 84) hE 5 rfl dX9_copy_84 ?_
              refine c_Sh_hasStretch (pc := 86) (d := d + 1 + 1) hE (t_Sh_hasStretch (d := d + 1) sh4 h) (sh_kd sh4) tw_436 (Nat.le_of_ble_eq_true rfl) dX9_copy_86 (fun r86 M86 h => ?_)
              refine e_if_ne (pc := 89) hE 98 dX9_copy_89 (by decide) (fun c0 => ?_) (fun c0 => ?_)
              · have h := h.1 c0
                refine e_aload_n (pc := 98) hE rfl 0 rfl dX9_copy_98 ?_
                refine g_RB_rows (pc := 99) hE tw_350 dX9_copy_99 ?_
                refine e_iload_n (pc := 102) hE rfl 1 rfl dX9_copy_102 ?_
                refine e_iload_n (pc := 103) hE rfl 2 rfl dX9_copy_103 ?_
                refine e_iload_n (pc := 104) hE rfl 3 rfl dX9_copy_104 ?_
                refine e_iload (pc := 105) hE 4 rfl dX9_copy_105 ?_
                refine e_iload (pc := 107) hE 5 rfl dX9_copy_107 ?_
                refine c_Sh_move (pc := 109) (d := d + 2) hE (t_Sh_move (d := d) sh4 h) (sh_kd sh4) tw_465 (Nat.le_of_ble_eq_true rfl) dX9_copy_109 (fun M109 h => ?_)
                refine e_iconst (pc := 112) (v := 1) hE ki_1 dX9_copy_112 ?_
                exact hR dX9_copy_113 h
              · have h := h.2 c0
                refine e_sub hE [0] rfl ?_
                exact w_B_copy_92 hE hR h
          · have h := h.2 c0
            refine e_sub hE [0] rfl ?_
            exact w_B_copy_57 hE hR h
      · have h := h.2 c0
        refine e_aload_n (pc := 29) hE rfl 0 rfl dX9_copy_29 ?_
        refine e_iconst (pc := 30) (v := 5) hE ki_5 dX9_copy_30 ?_
        refine c_B_answerFinding (pc := 31) (d := d + 2 + 0) hE (t_B_answerFinding (d := d + 2)  h) tw_411 (Nat.le_of_ble_eq_true rfl) dX9_copy_31 (fun r31 M31 h => ?_)
        exact hR dX9_copy_34 h
    · have h := h.2 c0
      refine e_iconst (pc := 22) (v := -1) hE ki_m1 dX9_copy_22 ?_
      exact hR dX9_copy_23 h
set_option maxHeartbeats 4000000 in
set_option maxRecDepth 20000 in
theorem t_B_mean {l : Launch} {G : Gs} {d : Nat} {a1 : Int32} {M : Mm} {Q : Int32 → Mm → Prop}  (h : wp_B_mean a1 M Q) : CtI l G (d + 3) yX9_mean cX9_mean 4 (some .int) [rv G 0, .int a1] M Q := by
  refine CtI.mk (by decide) rfl (Nat.le_of_ble_eq_true rfl) (fun E hE hR => ?_)
  show E 0 [(0, rv G 0), (1, .int a1)] [] M
  unfold wp_B_mean at h
  refine e_aload_n (pc := 0) hE rfl 0 rfl dX9_mean_0 ?_
  refine e_aload_n (pc := 1) hE rfl 0 rfl dX9_mean_1 ?_
  refine g_RB_rows (pc := 2) hE tw_350 dX9_mean_2 ?_
  refine e_iload_n (pc := 5) hE rfl 1 rfl dX9_mean_5 ?_
  refine c_B_shelfRefusal (pc := 6) (d := d + 2) hE (t_B_shelfRefusal (d := d) sh4 h) tw_428 (Nat.le_of_ble_eq_true rfl) dX9_mean_6 (fun r6 M6 h => ?_)
  refine e_istore_n (pc := 9) (lv' := [(2, .int r6), (0, rv G 0), (1, .int a1)]) hE dX9_mean_9 rfl (by decide) rfl ?_
  refine e_iload_n (pc := 10) hE rfl 0 rfl dX9_mean_10 ?_
  refine e_if_eq (pc := 11) hE 16 dX9_mean_11 (by decide) (fun c0 => ?_) (fun c0 => ?_)
  · have h := h.1 c0
    refine e_aload_n (pc := 16) hE rfl 1 rfl dX9_mean_16 ?_
    refine g_RB_rows (pc := 17) hE tw_350 dX9_mean_17 ?_
    refine e_iload_n (pc := 20) hE rfl 2 rfl dX9_mean_20 ?_
    refine c_Sh_sizeOf (pc := 21) (d := d + 1 + 1) hE (t_Sh_sizeOf (d := d + 1) sh4 h) (sh_kd sh4) tw_476 (Nat.le_of_ble_eq_true rfl) dX9_mean_21 (fun r21 M21 h => ?_)
    refine e_istore_n (pc := 24) (lv' := [(3, .int r21), (2, .int r6), (0, rv G 0), (1, .int a1)]) hE dX9_mean_24 rfl (by decide) rfl ?_
    refine e_iload_n (pc := 25) hE rfl 0 rfl dX9_mean_25 ?_
    refine e_if_gt (pc := 26) hE 35 dX9_mean_26 (by decide) (fun c0 => ?_) (fun c0 => ?_)
    · have h := h.1 c0
      refine e_aload_n (pc := 35) hE rfl 2 rfl dX9_mean_35 ?_
      refine e_aload_n (pc := 36) hE rfl 2 rfl dX9_mean_36 ?_
      refine g_RB_rows (pc := 37) hE tw_350 dX9_mean_37 ?_
      refine e_iload_n (pc := 40) hE rfl 3 rfl dX9_mean_40 ?_
      refine c_Sh_sumOf (pc := 41) (d := d + 2) hE (t_Sh_sumOf (d := d) sh4 h) (sh_kd sh4) tw_480 (Nat.le_of_ble_eq_true rfl) dX9_mean_41 (fun r41 M41 h => ?_)
      refine e_iload_n (pc := 44) hE rfl 0 rfl dX9_mean_44 ?_
      refine e_i2l (pc := 45) hE dX9_mean_45 ?_
      refine e_ldiv (pc := 46) hE h.1 dX9_mean_46 ?_
      have h := h.2
      refine e_l2i (pc := 47) hE dX9_mean_47 ?_
      refine e_topi (fun x48 ex48 => ?_)
      have h := h x48 ex48
      refine p_RB_told (pc := 48) hE tw_363 dX9_mean_48 ?_
      refine e_iconst (pc := 51) (v := 1) hE ki_1 dX9_mean_51 ?_
      exact hR dX9_mean_52 h
    · have h := h.2 c0
      refine e_aload_n (pc := 29) hE rfl 2 rfl dX9_mean_29 ?_
      refine e_iconst (pc := 30) (v := 4) hE ki_4 dX9_mean_30 ?_
      refine c_B_answerFinding (pc := 31) (d := d + 2 + 0) hE (t_B_answerFinding (d := d + 2)  h) tw_411 (Nat.le_of_ble_eq_true rfl) dX9_mean_31 (fun r31 M31 h => ?_)
      exact hR dX9_mean_34 h
  · have h := h.2 c0
    refine e_iload_n (pc := 14) hE rfl 0 rfl dX9_mean_14 ?_
    exact hR dX9_mean_15 h
set_option maxHeartbeats 4000000 in
set_option maxRecDepth 20000 in
theorem t_B_text {l : Launch} {G : Gs} {d : Nat} {a1 : Int32} {a2 : Int32} {M : Mm} {Q : Int32 → Mm → Prop}  (h : wp_B_text a1 a2 M Q) : CtI l G (d + 3) yX9_text cX9_text 3 (some .int) [rv G 0, .int a1, .int a2] M Q := by
  refine CtI.mk (by decide) rfl (Nat.le_of_ble_eq_true rfl) (fun E hE hR => ?_)
  show E 0 [(0, rv G 0), (1, .int a1), (2, .int a2)] [] M
  unfold wp_B_text at h
  refine e_aload_n (pc := 0) hE rfl 0 rfl dX9_text_0 ?_
  refine e_aload_n (pc := 1) hE rfl 0 rfl dX9_text_1 ?_
  refine g_RB_texts (pc := 2) hE tw_351 dX9_text_2 ?_
  refine e_iload_n (pc := 5) hE rfl 1 rfl dX9_text_5 ?_
  refine e_iload_n (pc := 6) hE rfl 2 rfl dX9_text_6 ?_
  refine e_bipush (pc := 7) (v := 32) hE kb_32 dX9_text_7 ?_
  refine c_B_makeIn (pc := 9) (d := d + 2) hE (t_B_makeIn (d := d) sh13 h) tw_403 (Nat.le_of_ble_eq_true rfl) dX9_text_9 (fun r9 M9 h => ?_)
  exact hR dX9_text_12 h
set_option maxHeartbeats 4000000 in
set_option maxRecDepth 20000 in
theorem t_B_put {l : Launch} {G : Gs} {d : Nat} {a1 : Int32} {a2 : Int32} {a3 : Int32} {M : Mm} {Q : Int32 → Mm → Prop}  (h : wp_B_put a1 a2 a3 M Q) : CtI l G (d + 4) yX9_put cX9_put 6 (some .int) [rv G 0, .int a1, .int a2, .int a3] M Q := by
  refine CtI.mk (by decide) rfl (Nat.le_of_ble_eq_true rfl) (fun E hE hR => ?_)
  show E 0 [(0, rv G 0), (1, .int a1), (2, .int a2), (3, .int a3)] [] M
  unfold wp_B_put at h
  refine e_aload_n (pc := 0) hE rfl 0 rfl dX9_put_0 ?_
  refine e_aload_n (pc := 1) hE rfl 0 rfl dX9_put_1 ?_
  refine g_RB_texts (pc := 2) hE tw_351 dX9_put_2 ?_
  refine e_iload_n (pc := 5) hE rfl 1 rfl dX9_put_5 ?_
  refine e_iload_n (pc := 6) hE rfl 2 rfl dX9_put_6 ?_
  refine c_B_placeRefusal (pc := 7) (d := d + 3) hE (t_B_placeRefusal (d := d) sh13 h) tw_424 (Nat.le_of_ble_eq_true rfl) dX9_put_7 (fun r7 M7 h => ?_)
  refine e_istore (pc := 10) (lv' := [(4, .int r7), (0, rv G 0), (1, .int a1), (2, .int a2), (3, .int a3)]) hE dX9_put_10 (by decide) rfl ?_
  refine e_iload (pc := 12) hE 0 rfl dX9_put_12 ?_
  refine e_if_eq (pc := 14) hE 20 dX9_put_14 (by decide) (fun c0 => ?_) (fun c0 => ?_)
  · have h := h.1 c0
    refine e_aload_n (pc := 20) hE rfl 1 rfl dX9_put_20 ?_
    refine g_RB_texts (pc := 21) hE tw_351 dX9_put_21 ?_
    refine e_iload_n (pc := 24) hE rfl 2 rfl dX9_put_24 ?_
    refine e_iload_n (pc := 25) hE rfl 3 rfl dX9_put_25 ?_
    refine c_Sh_valueAt (pc := 26) (d := d + 1 + 2) hE (t_Sh_valueAt (d := d + 1) sh13 h) (sh_kd sh13) tw_440 (Nat.le_of_ble_eq_true rfl) dX9_put_26 (fun r26 M26 h => ?_)
    refine e_istore (pc := 29) (lv' := [(5, .int r26), (4, .int r7), (0, rv G 0), (1, .int a1), (2, .int a2), (3, .int a3)]) hE dX9_put_29 (by decide) rfl ?_
    refine e_aload_n (pc := 31) hE rfl 2 rfl dX9_put_31 ?_
    refine g_RB_texts (pc := 32) hE tw_351 dX9_put_32 ?_
    refine e_iload_n (pc := 35) hE rfl 3 rfl dX9_put_35 ?_
    refine e_iload_n (pc := 36) hE rfl 4 rfl dX9_put_36 ?_
    refine e_iload_n (pc := 37) hE rfl 5 rfl dX9_put_37 ?_
    refine e_i2b (pc := 38) hE dX9_put_38 ?_
    refine c_Sh_setValue (pc := 39) (d := d + 1 + 2) hE (t_Sh_setValue (d := d + 1) sh13 h) (sh_kd sh13) tw_445 (Nat.le_of_ble_eq_true rfl) dX9_put_39 (fun M39 h => ?_)
    refine e_iload (pc := 42) hE 0 rfl dX9_put_42 ?_
    refine e_sipush (pc := 44) (v := 1000) hE ks_1000 dX9_put_44 ?_
    refine e_iadd (pc := 47) hE dX9_put_47 ?_
    exact hR dX9_put_48 h
  · have h := h.2 c0
    refine e_iload (pc := 17) hE 0 rfl dX9_put_17 ?_
    exact hR dX9_put_19 h
set_option maxHeartbeats 4000000 in
set_option maxRecDepth 20000 in
theorem t_B_fault {l : Launch} {G : Gs} {d : Nat} {a1 : Int32} {M : Mm} {Q : Int32 → Mm → Prop}  (h : wp_B_fault a1 M Q) : CtI l G (d + 5) yX9_fault cX9_fault 3 (some .int) [rv G 0, .int a1] M Q := by
  refine CtI.mk (by decide) rfl (Nat.le_of_ble_eq_true rfl) (fun E hE hR => ?_)
  show E 0 [(0, rv G 0), (1, .int a1)] [] M
  unfold wp_B_fault at h
  refine e_aload_n (pc := 0) hE rfl 0 rfl dX9_fault_0 ?_
  refine e_aload_n (pc := 1) hE rfl 0 rfl dX9_fault_1 ?_
  refine g_RB_texts (pc := 2) hE tw_351 dX9_fault_2 ?_
  refine e_iload_n (pc := 5) hE rfl 1 rfl dX9_fault_5 ?_
  refine c_B_shelfRefusal (pc := 6) (d := d + 2 + 2) hE (t_B_shelfRefusal (d := d + 2) sh13 h) tw_428 (Nat.le_of_ble_eq_true rfl) dX9_fault_6 (fun r6 M6 h => ?_)
  refine e_istore_n (pc := 9) (lv' := [(2, .int r6), (0, rv G 0), (1, .int a1)]) hE dX9_fault_9 rfl (by decide) rfl ?_
  refine e_iload_n (pc := 10) hE rfl 0 rfl dX9_fault_10 ?_
  refine e_if_eq (pc := 11) hE 18 dX9_fault_11 (by decide) (fun c0 => ?_) (fun c0 => ?_)
  · have h := h.1 c0
    refine e_aload_n (pc := 18) hE rfl 1 rfl dX9_fault_18 ?_
    refine g_RB_tester (pc := 19) hE tw_354 dX9_fault_19 ?_
    refine e_aload_n (pc := 22) hE rfl 1 rfl dX9_fault_22 ?_
    refine g_RB_texts (pc := 23) hE tw_351 dX9_fault_23 ?_
    refine e_iload_n (pc := 26) hE rfl 2 rfl dX9_fault_26 ?_
    refine c_Rd_read (pc := 27) (d := d + 4) hE (t_Rd_read (d := d) rd38 sh13 h) (rd_kd rd38) tw_497 (Nat.le_of_ble_eq_true rfl) dX9_fault_27 (fun r27 M27 h => ?_)
    exact hR dX9_fault_30 h
  · have h := h.2 c0
    refine e_iload_n (pc := 14) hE rfl 0 rfl dX9_fault_14 ?_
    refine e_goto (pc := 15) hE 30 dX9_fault_15 (by decide) ?_
    exact hR dX9_fault_30 h
set_option maxHeartbeats 4000000 in
set_option maxRecDepth 20000 in
theorem w_B_delta_62 {l : Launch} {G : Gs} {d : Nat} {E : EE} {a1 : Int32} {Q : Int32 → Mm → Prop} (hE : Mach l G RX9 cX9_delta 4 (d + 5) E) (hR : RtI cX9_delta E Q)   {KB : Int32 → Mm → Prop} {v3 : Int32} {M : Mm} (h : k_B_delta_62 a1 Q KB v3 M) (hKB : ∀ (v3 : Int32)  (M : Mm), KB v3 M → E 62 [(0, rv G 0), (3, .int v3)] [] M) : E 62 [(0, rv G 0), (3, .int v3)] [] M := by
  unfold k_B_delta_62 at h
  refine e_iload_n (pc := 62) hE rfl 1 rfl dX9_delta_62 ?_
  refine e_iconst (pc := 63) (v := 3) hE ki_3 dX9_delta_63 ?_
  refine e_icmp_ge (pc := 64) hE 83 dX9_delta_64 (by decide) (fun c0 => ?_) (fun c0 => ?_)
  · have h := h.1 c0
    refine e_aload_n (pc := 83) hE rfl 0 rfl dX9_delta_83 ?_
    refine g_RB_chart (pc := 84) hE tw_352 dX9_delta_84 ?_
    refine g_Chart_arms (pc := 87) hE (ch_kd ch20) tw_158 dX9_delta_87 ?_
    exact hR dX9_delta_90 h
  · have h := h.2 c0
    refine e_aload_n (pc := 67) hE rfl 0 rfl dX9_delta_67 ?_
    refine g_RB_kept (pc := 68) hE tw_356 dX9_delta_68 ?_
    refine e_iload_n (pc := 71) hE rfl 1 rfl dX9_delta_71 ?_
    have hx72 := kp_of h.1
    refine e_kald (pc := 72) hE ar_2 h.1 dX9_delta_72 ?_
    have h := h.2
    refine e_iconst (pc := 73) (v := 0) hE ki_0 dX9_delta_73 ?_
    refine p_Kept_there (pc := 74) hE (kp_kd hx72) (Or.inl rfl) tw_342 dX9_delta_74 ?_
    obtain ⟨x77, ex77⟩ : ∃ y : Int32, y = v3 + (1 : Int32) := ⟨_, rfl⟩
    have h := h x77 ex77
    refine e_iinc (pc := 77) (k := 1) (v := x77) (lv' := [(3, .int x77), (0, rv G 0)]) hE dX9_delta_77 rfl (by rw [ex77, ki_1]) (by decide) rfl ?_
    refine e_goto (pc := 80) hE 62 dX9_delta_80 (by decide) ?_
    refine e_sub hE [1, 0] rfl ?_
    exact hKB _ _ h
set_option maxHeartbeats 4000000 in
set_option maxRecDepth 20000 in
theorem w_lp_B_delta_62 {l : Launch} {G : Gs} {d : Nat} {E : EE} {a1 : Int32} {Q : Int32 → Mm → Prop} (hE : Mach l G RX9 cX9_delta 4 (d + 5) E) (hR : RtI cX9_delta E Q)    {n : Nat} {v3 : Int32} {M : Mm} (h : lp_B_delta_62 a1 Q n v3 M)  : E 62 [(0, rv G 0), (3, .int v3)] [] M := by
  have key : ∀ (n : Nat) (v3 : Int32) (M : Mm), lp_B_delta_62 a1 Q n v3 M → E 62 [(0, rv G 0), (3, .int v3)] [] M := by
    intro n
    induction n with
    | zero => intro v3 M h; exact h.elim
    | succ n ih => intro v3 M h; exact w_B_delta_62 hE hR  (show k_B_delta_62 a1 Q (lp_B_delta_62 a1 Q n)  v3 M from h) ih 
  exact key n _ _ h
set_option maxHeartbeats 4000000 in
set_option maxRecDepth 20000 in
theorem t_B_delta {l : Launch} {G : Gs} {d : Nat} {a1 : Int32} {M : Mm} {Q : Int32 → Mm → Prop}  (h : wp_B_delta a1 M Q) : CtI l G (d + 5) yX9_delta cX9_delta 4 (some .int) [rv G 0, .int a1] M Q := by
  refine CtI.mk (by decide) rfl (Nat.le_of_ble_eq_true rfl) (fun E hE hR => ?_)
  show E 0 [(0, rv G 0), (1, .int a1)] [] M
  unfold wp_B_delta at h
  refine e_aload_n (pc := 0) hE rfl 0 rfl dX9_delta_0 ?_
  refine e_aload_n (pc := 1) hE rfl 0 rfl dX9_delta_1 ?_
  refine g_RB_texts (pc := 2) hE tw_351 dX9_delta_2 ?_
  refine e_iload_n (pc := 5) hE rfl 1 rfl dX9_delta_5 ?_
  refine c_B_shelfRefusal (pc := 6) (d := d + 2 + 2) hE (t_B_shelfRefusal (d := d + 2) sh13 h) tw_428 (Nat.le_of_ble_eq_true rfl) dX9_delta_6 (fun r6 M6 h => ?_)
  refine e_istore_n (pc := 9) (lv' := [(2, .int r6), (0, rv G 0), (1, .int a1)]) hE dX9_delta_9 rfl (by decide) rfl ?_
  refine e_iload_n (pc := 10) hE rfl 0 rfl dX9_delta_10 ?_
  refine e_if_eq (pc := 11) hE 16 dX9_delta_11 (by decide) (fun c0 => ?_) (fun c0 => ?_)
  · have h := h.1 c0
    refine e_aload_n (pc := 16) hE rfl 1 rfl dX9_delta_16 ?_
    refine g_RB_tester (pc := 17) hE tw_354 dX9_delta_17 ?_
    refine e_aload_n (pc := 20) hE rfl 1 rfl dX9_delta_20 ?_
    refine g_RB_texts (pc := 21) hE tw_351 dX9_delta_21 ?_
    refine e_iload_n (pc := 24) hE rfl 2 rfl dX9_delta_24 ?_
    refine c_Rd_read (pc := 25) (d := d + 4) hE (t_Rd_read (d := d) rd38 sh13 h) (rd_kd rd38) tw_497 (Nat.le_of_ble_eq_true rfl) dX9_delta_25 (fun r25 M25 h => ?_)
    refine e_bipush (pc := 28) (v := -9) hE kb_m9 dX9_delta_28 ?_
    refine e_icmp_eq (pc := 30) hE 36 dX9_delta_30 (by decide) (fun c0 => ?_) (fun c0 => ?_)
    · have h := h.1 c0
      refine e_aload_n (pc := 36) hE rfl 1 rfl dX9_delta_36 ?_
      refine g_RB_reader (pc := 37) hE tw_353 dX9_delta_37 ?_
      refine e_aload_n (pc := 40) hE rfl 1 rfl dX9_delta_40 ?_
      refine g_RB_texts (pc := 41) hE tw_351 dX9_delta_41 ?_
      refine e_iload_n (pc := 44) hE rfl 2 rfl dX9_delta_44 ?_
      refine c_Rd_read (pc := 45) (d := d + 4) hE (t_Rd_read (d := d) rd36 sh13 h) (rd_kd rd36) tw_497 (Nat.le_of_ble_eq_true rfl) dX9_delta_45 (fun r45 M45 h => ?_)
      refine e_pop (pc := 48) hE rfl dX9_delta_48 ?_
      refine e_aload_n (pc := 49) hE rfl 1 rfl dX9_delta_49 ?_
      refine g_RB_story (pc := 50) hE tw_355 dX9_delta_50 ?_
      refine e_aload_n (pc := 53) hE rfl 1 rfl dX9_delta_53 ?_
      refine g_RB_chart (pc := 54) hE tw_352 dX9_delta_54 ?_
      refine c_St_begin (pc := 57) (d := d + 2 + 2) hE (t_St_begin (d := d + 2) st60 ch20 h) (st_kd st60) tw_560 (Nat.le_of_ble_eq_true rfl) dX9_delta_57 (fun M57 h => ?_)
      refine e_iconst (pc := 60) (v := 0) hE ki_0 dX9_delta_60 ?_
      refine e_istore_n (pc := 61) (lv' := [(3, .int (0 : Int32)), (2, .int r6), (0, rv G 0), (1, .int a1)]) hE dX9_delta_61 rfl (by decide) rfl ?_
      obtain ⟨n, h⟩ := h
      refine e_sub hE [2, 0] rfl ?_
      refine w_lp_B_delta_62 hE hR  h 
    · have h := h.2 c0
      refine e_bipush (pc := 33) (v := -4) hE kb_m4 dX9_delta_33 ?_
      exact hR dX9_delta_35 h
  · have h := h.2 c0
    refine e_iload_n (pc := 14) hE rfl 0 rfl dX9_delta_14 ?_
    exact hR dX9_delta_15 h
set_option maxHeartbeats 4000000 in
set_option maxRecDepth 20000 in
theorem t_B_armTells {l : Launch} {G : Gs} {d : Nat} {a1 : Int32} {a2 : Int32} {M : Mm} {Q : Int32 → Mm → Prop}  (h : wp_B_armTells a1 a2 M Q) : CtI l G (d + 2) yX9_armTells cX9_armTells 4 (some .int) [rv G 0, .int a1, .int a2] M Q := by
  refine CtI.mk (by decide) rfl (Nat.le_of_ble_eq_true rfl) (fun E hE hR => ?_)
  show E 0 [(0, rv G 0), (1, .int a1), (2, .int a2)] [] M
  unfold wp_B_armTells at h
  refine e_aload_n (pc := 0) hE rfl 0 rfl dX9_armTells_0 ?_
  refine g_RB_story (pc := 1) hE tw_355 dX9_armTells_1 ?_
  refine g_Story_present (pc := 4) hE (st_kd st60) tw_247 dX9_armTells_4 ?_
  refine e_astore_n (pc := 7) (lv' := [(3, rv G 61), (0, rv G 0), (1, .int a1), (2, .int a2)]) hE dX9_armTells_7 rfl (by decide) rfl ?_
  refine e_iload_n (pc := 8) hE rfl 3 rfl dX9_armTells_8 ?_
  by_cases c0 : a2 = 0
  · have h := h.1 c0
    refine e_swIn (pc := 9) hE 52 dX9_armTells_9 (by rw [c0]; decide) (by rw [c0]; decide) (by rw [c0]; rfl) (by decide) ?_
    refine e_aload_n (pc := 52) hE rfl 1 rfl dX9_armTells_52 ?_
    refine g_RB_chart (pc := 53) hE tw_352 dX9_armTells_53 ?_
    refine g_Chart_kind (pc := 56) hE (ch_kd ch20) tw_134 dX9_armTells_56 ?_
    refine e_iload_n (pc := 59) hE rfl 2 rfl dX9_armTells_59 ?_
    refine e_iald (pc := 60) hE ar_21 h.1 dX9_armTells_60 ?_
    have h := h.2
    exact hR dX9_armTells_61 h
  have h := h.2
  by_cases c1 : a2 = 1
  · have h := h.1 c1
    refine e_swIn (pc := 9) hE 62 dX9_armTells_9 (by rw [c1]; decide) (by rw [c1]; decide) (by rw [c1]; rfl) (by decide) ?_
    refine e_aload_n (pc := 62) hE rfl 1 rfl dX9_armTells_62 ?_
    refine g_RB_chart (pc := 63) hE tw_352 dX9_armTells_63 ?_
    refine g_Chart_width (pc := 66) hE (ch_kd ch20) tw_137 dX9_armTells_66 ?_
    refine e_iload_n (pc := 69) hE rfl 2 rfl dX9_armTells_69 ?_
    refine e_iald (pc := 70) hE ar_22 h.1 dX9_armTells_70 ?_
    have h := h.2
    exact hR dX9_armTells_71 h
  have h := h.2
  by_cases c2 : a2 = 2
  · have h := h.1 c2
    refine e_swIn (pc := 9) hE 72 dX9_armTells_9 (by rw [c2]; decide) (by rw [c2]; decide) (by rw [c2]; rfl) (by decide) ?_
    refine e_aload_n (pc := 72) hE rfl 1 rfl dX9_armTells_72 ?_
    refine g_RB_chart (pc := 73) hE tw_352 dX9_armTells_73 ?_
    refine g_Chart_need (pc := 76) hE (ch_kd ch20) tw_140 dX9_armTells_76 ?_
    refine e_iload_n (pc := 79) hE rfl 2 rfl dX9_armTells_79 ?_
    refine e_iald (pc := 80) hE ar_23 h.1 dX9_armTells_80 ?_
    have h := h.2
    exact hR dX9_armTells_81 h
  have h := h.2
  by_cases c3 : a2 = 3
  · have h := h.1 c3
    refine e_swIn (pc := 9) hE 82 dX9_armTells_9 (by rw [c3]; decide) (by rw [c3]; decide) (by rw [c3]; rfl) (by decide) ?_
    refine e_aload_n (pc := 82) hE rfl 0 rfl dX9_armTells_82 ?_
    refine g_Flow_open (pc := 83) hE kd_61 tw_221 dX9_armTells_83 ?_
    refine e_iload_n (pc := 86) hE rfl 2 rfl dX9_armTells_86 ?_
    refine e_ishr (pc := 87) hE dX9_armTells_87 ?_
    refine e_iconst (pc := 88) (v := 1) hE ki_1 dX9_armTells_88 ?_
    refine e_iand (pc := 89) hE dX9_armTells_89 ?_
    exact hR dX9_armTells_90 h
  have h := h.2
  by_cases c4 : a2 = 4
  · have h := h.1 c4
    refine e_swIn (pc := 9) hE 91 dX9_armTells_9 (by rw [c4]; decide) (by rw [c4]; decide) (by rw [c4]; rfl) (by decide) ?_
    refine e_aload_n (pc := 91) hE rfl 0 rfl dX9_armTells_91 ?_
    refine e_iload_n (pc := 92) hE rfl 2 rfl dX9_armTells_92 ?_
    refine c_Fl_saltOf (pc := 93) (d := d + 1 + 0) hE (t_Fl_saltOf (d := d + 1) kd_61 h) kd_61 tw_586 (Nat.le_of_ble_eq_true rfl) dX9_armTells_93 (fun r93 M93 h => ?_)
    exact hR dX9_armTells_96 h
  have h := h.2
  by_cases c5 : a2 = 5
  · have h := h.1 c5
    refine e_swIn (pc := 9) hE 97 dX9_armTells_9 (by rw [c5]; decide) (by rw [c5]; decide) (by rw [c5]; rfl) (by decide) ?_
    refine e_aload_n (pc := 97) hE rfl 0 rfl dX9_armTells_97 ?_
    refine e_iload_n (pc := 98) hE rfl 2 rfl dX9_armTells_98 ?_
    refine c_Fl_siltOf (pc := 99) (d := d + 1 + 0) hE (t_Fl_siltOf (d := d + 1) kd_61 h) kd_61 tw_590 (Nat.le_of_ble_eq_true rfl) dX9_armTells_99 (fun r99 M99 h => ?_)
    exact hR dX9_armTells_102 h
  have h := h.2
  by_cases c6 : a2 = 6
  · have h := h.1 c6
    refine e_swIn (pc := 9) hE 103 dX9_armTells_9 (by rw [c6]; decide) (by rw [c6]; decide) (by rw [c6]; rfl) (by decide) ?_
    refine e_aload_n (pc := 103) hE rfl 0 rfl dX9_armTells_103 ?_
    refine e_iload_n (pc := 104) hE rfl 2 rfl dX9_armTells_104 ?_
    refine c_Fl_harvestsOf (pc := 105) (d := d + 1 + 0) hE (t_Fl_harvestsOf (d := d + 1) kd_61 h) kd_61 tw_594 (Nat.le_of_ble_eq_true rfl) dX9_armTells_105 (fun r105 M105 h => ?_)
    exact hR dX9_armTells_108 h
  have h := h.2
  have cd : a2.toInt < 0 ∨ 6 < a2.toInt := by
    have q0 := sw_ne (n := 0) (by decide) c0
    have q1 := sw_ne (n := 1) (by decide) c1
    have q2 := sw_ne (n := 2) (by decide) c2
    have q3 := sw_ne (n := 3) (by decide) c3
    have q4 := sw_ne (n := 4) (by decide) c4
    have q5 := sw_ne (n := 5) (by decide) c5
    have q6 := sw_ne (n := 6) (by decide) c6
    omega
  have h := h cd
  refine e_swOut (pc := 9) hE 109 dX9_armTells_9 cd (by decide) ?_
  refine e_aload_n (pc := 109) hE rfl 0 rfl dX9_armTells_109 ?_
  refine e_aload_n (pc := 110) hE rfl 1 rfl dX9_armTells_110 ?_
  refine g_RB_chart (pc := 111) hE tw_352 dX9_armTells_111 ?_
  refine e_iload_n (pc := 114) hE rfl 2 rfl dX9_armTells_114 ?_
  refine c_Fl_mayBeStamped (pc := 115) (d := d + 1) hE (t_Fl_mayBeStamped (d := d) kd_61 ch20 h) kd_61 tw_599 (Nat.le_of_ble_eq_true rfl) dX9_armTells_115 (fun r115 M115 h => ?_)
  refine e_if_eq (pc := 118) hE 125 dX9_armTells_118 (by decide) (fun c0 => ?_) (fun c0 => ?_)
  · have h := h.1 c0
    refine e_iconst (pc := 125) (v := 0) hE ki_0 dX9_armTells_125 ?_
    exact hR dX9_armTells_126 h
  · have h := h.2 c0
    refine e_iconst (pc := 121) (v := 1) hE ki_1 dX9_armTells_121 ?_
    refine e_goto (pc := 122) hE 126 dX9_armTells_122 (by decide) ?_
    exact hR dX9_armTells_126 h
set_option maxHeartbeats 4000000 in
set_option maxRecDepth 20000 in
theorem t_B_arm {l : Launch} {G : Gs} {d : Nat} {a1 : Int32} {a2 : Int32} {M : Mm} {Q : Int32 → Mm → Prop}  (h : wp_B_arm a1 a2 M Q) : CtI l G (d + 3) yX9_arm cX9_arm 3 (some .int) [rv G 0, .int a1, .int a2] M Q := by
  refine CtI.mk (by decide) rfl (Nat.le_of_ble_eq_true rfl) (fun E hE hR => ?_)
  show E 0 [(0, rv G 0), (1, .int a1), (2, .int a2)] [] M
  unfold wp_B_arm at h
  refine e_aload_n (pc := 0) hE rfl 0 rfl dX9_arm_0 ?_
  refine g_RB_chart (pc := 1) hE tw_352 dX9_arm_1 ?_
  refine e_iload_n (pc := 4) hE rfl 1 rfl dX9_arm_4 ?_
  refine c_Ch_hasArm (pc := 5) (d := d + 2 + 0) hE (t_Ch_hasArm (d := d + 2) ch20 h) (ch_kd ch20) tw_578 (Nat.le_of_ble_eq_true rfl) dX9_arm_5 (fun r5 M5 h => ?_)
  refine e_if_eq (pc := 8) hE 21 dX9_arm_8 (by decide) (fun c0 => ?_) (fun c0 => ?_)
  · have h := h.1 c0
    refine e_iconst (pc := 21) (v := -1) hE ki_m1 dX9_arm_21 ?_
    exact hR dX9_arm_22 h
  · have h := h.2 c0
    refine e_iload_n (pc := 11) hE rfl 2 rfl dX9_arm_11 ?_
    refine e_if_lt (pc := 12) hE 21 dX9_arm_12 (by decide) (fun c0 => ?_) (fun c0 => ?_)
    · have h := h.1 c0
      refine e_iconst (pc := 21) (v := -1) hE ki_m1 dX9_arm_21 ?_
      exact hR dX9_arm_22 h
    · have h := h.2 c0
      refine e_iload_n (pc := 15) hE rfl 2 rfl dX9_arm_15 ?_
      refine e_bipush (pc := 16) (v := 7) hE kb_7 dX9_arm_16 ?_
      refine e_icmp_le (pc := 18) hE 23 dX9_arm_18 (by decide) (fun c0 => ?_) (fun c0 => ?_)
      · have h := h.1 c0
        refine e_aload_n (pc := 23) hE rfl 0 rfl dX9_arm_23 ?_
        refine e_aload_n (pc := 24) hE rfl 0 rfl dX9_arm_24 ?_
        refine e_iload_n (pc := 25) hE rfl 1 rfl dX9_arm_25 ?_
        refine e_iload_n (pc := 26) hE rfl 2 rfl dX9_arm_26 ?_
        refine c_B_armTells (pc := 27) (d := d + 2) hE (t_B_armTells (d := d)  h) tw_582 (Nat.le_of_ble_eq_true rfl) dX9_arm_27 (fun r27 M27 h => ?_)
        refine p_RB_told (pc := 30) hE tw_363 dX9_arm_30 ?_
        refine e_iconst (pc := 33) (v := 1) hE ki_1 dX9_arm_33 ?_
        exact hR dX9_arm_34 h
      · have h := h.2 c0
        refine e_iconst (pc := 21) (v := -1) hE ki_m1 dX9_arm_21 ?_
        exact hR dX9_arm_22 h
set_option maxHeartbeats 4000000 in
set_option maxRecDepth 20000 in
theorem t_B_stepsOfTwo {l : Launch} {G : Gs} {d : Nat} {a0 : Int32} {M : Mm} {Q : Int32 → Mm → Prop}  (h : wp_B_stepsOfTwo a0 M Q) : CtI l G (d + 0) yX9_stepsOfTwo cX9_stepsOfTwo 1 (some .int) [.int a0] M Q := by
  refine CtI.mk (by decide) rfl (Nat.le_of_ble_eq_true rfl) (fun E hE hR => ?_)
  show E 0 [(0, .int a0)] [] M
  unfold wp_B_stepsOfTwo at h
  refine e_iload_n (pc := 0) hE rfl 0 rfl dX9_stepsOfTwo_0 ?_
  refine e_if_gt (pc := 1) hE 8 dX9_stepsOfTwo_1 (by decide) (fun c0 => ?_) (fun c0 => ?_)
  · have h := h.1 c0
    refine e_iload_n (pc := 8) hE rfl 0 rfl dX9_stepsOfTwo_8 ?_
    refine e_iconst (pc := 9) (v := 1) hE ki_1 dX9_stepsOfTwo_9 ?_
    refine e_iadd (pc := 10) hE dX9_stepsOfTwo_10 ?_
    refine e_iconst (pc := 11) (v := 2) hE ki_2 dX9_stepsOfTwo_11 ?_
    refine e_idiv (pc := 12) hE (by decide) dX9_stepsOfTwo_12 ?_
    exact hR dX9_stepsOfTwo_13 h
  · have h := h.2 c0
    refine e_iconst (pc := 4) (v := 0) hE ki_0 dX9_stepsOfTwo_4 ?_
    refine e_goto (pc := 5) hE 13 dX9_stepsOfTwo_5 (by decide) ?_
    exact hR dX9_stepsOfTwo_13 h
set_option maxHeartbeats 4000000 in
set_option maxRecDepth 20000 in
theorem t_B_markOf {l : Launch} {G : Gs} {d : Nat} {a1 : Int32} {a2 : Int32} {M : Mm} {Q : Int32 → Mm → Prop}  (h : wp_B_markOf a1 a2 M Q) : CtI l G (d + 2) yX9_markOf cX9_markOf 4 (some .int) [rv G 0, .int a1, .int a2] M Q := by
  refine CtI.mk (by decide) rfl (Nat.le_of_ble_eq_true rfl) (fun E hE hR => ?_)
  show E 0 [(0, rv G 0), (1, .int a1), (2, .int a2)] [] M
  unfold wp_B_markOf at h
  refine e_aload_n (pc := 0) hE rfl 0 rfl dX9_markOf_0 ?_
  refine g_RB_story (pc := 1) hE tw_355 dX9_markOf_1 ?_
  refine g_Story_present (pc := 4) hE (st_kd st60) tw_247 dX9_markOf_4 ?_
  refine e_astore_n (pc := 7) (lv' := [(3, rv G 61), (0, rv G 0), (1, .int a1), (2, .int a2)]) hE dX9_markOf_7 rfl (by decide) rfl ?_
  refine e_iload_n (pc := 8) hE rfl 3 rfl dX9_markOf_8 ?_
  by_cases c1 : a2 = 1
  · have h := h.1 c1
    refine e_swIn (pc := 9) hE 40 dX9_markOf_9 (by rw [c1]; decide) (by rw [c1]; decide) (by rw [c1]; rfl) (by decide) ?_
    refine e_iconst (pc := 40) (v := 5) hE ki_5 dX9_markOf_40 ?_
    refine e_aload_n (pc := 41) hE rfl 0 rfl dX9_markOf_41 ?_
    refine e_iload_n (pc := 42) hE rfl 2 rfl dX9_markOf_42 ?_
    refine c_Fl_saltOf (pc := 43) (d := d + 1 + 0) hE (t_Fl_saltOf (d := d + 1) kd_61 h) kd_61 tw_586 (Nat.le_of_ble_eq_true rfl) dX9_markOf_43 (fun r43 M43 h => ?_)
    refine e_isub (pc := 46) hE dX9_markOf_46 ?_
    refine c_B_stepsOfTwo (pc := 47) (d := d + 1 + 0) hE (t_B_stepsOfTwo (d := d + 1)  h) tw_613 (Nat.le_of_ble_eq_true rfl) dX9_markOf_47 (fun r47 M47 h => ?_)
    exact hR dX9_markOf_50 h
  have h := h.2
  by_cases c2 : a2 = 2
  · have h := h.1 c2
    refine e_swIn (pc := 9) hE 51 dX9_markOf_9 (by rw [c2]; decide) (by rw [c2]; decide) (by rw [c2]; rfl) (by decide) ?_
    refine e_bipush (pc := 51) (v := 9) hE kb_9 dX9_markOf_51 ?_
    refine e_aload_n (pc := 53) hE rfl 0 rfl dX9_markOf_53 ?_
    refine e_iload_n (pc := 54) hE rfl 2 rfl dX9_markOf_54 ?_
    refine c_Fl_siltOf (pc := 55) (d := d + 1 + 0) hE (t_Fl_siltOf (d := d + 1) kd_61 h) kd_61 tw_590 (Nat.le_of_ble_eq_true rfl) dX9_markOf_55 (fun r55 M55 h => ?_)
    refine e_isub (pc := 58) hE dX9_markOf_58 ?_
    refine c_B_stepsOfTwo (pc := 59) (d := d + 1 + 0) hE (t_B_stepsOfTwo (d := d + 1)  h) tw_613 (Nat.le_of_ble_eq_true rfl) dX9_markOf_59 (fun r59 M59 h => ?_)
    exact hR dX9_markOf_62 h
  have h := h.2
  by_cases c3 : a2 = 3
  · have h := h.1 c3
    refine e_swIn (pc := 9) hE 63 dX9_markOf_9 (by rw [c3]; decide) (by rw [c3]; decide) (by rw [c3]; rfl) (by decide) ?_
    refine e_aload_n (pc := 63) hE rfl 0 rfl dX9_markOf_63 ?_
    refine g_Flow_barges (pc := 64) hE kd_61 tw_223 dX9_markOf_64 ?_
    refine e_iload_n (pc := 67) hE rfl 2 rfl dX9_markOf_67 ?_
    refine e_ishr (pc := 68) hE dX9_markOf_68 ?_
    refine e_iconst (pc := 69) (v := 1) hE ki_1 dX9_markOf_69 ?_
    refine e_iand (pc := 70) hE dX9_markOf_70 ?_
    exact hR dX9_markOf_71 h
  have h := h.2
  by_cases c4 : a2 = 4
  · have h := h.1 c4
    refine e_swIn (pc := 9) hE 72 dX9_markOf_9 (by rw [c4]; decide) (by rw [c4]; decide) (by rw [c4]; rfl) (by decide) ?_
    refine e_aload_n (pc := 72) hE rfl 1 rfl dX9_markOf_72 ?_
    refine g_RB_chart (pc := 73) hE tw_352 dX9_markOf_73 ?_
    refine e_iload_n (pc := 76) hE rfl 2 rfl dX9_markOf_76 ?_
    refine e_aload_n (pc := 77) hE rfl 0 rfl dX9_markOf_77 ?_
    refine g_Flow_open (pc := 78) hE kd_61 tw_221 dX9_markOf_78 ?_
    refine c_Ch_waterOf (pc := 81) (d := d + 1) hE (t_Ch_waterOf (d := d) ch20 h) (ch_kd ch20) tw_616 (Nat.le_of_ble_eq_true rfl) dX9_markOf_81 (fun r81 M81 h => ?_)
    exact hR dX9_markOf_84 h
  have h := h.2
  have cd : a2.toInt < 1 ∨ 4 < a2.toInt := by
    have q1 := sw_ne (n := 1) (by decide) c1
    have q2 := sw_ne (n := 2) (by decide) c2
    have q3 := sw_ne (n := 3) (by decide) c3
    have q4 := sw_ne (n := 4) (by decide) c4
    omega
  have h := h cd
  refine e_swOut (pc := 9) hE 85 dX9_markOf_9 cd (by decide) ?_
  refine e_aload_n (pc := 85) hE rfl 0 rfl dX9_markOf_85 ?_
  refine e_aload_n (pc := 86) hE rfl 1 rfl dX9_markOf_86 ?_
  refine g_RB_chart (pc := 87) hE tw_352 dX9_markOf_87 ?_
  refine e_iload_n (pc := 90) hE rfl 2 rfl dX9_markOf_90 ?_
  refine c_Fl_followerOf (pc := 91) (d := d + 1) hE (t_Fl_followerOf (d := d) kd_61 ch20 h) kd_61 tw_627 (Nat.le_of_ble_eq_true rfl) dX9_markOf_91 (fun r91 M91 h => ?_)
  exact hR dX9_markOf_94 h
set_option maxHeartbeats 4000000 in
set_option maxRecDepth 20000 in
theorem t_B_mark {l : Launch} {G : Gs} {d : Nat} {a1 : Int32} {a2 : Int32} {M : Mm} {Q : Int32 → Mm → Prop}  (h : wp_B_mark a1 a2 M Q) : CtI l G (d + 3) yX9_mark cX9_mark 3 (some .int) [rv G 0, .int a1, .int a2] M Q := by
  refine CtI.mk (by decide) rfl (Nat.le_of_ble_eq_true rfl) (fun E hE hR => ?_)
  show E 0 [(0, rv G 0), (1, .int a1), (2, .int a2)] [] M
  unfold wp_B_mark at h
  refine e_aload_n (pc := 0) hE rfl 0 rfl dX9_mark_0 ?_
  refine g_RB_chart (pc := 1) hE tw_352 dX9_mark_1 ?_
  refine e_iload_n (pc := 4) hE rfl 1 rfl dX9_mark_4 ?_
  refine c_Ch_hasArm (pc := 5) (d := d + 2 + 0) hE (t_Ch_hasArm (d := d + 2) ch20 h) (ch_kd ch20) tw_578 (Nat.le_of_ble_eq_true rfl) dX9_mark_5 (fun r5 M5 h => ?_)
  refine e_if_eq (pc := 8) hE 21 dX9_mark_8 (by decide) (fun c0 => ?_) (fun c0 => ?_)
  · have h := h.1 c0
    refine e_iconst (pc := 21) (v := -1) hE ki_m1 dX9_mark_21 ?_
    exact hR dX9_mark_22 h
  · have h := h.2 c0
    refine e_iload_n (pc := 11) hE rfl 2 rfl dX9_mark_11 ?_
    refine e_iconst (pc := 12) (v := 1) hE ki_1 dX9_mark_12 ?_
    refine e_icmp_lt (pc := 13) hE 21 dX9_mark_13 (by decide) (fun c0 => ?_) (fun c0 => ?_)
    · have h := h.1 c0
      refine e_iconst (pc := 21) (v := -1) hE ki_m1 dX9_mark_21 ?_
      exact hR dX9_mark_22 h
    · have h := h.2 c0
      refine e_iload_n (pc := 16) hE rfl 2 rfl dX9_mark_16 ?_
      refine e_iconst (pc := 17) (v := 5) hE ki_5 dX9_mark_17 ?_
      refine e_icmp_le (pc := 18) hE 23 dX9_mark_18 (by decide) (fun c0 => ?_) (fun c0 => ?_)
      · have h := h.1 c0
        refine e_aload_n (pc := 23) hE rfl 0 rfl dX9_mark_23 ?_
        refine g_RB_chart (pc := 24) hE tw_352 dX9_mark_24 ?_
        refine e_iload_n (pc := 27) hE rfl 1 rfl dX9_mark_27 ?_
        refine e_iload_n (pc := 28) hE rfl 2 rfl dX9_mark_28 ?_
        refine c_Ch_isOf (pc := 29) (d := d + 2 + 0) hE (t_Ch_isOf (d := d + 2) ch20 h) (ch_kd ch20) tw_608 (Nat.le_of_ble_eq_true rfl) dX9_mark_29 (fun r29 M29 h => ?_)
        refine e_if_ne (pc := 32) hE 41 dX9_mark_32 (by decide) (fun c0 => ?_) (fun c0 => ?_)
        · have h := h.1 c0
          refine e_aload_n (pc := 41) hE rfl 0 rfl dX9_mark_41 ?_
          refine e_iload_n (pc := 42) hE rfl 1 rfl dX9_mark_42 ?_
          refine e_iload_n (pc := 43) hE rfl 2 rfl dX9_mark_43 ?_
          refine c_B_markOf (pc := 44) (d := d + 2) hE (t_B_markOf (d := d)  h) tw_609 (Nat.le_of_ble_eq_true rfl) dX9_mark_44 (fun r44 M44 h => ?_)
          exact hR dX9_mark_47 h
        · have h := h.2 c0
          refine e_aload_n (pc := 35) hE rfl 0 rfl dX9_mark_35 ?_
          refine e_iconst (pc := 36) (v := 3) hE ki_3 dX9_mark_36 ?_
          refine c_B_answerFinding (pc := 37) (d := d + 2 + 0) hE (t_B_answerFinding (d := d + 2)  h) tw_411 (Nat.le_of_ble_eq_true rfl) dX9_mark_37 (fun r37 M37 h => ?_)
          exact hR dX9_mark_40 h
      · have h := h.2 c0
        refine e_iconst (pc := 21) (v := -1) hE ki_m1 dX9_mark_21 ?_
        exact hR dX9_mark_22 h
set_option maxHeartbeats 4000000 in
set_option maxRecDepth 20000 in
theorem t_B_need {l : Launch} {G : Gs} {d : Nat} {a1 : Int32} {a2 : Int32} {M : Mm} {Q : Int32 → Mm → Prop}  (h : wp_B_need a1 a2 M Q) : CtI l G (d + 2) yX9_need cX9_need 4 (some .int) [rv G 0, .int a1, .int a2] M Q := by
  refine CtI.mk (by decide) rfl (Nat.le_of_ble_eq_true rfl) (fun E hE hR => ?_)
  show E 0 [(0, rv G 0), (1, .int a1), (2, .int a2)] [] M
  unfold wp_B_need at h
  refine e_aload_n (pc := 0) hE rfl 0 rfl dX9_need_0 ?_
  refine g_RB_chart (pc := 1) hE tw_352 dX9_need_1 ?_
  refine e_iload_n (pc := 4) hE rfl 1 rfl dX9_need_4 ?_
  refine c_Ch_hasArm (pc := 5) (d := d + 1 + 0) hE (t_Ch_hasArm (d := d + 1) ch20 h) (ch_kd ch20) tw_578 (Nat.le_of_ble_eq_true rfl) dX9_need_5 (fun r5 M5 h => ?_)
  refine e_if_eq (pc := 8) hE 21 dX9_need_8 (by decide) (fun c0 => ?_) (fun c0 => ?_)
  · have h := h.1 c0
    refine e_iconst (pc := 21) (v := -1) hE ki_m1 dX9_need_21 ?_
    exact hR dX9_need_22 h
  · have h := h.2 c0
    refine e_iload_n (pc := 11) hE rfl 2 rfl dX9_need_11 ?_
    refine e_if_lt (pc := 12) hE 21 dX9_need_12 (by decide) (fun c0 => ?_) (fun c0 => ?_)
    · have h := h.1 c0
      refine e_iconst (pc := 21) (v := -1) hE ki_m1 dX9_need_21 ?_
      exact hR dX9_need_22 h
    · have h := h.2 c0
      refine e_iload_n (pc := 15) hE rfl 2 rfl dX9_need_15 ?_
      refine e_bipush (pc := 16) (v := 9) hE kb_9 dX9_need_16 ?_
      refine e_icmp_le (pc := 18) hE 23 dX9_need_18 (by decide) (fun c0 => ?_) (fun c0 => ?_)
      · have h := h.1 c0
        refine e_aload_n (pc := 23) hE rfl 0 rfl dX9_need_23 ?_
        refine g_RB_chart (pc := 24) hE tw_352 dX9_need_24 ?_
        refine g_Chart_need (pc := 27) hE (ch_kd ch20) tw_140 dX9_need_27 ?_
        refine e_iload_n (pc := 30) hE rfl 1 rfl dX9_need_30 ?_
        refine e_iald (pc := 31) hE ar_23 h.1 dX9_need_31 ?_
        have h := h.2
        refine e_topi (fun x32 ex32 => ?_)
        have h := h x32 ex32
        refine e_istore_n (pc := 32) (lv' := [(3, .int x32), (0, rv G 0), (1, .int a1), (2, .int a2)]) hE dX9_need_32 rfl (by decide) rfl ?_
        refine e_aload_n (pc := 33) hE rfl 1 rfl dX9_need_33 ?_
        refine g_RB_chart (pc := 34) hE tw_352 dX9_need_34 ?_
        refine g_Chart_need (pc := 37) hE (ch_kd ch20) tw_140 dX9_need_37 ?_
        refine e_iload_n (pc := 40) hE rfl 2 rfl dX9_need_40 ?_
        refine e_iload_n (pc := 41) hE rfl 3 rfl dX9_need_41 ?_
        refine e_iast (pc := 42) hE ar_23 h.1 dX9_need_42 ?_
        have h := h.2
        refine e_aload_n (pc := 43) hE rfl 1 rfl dX9_need_43 ?_
        refine g_RB_chart (pc := 44) hE tw_352 dX9_need_44 ?_
        refine c_Ch_forgetServed (pc := 47) (d := d + 1) hE (t_Ch_forgetServed (d := d) ch20 h) (ch_kd ch20) tw_636 (Nat.le_of_ble_eq_true rfl) dX9_need_47 (fun M47 h => ?_)
        refine e_iload_n (pc := 50) hE rfl 0 rfl dX9_need_50 ?_
        exact hR dX9_need_51 h
      · have h := h.2 c0
        refine e_iconst (pc := 21) (v := -1) hE ki_m1 dX9_need_21 ?_
        exact hR dX9_need_22 h
set_option maxHeartbeats 4000000 in
set_option maxRecDepth 20000 in
theorem w_B_awaits_81 {l : Launch} {G : Gs} {d : Nat} {E : EE} {a1 : Int32} {a2 : Int32} {a3 : Int32} {Q : Int32 → Mm → Prop} (hE : Mach l G RX9 cX9_awaits 5 (d + 1) E) (hR : RtI cX9_awaits E Q)    {v4 : Int32} {s0 : Int32} {s1 : Int32} {s2 : Int32} {s3 : Int32} {M : Mm} (h : k_B_awaits_81 a1 a2 a3 Q v4 s0 s1 s2 s3 M)  : E 81 [(4, .int v4)] [.int s0, .int s1, .int s2, .int s3, rv G 26] M := by
  unfold k_B_awaits_81 at h
  refine c_B_withBit (pc := 81) (d := d + 0) hE (t_B_withBit (d := d)  h) tw_641 (Nat.le_of_ble_eq_true rfl) dX9_awaits_81 (fun r81 M81 h => ?_)
  refine e_iast (pc := 84) hE ar_26 h.1 dX9_awaits_84 ?_
  have h := h.2
  refine e_iload (pc := 85) hE 0 rfl dX9_awaits_85 ?_
  exact hR dX9_awaits_87 h
set_option maxHeartbeats 4000000 in
set_option maxRecDepth 20000 in
theorem t_B_awaits {l : Launch} {G : Gs} {d : Nat} {a1 : Int32} {a2 : Int32} {a3 : Int32} {M : Mm} {Q : Int32 → Mm → Prop}  (h : wp_B_awaits a1 a2 a3 M Q) : CtI l G (d + 1) yX9_awaits cX9_awaits 5 (some .int) [rv G 0, .int a1, .int a2, .int a3] M Q := by
  refine CtI.mk (by decide) rfl (Nat.le_of_ble_eq_true rfl) (fun E hE hR => ?_)
  show E 0 [(0, rv G 0), (1, .int a1), (2, .int a2), (3, .int a3)] [] M
  unfold wp_B_awaits at h
  refine e_aload_n (pc := 0) hE rfl 0 rfl dX9_awaits_0 ?_
  refine g_RB_chart (pc := 1) hE tw_352 dX9_awaits_1 ?_
  refine e_iload_n (pc := 4) hE rfl 1 rfl dX9_awaits_4 ?_
  refine c_Ch_hasArm (pc := 5) (d := d + 0) hE (t_Ch_hasArm (d := d) ch20 h) (ch_kd ch20) tw_578 (Nat.le_of_ble_eq_true rfl) dX9_awaits_5 (fun r5 M5 h => ?_)
  refine e_if_eq (pc := 8) hE 36 dX9_awaits_8 (by decide) (fun c0 => ?_) (fun c0 => ?_)
  · have h := h.1 c0
    refine e_iconst (pc := 36) (v := -1) hE ki_m1 dX9_awaits_36 ?_
    exact hR dX9_awaits_37 h
  · have h := h.2 c0
    refine e_aload_n (pc := 11) hE rfl 0 rfl dX9_awaits_11 ?_
    refine g_RB_chart (pc := 12) hE tw_352 dX9_awaits_12 ?_
    refine e_iload_n (pc := 15) hE rfl 2 rfl dX9_awaits_15 ?_
    refine c_Ch_hasArm (pc := 16) (d := d + 0) hE (t_Ch_hasArm (d := d) ch20 h) (ch_kd ch20) tw_578 (Nat.le_of_ble_eq_true rfl) dX9_awaits_16 (fun r16 M16 h => ?_)
    refine e_if_eq (pc := 19) hE 36 dX9_awaits_19 (by decide) (fun c0 => ?_) (fun c0 => ?_)
    · have h := h.1 c0
      refine e_iconst (pc := 36) (v := -1) hE ki_m1 dX9_awaits_36 ?_
      exact hR dX9_awaits_37 h
    · have h := h.2 c0
      refine e_iload_n (pc := 22) hE rfl 1 rfl dX9_awaits_22 ?_
      refine e_iload_n (pc := 23) hE rfl 2 rfl dX9_awaits_23 ?_
      refine e_icmp_eq (pc := 24) hE 36 dX9_awaits_24 (by decide) (fun c0 => ?_) (fun c0 => ?_)
      · have h := h.1 c0
        refine e_iconst (pc := 36) (v := -1) hE ki_m1 dX9_awaits_36 ?_
        exact hR dX9_awaits_37 h
      · have h := h.2 c0
        refine e_iload_n (pc := 27) hE rfl 3 rfl dX9_awaits_27 ?_
        refine e_if_lt (pc := 28) hE 36 dX9_awaits_28 (by decide) (fun c0 => ?_) (fun c0 => ?_)
        · have h := h.1 c0
          refine e_iconst (pc := 36) (v := -1) hE ki_m1 dX9_awaits_36 ?_
          exact hR dX9_awaits_37 h
        · have h := h.2 c0
          refine e_iload_n (pc := 31) hE rfl 3 rfl dX9_awaits_31 ?_
          refine e_iconst (pc := 32) (v := 1) hE ki_1 dX9_awaits_32 ?_
          refine e_icmp_le (pc := 33) hE 38 dX9_awaits_33 (by decide) (fun c0 => ?_) (fun c0 => ?_)
          · have h := h.1 c0
            refine e_aload_n (pc := 38) hE rfl 0 rfl dX9_awaits_38 ?_
            refine g_RB_chart (pc := 39) hE tw_352 dX9_awaits_39 ?_
            refine g_Chart_waits (pc := 42) hE (ch_kd ch20) tw_151 dX9_awaits_42 ?_
            refine e_iload_n (pc := 45) hE rfl 1 rfl dX9_awaits_45 ?_
            refine e_iald (pc := 46) hE ar_26 h.1 dX9_awaits_46 ?_
            have h := h.2
            refine e_iload_n (pc := 47) hE rfl 2 rfl dX9_awaits_47 ?_
            refine e_ishr (pc := 48) hE dX9_awaits_48 ?_
            refine e_iconst (pc := 49) (v := 1) hE ki_1 dX9_awaits_49 ?_
            refine e_iand (pc := 50) hE dX9_awaits_50 ?_
            refine e_topi (fun x51 ex51 => ?_)
            have h := h x51 ex51
            refine e_istore (pc := 51) (lv' := [(4, .int x51), (0, rv G 0), (1, .int a1), (2, .int a2), (3, .int a3)]) hE dX9_awaits_51 (by decide) rfl ?_
            refine e_aload_n (pc := 53) hE rfl 1 rfl dX9_awaits_53 ?_
            refine g_RB_chart (pc := 54) hE tw_352 dX9_awaits_54 ?_
            refine g_Chart_waits (pc := 57) hE (ch_kd ch20) tw_151 dX9_awaits_57 ?_
            refine e_iload_n (pc := 60) hE rfl 2 rfl dX9_awaits_60 ?_
            refine e_aload_n (pc := 61) hE rfl 1 rfl dX9_awaits_61 ?_
            refine g_RB_chart (pc := 62) hE tw_352 dX9_awaits_62 ?_
            refine g_Chart_waits (pc := 65) hE (ch_kd ch20) tw_151 dX9_awaits_65 ?_
            refine e_iload_n (pc := 68) hE rfl 2 rfl dX9_awaits_68 ?_
            refine e_iald (pc := 69) hE ar_26 h.1 dX9_awaits_69 ?_
            have h := h.2
            refine e_iload_n (pc := 70) hE rfl 3 rfl dX9_awaits_70 ?_
            refine e_iload_n (pc := 71) hE rfl 4 rfl dX9_awaits_71 ?_
            refine e_iconst (pc := 72) (v := 1) hE ki_1 dX9_awaits_72 ?_
            refine e_icmp_ne (pc := 73) hE 80 dX9_awaits_73 (by decide) (fun c0 => ?_) (fun c0 => ?_)
            · have h := h.1 c0
              refine e_iconst (pc := 80) (v := 0) hE ki_0 dX9_awaits_80 ?_
              refine e_sub hE [0] rfl ?_
              exact w_B_awaits_81 hE hR h
            · have h := h.2 c0
              refine e_iconst (pc := 76) (v := 1) hE ki_1 dX9_awaits_76 ?_
              refine e_goto (pc := 77) hE 81 dX9_awaits_77 (by decide) ?_
              refine e_sub hE [0] rfl ?_
              exact w_B_awaits_81 hE hR h
          · have h := h.2 c0
            refine e_iconst (pc := 36) (v := -1) hE ki_m1 dX9_awaits_36 ?_
            exact hR dX9_awaits_37 h
set_option maxHeartbeats 4000000 in
set_option maxRecDepth 20000 in
theorem t_B_doStamp {l : Launch} {G : Gs} {d : Nat} {a1 : Int32} {M : Mm} {Q : Mm → Prop}  (h : wp_B_doStamp a1 M Q) : CtV l G (d + 3) yX9_doStamp cX9_doStamp 2 (none) [rv G 0, .int a1] M Q := by
  refine CtV.mk (by decide) rfl (Nat.le_of_ble_eq_true rfl) (fun E hE hR => ?_)
  show E 0 [(0, rv G 0), (1, .int a1)] [] M
  unfold wp_B_doStamp at h
  refine e_aload_n (pc := 0) hE rfl 0 rfl dX9_doStamp_0 ?_
  refine g_RB_story (pc := 1) hE tw_355 dX9_doStamp_1 ?_
  refine c_St_noteDeed (pc := 4) (d := d + 1 + 1) hE (t_St_noteDeed (d := d + 1) st60 h) (st_kd st60) tw_656 (Nat.le_of_ble_eq_true rfl) dX9_doStamp_4 (fun M4 h => ?_)
  refine e_aload_n (pc := 7) hE rfl 0 rfl dX9_doStamp_7 ?_
  refine g_RB_story (pc := 8) hE tw_355 dX9_doStamp_8 ?_
  refine g_Story_present (pc := 11) hE (st_kd st60) tw_247 dX9_doStamp_11 ?_
  refine e_aload_n (pc := 14) hE rfl 0 rfl dX9_doStamp_14 ?_
  refine g_RB_chart (pc := 15) hE tw_352 dX9_doStamp_15 ?_
  refine e_iload_n (pc := 18) hE rfl 1 rfl dX9_doStamp_18 ?_
  refine c_Fl_stampArm (pc := 19) (d := d + 2) hE (t_Fl_stampArm (d := d) kd_61 ch20 h) kd_61 tw_665 (Nat.le_of_ble_eq_true rfl) dX9_doStamp_19 (fun M19 h => ?_)
  exact hR dX9_doStamp_22 h
set_option maxHeartbeats 4000000 in
set_option maxRecDepth 20000 in
theorem t_B_stamp {l : Launch} {G : Gs} {d : Nat} {a1 : Int32} {M : Mm} {Q : Int32 → Mm → Prop}  (h : wp_B_stamp a1 M Q) : CtI l G (d + 4) yX9_stamp cX9_stamp 2 (some .int) [rv G 0, .int a1] M Q := by
  refine CtI.mk (by decide) rfl (Nat.le_of_ble_eq_true rfl) (fun E hE hR => ?_)
  show E 0 [(0, rv G 0), (1, .int a1)] [] M
  unfold wp_B_stamp at h
  refine e_aload_n (pc := 0) hE rfl 0 rfl dX9_stamp_0 ?_
  refine g_RB_chart (pc := 1) hE tw_352 dX9_stamp_1 ?_
  refine e_iload_n (pc := 4) hE rfl 1 rfl dX9_stamp_4 ?_
  refine c_Ch_hasArm (pc := 5) (d := d + 3 + 0) hE (t_Ch_hasArm (d := d + 3) ch20 h) (ch_kd ch20) tw_578 (Nat.le_of_ble_eq_true rfl) dX9_stamp_5 (fun r5 M5 h => ?_)
  refine e_if_ne (pc := 8) hE 13 dX9_stamp_8 (by decide) (fun c0 => ?_) (fun c0 => ?_)
  · have h := h.1 c0
    refine e_aload_n (pc := 13) hE rfl 0 rfl dX9_stamp_13 ?_
    refine g_RB_story (pc := 14) hE tw_355 dX9_stamp_14 ?_
    refine g_Story_present (pc := 17) hE (st_kd st60) tw_247 dX9_stamp_17 ?_
    refine e_aload_n (pc := 20) hE rfl 0 rfl dX9_stamp_20 ?_
    refine g_RB_chart (pc := 21) hE tw_352 dX9_stamp_21 ?_
    refine e_iload_n (pc := 24) hE rfl 1 rfl dX9_stamp_24 ?_
    refine c_Fl_mayBeStamped (pc := 25) (d := d + 2 + 1) hE (t_Fl_mayBeStamped (d := d + 2) kd_61 ch20 h) kd_61 tw_599 (Nat.le_of_ble_eq_true rfl) dX9_stamp_25 (fun r25 M25 h => ?_)
    refine e_if_ne (pc := 28) hE 34 dX9_stamp_28 (by decide) (fun c0 => ?_) (fun c0 => ?_)
    · have h := h.1 c0
      refine e_aload_n (pc := 34) hE rfl 0 rfl dX9_stamp_34 ?_
      refine g_RB_story (pc := 35) hE tw_355 dX9_stamp_35 ?_
      refine c_St_isFull (pc := 38) (d := d + 3 + 0) hE (t_St_isFull (d := d + 3) st60 h) (st_kd st60) tw_648 (Nat.le_of_ble_eq_true rfl) dX9_stamp_38 (fun r38 M38 h => ?_)
      refine e_if_eq (pc := 41) hE 47 dX9_stamp_41 (by decide) (fun c0 => ?_) (fun c0 => ?_)
      · have h := h.1 c0
        refine e_aload_n (pc := 47) hE rfl 0 rfl dX9_stamp_47 ?_
        refine e_iload_n (pc := 48) hE rfl 1 rfl dX9_stamp_48 ?_
        refine c_B_doStamp (pc := 49) (d := d + 3) hE (t_B_doStamp (d := d)  h) tw_652 (Nat.le_of_ble_eq_true rfl) dX9_stamp_49 (fun M49 h => ?_)
        refine e_aload_n (pc := 52) hE rfl 0 rfl dX9_stamp_52 ?_
        refine g_RB_story (pc := 53) hE tw_355 dX9_stamp_53 ?_
        refine g_Story_present (pc := 56) hE (st_kd st60) tw_247 dX9_stamp_56 ?_
        refine g_Flow_open (pc := 59) hE kd_61 tw_221 dX9_stamp_59 ?_
        exact hR dX9_stamp_62 h
      · have h := h.2 c0
        refine e_bipush (pc := 44) (v := -2) hE kb_m2 dX9_stamp_44 ?_
        exact hR dX9_stamp_46 h
    · have h := h.2 c0
      refine e_bipush (pc := 31) (v := -4) hE kb_m4 dX9_stamp_31 ?_
      exact hR dX9_stamp_33 h
  · have h := h.2 c0
    refine e_iconst (pc := 11) (v := -1) hE ki_m1 dX9_stamp_11 ?_
    exact hR dX9_stamp_12 h
set_option maxHeartbeats 4000000 in
set_option maxRecDepth 20000 in
theorem t_B_doSeason {l : Launch} {G : Gs} {d : Nat}  {M : Mm} {Q : Int32 → Mm → Prop}  (h : wp_B_doSeason  M Q) : CtI l G (d + 5) yX9_doSeason cX9_doSeason 1 (some .int) [rv G 0] M Q := by
  refine CtI.mk (by decide) rfl (Nat.le_of_ble_eq_true rfl) (fun E hE hR => ?_)
  show E 0 [(0, rv G 0)] [] M
  unfold wp_B_doSeason at h
  refine e_aload_n (pc := 0) hE rfl 0 rfl dX9_doSeason_0 ?_
  refine g_RB_story (pc := 1) hE tw_355 dX9_doSeason_1 ?_
  refine c_St_noteDeed (pc := 4) (d := d + 3 + 1) hE (t_St_noteDeed (d := d + 3) st60 h) (st_kd st60) tw_656 (Nat.le_of_ble_eq_true rfl) dX9_doSeason_4 (fun M4 h => ?_)
  refine e_aload_n (pc := 7) hE rfl 0 rfl dX9_doSeason_7 ?_
  refine g_RB_story (pc := 8) hE tw_355 dX9_doSeason_8 ?_
  refine g_Story_present (pc := 11) hE (st_kd st60) tw_247 dX9_doSeason_11 ?_
  refine e_aload_n (pc := 14) hE rfl 0 rfl dX9_doSeason_14 ?_
  refine g_RB_chart (pc := 15) hE tw_352 dX9_doSeason_15 ?_
  refine c_Fl_goBy (pc := 18) (d := d + 4) hE (t_Fl_goBy (d := d) kd_61 ch20 h) kd_61 tw_679 (Nat.le_of_ble_eq_true rfl) dX9_doSeason_18 (fun r18 M18 h => ?_)
  exact hR dX9_doSeason_21 h
set_option maxHeartbeats 4000000 in
set_option maxRecDepth 20000 in
theorem t_B_season {l : Launch} {G : Gs} {d : Nat}  {M : Mm} {Q : Int32 → Mm → Prop}  (h : wp_B_season  M Q) : CtI l G (d + 6) yX9_season cX9_season 1 (some .int) [rv G 0] M Q := by
  refine CtI.mk (by decide) rfl (Nat.le_of_ble_eq_true rfl) (fun E hE hR => ?_)
  show E 0 [(0, rv G 0)] [] M
  unfold wp_B_season at h
  refine e_aload_n (pc := 0) hE rfl 0 rfl dX9_season_0 ?_
  refine g_RB_chart (pc := 1) hE tw_352 dX9_season_1 ?_
  refine g_Chart_arms (pc := 4) hE (ch_kd ch20) tw_158 dX9_season_4 ?_
  refine e_if_ne (pc := 7) hE 13 dX9_season_7 (by decide) (fun c0 => ?_) (fun c0 => ?_)
  · have h := h.1 c0
    refine e_aload_n (pc := 13) hE rfl 0 rfl dX9_season_13 ?_
    refine g_RB_story (pc := 14) hE tw_355 dX9_season_14 ?_
    refine c_St_isFull (pc := 17) (d := d + 5 + 0) hE (t_St_isFull (d := d + 5) st60 h) (st_kd st60) tw_648 (Nat.le_of_ble_eq_true rfl) dX9_season_17 (fun r17 M17 h => ?_)
    refine e_if_eq (pc := 20) hE 26 dX9_season_20 (by decide) (fun c0 => ?_) (fun c0 => ?_)
    · have h := h.1 c0
      refine e_aload_n (pc := 26) hE rfl 0 rfl dX9_season_26 ?_
      refine e_aload_n (pc := 27) hE rfl 0 rfl dX9_season_27 ?_
      refine c_B_doSeason (pc := 28) (d := d + 5) hE (t_B_doSeason (d := d)  h) tw_675 (Nat.le_of_ble_eq_true rfl) dX9_season_28 (fun r28 M28 h => ?_)
      refine p_RB_told (pc := 31) hE tw_363 dX9_season_31 ?_
      refine e_aload_n (pc := 34) hE rfl 0 rfl dX9_season_34 ?_
      refine g_RB_told (pc := 35) hE tw_363 dX9_season_35 ?_
      refine c_J_bitCount (pc := 38) (d := d + 5 + 0) hE (t_J_bitCount (d := d + 5)  h) tw_708 (Nat.le_of_ble_eq_true rfl) dX9_season_38 (fun r38 M38 h => ?_)
      exact hR dX9_season_41 h
    · have h := h.2 c0
      refine e_bipush (pc := 23) (v := -2) hE kb_m2 dX9_season_23 ?_
      exact hR dX9_season_25 h
  · have h := h.2 c0
    refine e_bipush (pc := 10) (v := -4) hE kb_m4 dX9_season_10 ?_
    exact hR dX9_season_12 h
set_option maxHeartbeats 4000000 in
set_option maxRecDepth 20000 in
theorem t_B_leave {l : Launch} {G : Gs} {d : Nat} {a1 : Int32} {M : Mm} {Q : Int32 → Mm → Prop}  (h : wp_B_leave a1 M Q) : CtI l G (d + 2) yX9_leave cX9_leave 2 (some .int) [rv G 0, .int a1] M Q := by
  refine CtI.mk (by decide) rfl (Nat.le_of_ble_eq_true rfl) (fun E hE hR => ?_)
  show E 0 [(0, rv G 0), (1, .int a1)] [] M
  unfold wp_B_leave at h
  refine e_aload_n (pc := 0) hE rfl 0 rfl dX9_leave_0 ?_
  refine g_RB_chart (pc := 1) hE tw_352 dX9_leave_1 ?_
  refine e_iload_n (pc := 4) hE rfl 1 rfl dX9_leave_4 ?_
  refine c_Ch_hasArm (pc := 5) (d := d + 1 + 0) hE (t_Ch_hasArm (d := d + 1) ch20 h) (ch_kd ch20) tw_578 (Nat.le_of_ble_eq_true rfl) dX9_leave_5 (fun r5 M5 h => ?_)
  refine e_if_ne (pc := 8) hE 13 dX9_leave_8 (by decide) (fun c0 => ?_) (fun c0 => ?_)
  · have h := h.1 c0
    refine e_aload_n (pc := 13) hE rfl 0 rfl dX9_leave_13 ?_
    refine g_RB_story (pc := 14) hE tw_355 dX9_leave_14 ?_
    refine g_Story_present (pc := 17) hE (st_kd st60) tw_247 dX9_leave_17 ?_
    refine g_Flow_barges (pc := 20) hE kd_61 tw_223 dX9_leave_20 ?_
    refine e_iload_n (pc := 23) hE rfl 1 rfl dX9_leave_23 ?_
    refine c_B_hasBit (pc := 24) (d := d + 1 + 0) hE (t_B_hasBit (d := d + 1)  h) tw_713 (Nat.le_of_ble_eq_true rfl) dX9_leave_24 (fun r24 M24 h => ?_)
    refine e_if_ne (pc := 27) hE 33 dX9_leave_27 (by decide) (fun c0 => ?_) (fun c0 => ?_)
    · have h := h.1 c0
      refine e_aload_n (pc := 33) hE rfl 0 rfl dX9_leave_33 ?_
      refine g_RB_story (pc := 34) hE tw_355 dX9_leave_34 ?_
      refine c_St_isFull (pc := 37) (d := d + 1 + 0) hE (t_St_isFull (d := d + 1) st60 h) (st_kd st60) tw_648 (Nat.le_of_ble_eq_true rfl) dX9_leave_37 (fun r37 M37 h => ?_)
      refine e_if_eq (pc := 40) hE 46 dX9_leave_40 (by decide) (fun c0 => ?_) (fun c0 => ?_)
      · have h := h.1 c0
        refine e_aload_n (pc := 46) hE rfl 0 rfl dX9_leave_46 ?_
        refine g_RB_story (pc := 47) hE tw_355 dX9_leave_47 ?_
        refine c_St_noteDeed (pc := 50) (d := d + 1) hE (t_St_noteDeed (d := d) st60 h) (st_kd st60) tw_656 (Nat.le_of_ble_eq_true rfl) dX9_leave_50 (fun M50 h => ?_)
        refine e_aload_n (pc := 53) hE rfl 0 rfl dX9_leave_53 ?_
        refine g_RB_story (pc := 54) hE tw_355 dX9_leave_54 ?_
        refine g_Story_present (pc := 57) hE (st_kd st60) tw_247 dX9_leave_57 ?_
        refine e_iload_n (pc := 60) hE rfl 1 rfl dX9_leave_60 ?_
        refine c_Fl_dropBarge (pc := 61) (d := d + 1) hE (t_Fl_dropBarge (d := d) kd_61 h) kd_61 tw_714 (Nat.le_of_ble_eq_true rfl) dX9_leave_61 (fun M61 h => ?_)
        refine e_iconst (pc := 64) (v := 1) hE ki_1 dX9_leave_64 ?_
        exact hR dX9_leave_65 h
      · have h := h.2 c0
        refine e_bipush (pc := 43) (v := -2) hE kb_m2 dX9_leave_43 ?_
        exact hR dX9_leave_45 h
    · have h := h.2 c0
      refine e_bipush (pc := 30) (v := -4) hE kb_m4 dX9_leave_30 ?_
      exact hR dX9_leave_32 h
  · have h := h.2 c0
    refine e_iconst (pc := 11) (v := -1) hE ki_m1 dX9_leave_11 ?_
    exact hR dX9_leave_12 h
set_option maxHeartbeats 4000000 in
set_option maxRecDepth 20000 in
theorem t_B_undo {l : Launch} {G : Gs} {d : Nat} {a1 : Int32} {M : Mm} {Q : Int32 → Mm → Prop}  (h : wp_B_undo a1 M Q) : CtI l G (d + 2) yX9_undo cX9_undo 3 (some .int) [rv G 0, .int a1] M Q := by
  refine CtI.mk (by decide) rfl (Nat.le_of_ble_eq_true rfl) (fun E hE hR => ?_)
  show E 0 [(0, rv G 0), (1, .int a1)] [] M
  unfold wp_B_undo at h
  refine e_iload_n (pc := 0) hE rfl 1 rfl dX9_undo_0 ?_
  refine e_if_lt (pc := 1) hE 15 dX9_undo_1 (by decide) (fun c0 => ?_) (fun c0 => ?_)
  · have h := h.1 c0
    refine e_iconst (pc := 15) (v := -1) hE ki_m1 dX9_undo_15 ?_
    exact hR dX9_undo_16 h
  · have h := h.2 c0
    refine e_iload_n (pc := 4) hE rfl 1 rfl dX9_undo_4 ?_
    refine e_aload_n (pc := 5) hE rfl 0 rfl dX9_undo_5 ?_
    refine g_RB_story (pc := 6) hE tw_355 dX9_undo_6 ?_
    refine g_Story_deeds (pc := 9) hE (st_kd st60) tw_250 dX9_undo_9 ?_
    refine e_icmp_le (pc := 12) hE 17 dX9_undo_12 (by decide) (fun c0 => ?_) (fun c0 => ?_)
    · have h := h.1 c0
      refine e_aload_n (pc := 17) hE rfl 0 rfl dX9_undo_17 ?_
      refine g_RB_story (pc := 18) hE tw_355 dX9_undo_18 ?_
      refine g_Story_deeds (pc := 21) hE (st_kd st60) tw_250 dX9_undo_21 ?_
      refine e_iload_n (pc := 24) hE rfl 1 rfl dX9_undo_24 ?_
      refine e_isub (pc := 25) hE dX9_undo_25 ?_
      refine e_topi (fun x26 ex26 => ?_)
      have h := h x26 ex26
      refine e_istore_n (pc := 26) (lv' := [(2, .int x26), (0, rv G 0), (1, .int a1)]) hE dX9_undo_26 rfl (by decide) rfl ?_
      refine e_aload_n (pc := 27) hE rfl 1 rfl dX9_undo_27 ?_
      refine g_RB_story (pc := 28) hE tw_355 dX9_undo_28 ?_
      refine e_iload_n (pc := 31) hE rfl 2 rfl dX9_undo_31 ?_
      refine c_St_goBackTo (pc := 32) (d := d + 1) hE (t_St_goBackTo (d := d) st60 h) (st_kd st60) tw_719 (Nat.le_of_ble_eq_true rfl) dX9_undo_32 (fun M32 h => ?_)
      refine e_iload_n (pc := 35) hE rfl 0 rfl dX9_undo_35 ?_
      exact hR dX9_undo_36 h
    · have h := h.2 c0
      refine e_iconst (pc := 15) (v := -1) hE ki_m1 dX9_undo_15 ?_
      exact hR dX9_undo_16 h
set_option maxHeartbeats 4000000 in
set_option maxRecDepth 20000 in
theorem t_B_now {l : Launch} {G : Gs} {d : Nat}  {M : Mm} {Q : Int32 → Mm → Prop}  (h : wp_B_now  M Q) : CtI l G (d + 0) yX9_now cX9_now 1 (some .int) [rv G 0] M Q := by
  refine CtI.mk (by decide) rfl (Nat.le_of_ble_eq_true rfl) (fun E hE hR => ?_)
  show E 0 [(0, rv G 0)] [] M
  unfold wp_B_now at h
  refine e_aload_n (pc := 0) hE rfl 0 rfl dX9_now_0 ?_
  refine g_RB_chart (pc := 1) hE tw_352 dX9_now_1 ?_
  refine g_Chart_arms (pc := 4) hE (ch_kd ch20) tw_158 dX9_now_4 ?_
  refine e_if_ne (pc := 7) hE 13 dX9_now_7 (by decide) (fun c0 => ?_) (fun c0 => ?_)
  · have h := h.1 c0
    refine e_aload_n (pc := 13) hE rfl 0 rfl dX9_now_13 ?_
    refine e_aload_n (pc := 14) hE rfl 0 rfl dX9_now_14 ?_
    refine g_RB_story (pc := 15) hE tw_355 dX9_now_15 ?_
    refine g_Story_present (pc := 18) hE (st_kd st60) tw_247 dX9_now_18 ?_
    refine g_Flow_open (pc := 21) hE kd_61 tw_221 dX9_now_21 ?_
    refine e_topi (fun x24 ex24 => ?_)
    have h := h x24 ex24
    refine p_RB_told (pc := 24) hE tw_363 dX9_now_24 ?_
    refine e_aload_n (pc := 27) hE rfl 0 rfl dX9_now_27 ?_
    refine g_RB_story (pc := 28) hE tw_355 dX9_now_28 ?_
    refine g_Story_present (pc := 31) hE (st_kd st60) tw_247 dX9_now_31 ?_
    refine g_Flow_season (pc := 34) hE kd_61 tw_219 dX9_now_34 ?_
    exact hR dX9_now_37 h
  · have h := h.2 c0
    refine e_bipush (pc := 10) (v := -4) hE kb_m4 dX9_now_10 ?_
    exact hR dX9_now_12 h
set_option maxHeartbeats 4000000 in
set_option maxRecDepth 20000 in
theorem t_B_water {l : Launch} {G : Gs} {d : Nat} {a1 : Int32} {M : Mm} {Q : Int32 → Mm → Prop}  (h : wp_B_water a1 M Q) : CtI l G (d + 2) yX9_water cX9_water 2 (some .int) [rv G 0, .int a1] M Q := by
  refine CtI.mk (by decide) rfl (Nat.le_of_ble_eq_true rfl) (fun E hE hR => ?_)
  show E 0 [(0, rv G 0), (1, .int a1)] [] M
  unfold wp_B_water at h
  refine e_aload_n (pc := 0) hE rfl 0 rfl dX9_water_0 ?_
  refine g_RB_chart (pc := 1) hE tw_352 dX9_water_1 ?_
  refine e_iload_n (pc := 4) hE rfl 1 rfl dX9_water_4 ?_
  refine c_Ch_hasArm (pc := 5) (d := d + 1 + 0) hE (t_Ch_hasArm (d := d + 1) ch20 h) (ch_kd ch20) tw_578 (Nat.le_of_ble_eq_true rfl) dX9_water_5 (fun r5 M5 h => ?_)
  refine e_if_eq (pc := 8) hE 32 dX9_water_8 (by decide) (fun c0 => ?_) (fun c0 => ?_)
  · have h := h.1 c0
    refine e_iconst (pc := 32) (v := -1) hE ki_m1 dX9_water_32 ?_
    exact hR dX9_water_33 h
  · have h := h.2 c0
    refine e_aload_n (pc := 11) hE rfl 0 rfl dX9_water_11 ?_
    refine g_RB_chart (pc := 12) hE tw_352 dX9_water_12 ?_
    refine e_iload_n (pc := 15) hE rfl 1 rfl dX9_water_15 ?_
    refine e_aload_n (pc := 16) hE rfl 0 rfl dX9_water_16 ?_
    refine g_RB_story (pc := 17) hE tw_355 dX9_water_17 ?_
    refine g_Story_present (pc := 20) hE (st_kd st60) tw_247 dX9_water_20 ?_
    refine g_Flow_open (pc := 23) hE kd_61 tw_221 dX9_water_23 ?_
    refine c_Ch_waterOf (pc := 26) (d := d + 1) hE (t_Ch_waterOf (d := d) ch20 h) (ch_kd ch20) tw_616 (Nat.le_of_ble_eq_true rfl) dX9_water_26 (fun r26 M26 h => ?_)
    refine e_goto (pc := 29) hE 33 dX9_water_29 (by decide) ?_
    exact hR dX9_water_33 h
set_option maxHeartbeats 4000000 in
set_option maxRecDepth 20000 in
theorem t_B_keep {l : Launch} {G : Gs} {d : Nat} {a1 : Int32} {M : Mm} {Q : Int32 → Mm → Prop}  (h : wp_B_keep a1 M Q) : CtI l G (d + 2) yX9_keep cX9_keep 2 (some .int) [rv G 0, .int a1] M Q := by
  refine CtI.mk (by decide) rfl (Nat.le_of_ble_eq_true rfl) (fun E hE hR => ?_)
  show E 0 [(0, rv G 0), (1, .int a1)] [] M
  unfold wp_B_keep at h
  refine e_iload_n (pc := 0) hE rfl 1 rfl dX9_keep_0 ?_
  refine e_if_lt (pc := 1) hE 9 dX9_keep_1 (by decide) (fun c0 => ?_) (fun c0 => ?_)
  · have h := h.1 c0
    refine e_iconst (pc := 9) (v := -1) hE ki_m1 dX9_keep_9 ?_
    exact hR dX9_keep_10 h
  · have h := h.2 c0
    refine e_iload_n (pc := 4) hE rfl 1 rfl dX9_keep_4 ?_
    refine e_iconst (pc := 5) (v := 3) hE ki_3 dX9_keep_5 ?_
    refine e_icmp_lt (pc := 6) hE 11 dX9_keep_6 (by decide) (fun c0 => ?_) (fun c0 => ?_)
    · have h := h.1 c0
      refine e_aload_n (pc := 11) hE rfl 0 rfl dX9_keep_11 ?_
      refine g_RB_chart (pc := 12) hE tw_352 dX9_keep_12 ?_
      refine g_Chart_arms (pc := 15) hE (ch_kd ch20) tw_158 dX9_keep_15 ?_
      refine e_if_ne (pc := 18) hE 24 dX9_keep_18 (by decide) (fun c0 => ?_) (fun c0 => ?_)
      · have h := h.1 c0
        refine e_aload_n (pc := 24) hE rfl 0 rfl dX9_keep_24 ?_
        refine g_RB_kept (pc := 25) hE tw_356 dX9_keep_25 ?_
        refine e_iload_n (pc := 28) hE rfl 1 rfl dX9_keep_28 ?_
        have hx29 := kp_of h.1
        refine e_kald (pc := 29) hE ar_2 h.1 dX9_keep_29 ?_
        have h := h.2
        refine g_Kept_story (pc := 30) hE (kp_kd hx29) tw_339 dX9_keep_30 ?_
        refine e_aload_n (pc := 33) hE rfl 0 rfl dX9_keep_33 ?_
        refine g_RB_story (pc := 34) hE tw_355 dX9_keep_34 ?_
        refine c_St_copyFrom (pc := 37) (d := d + 1) hE (t_St_copyFrom (d := d) (stOf_st hx29) st60 h) (st_kd (stOf_st hx29)) tw_735 (Nat.le_of_ble_eq_true rfl) dX9_keep_37 (fun M37 h => ?_)
        refine e_aload_n (pc := 40) hE rfl 0 rfl dX9_keep_40 ?_
        refine g_RB_chart (pc := 41) hE tw_352 dX9_keep_41 ?_
        refine g_Chart_need (pc := 44) hE (ch_kd ch20) tw_140 dX9_keep_44 ?_
        refine e_iconst (pc := 47) (v := 0) hE ki_0 dX9_keep_47 ?_
        refine e_aload_n (pc := 48) hE rfl 0 rfl dX9_keep_48 ?_
        refine g_RB_kept (pc := 49) hE tw_356 dX9_keep_49 ?_
        refine e_iload_n (pc := 52) hE rfl 1 rfl dX9_keep_52 ?_
        have hx53 := kp_of h.1
        refine e_kald (pc := 53) hE ar_2 h.1 dX9_keep_53 ?_
        have h := h.2
        refine g_Kept_needs (pc := 54) hE (kp_kd hx53) tw_341 dX9_keep_54 ?_
        refine e_iconst (pc := 57) (v := 0) hE ki_0 dX9_keep_57 ?_
        refine e_iconst (pc := 58) (v := 5) hE ki_5 dX9_keep_58 ?_
        refine e_acopy (pc := 59) hE (by omega) tw_739 tw_acN tw_acS tw_acI ar_23 (kp_needs hx53) h.1 h.2.1 h.2.2.1 h.2.2.2.1 h.2.2.2.2.1 (Nat.le_of_ble_eq_true rfl) dX9_keep_59 ?_
        have h := h.2.2.2.2.2
        refine e_aload_n (pc := 62) hE rfl 0 rfl dX9_keep_62 ?_
        refine g_RB_kept (pc := 63) hE tw_356 dX9_keep_63 ?_
        refine e_iload_n (pc := 66) hE rfl 1 rfl dX9_keep_66 ?_
        have hx67 := kp_of h.1
        refine e_kald (pc := 67) hE ar_2 h.1 dX9_keep_67 ?_
        have h := h.2
        refine e_iconst (pc := 68) (v := 1) hE ki_1 dX9_keep_68 ?_
        refine p_Kept_there (pc := 69) hE (kp_kd hx67) (Or.inr rfl) tw_342 dX9_keep_69 ?_
        refine e_aload_n (pc := 72) hE rfl 0 rfl dX9_keep_72 ?_
        refine g_RB_story (pc := 73) hE tw_355 dX9_keep_73 ?_
        refine g_Story_deeds (pc := 76) hE (st_kd st60) tw_250 dX9_keep_76 ?_
        exact hR dX9_keep_79 h
      · have h := h.2 c0
        refine e_bipush (pc := 21) (v := -4) hE kb_m4 dX9_keep_21 ?_
        exact hR dX9_keep_23 h
    · have h := h.2 c0
      refine e_iconst (pc := 9) (v := -1) hE ki_m1 dX9_keep_9 ?_
      exact hR dX9_keep_10 h
set_option maxHeartbeats 4000000 in
set_option maxRecDepth 20000 in
theorem t_B_on {l : Launch} {G : Gs} {d : Nat} {a1 : Int32} {M : Mm} {Q : Int32 → Mm → Prop}  (h : wp_B_on a1 M Q) : CtI l G (d + 2) yX9_on cX9_on 2 (some .int) [rv G 0, .int a1] M Q := by
  refine CtI.mk (by decide) rfl (Nat.le_of_ble_eq_true rfl) (fun E hE hR => ?_)
  show E 0 [(0, rv G 0), (1, .int a1)] [] M
  unfold wp_B_on at h
  refine e_iload_n (pc := 0) hE rfl 1 rfl dX9_on_0 ?_
  refine e_if_lt (pc := 1) hE 9 dX9_on_1 (by decide) (fun c0 => ?_) (fun c0 => ?_)
  · have h := h.1 c0
    refine e_iconst (pc := 9) (v := -1) hE ki_m1 dX9_on_9 ?_
    exact hR dX9_on_10 h
  · have h := h.2 c0
    refine e_iload_n (pc := 4) hE rfl 1 rfl dX9_on_4 ?_
    refine e_iconst (pc := 5) (v := 3) hE ki_3 dX9_on_5 ?_
    refine e_icmp_lt (pc := 6) hE 11 dX9_on_6 (by decide) (fun c0 => ?_) (fun c0 => ?_)
    · have h := h.1 c0
      refine e_aload_n (pc := 11) hE rfl 0 rfl dX9_on_11 ?_
      refine g_RB_kept (pc := 12) hE tw_356 dX9_on_12 ?_
      refine e_iload_n (pc := 15) hE rfl 1 rfl dX9_on_15 ?_
      have hx16 := kp_of h.1
      refine e_kald (pc := 16) hE ar_2 h.1 dX9_on_16 ?_
      have h := h.2
      refine g_Kept_there (pc := 17) hE (kp_kd hx16) tw_342 dX9_on_17 ?_
      refine e_if_ne (pc := 20) hE 29 dX9_on_20 (by decide) (fun c0 => ?_) (fun c0 => ?_)
      · have h := h.1 c0
        refine e_aload_n (pc := 29) hE rfl 0 rfl dX9_on_29 ?_
        refine g_RB_story (pc := 30) hE tw_355 dX9_on_30 ?_
        refine e_aload_n (pc := 33) hE rfl 0 rfl dX9_on_33 ?_
        refine g_RB_kept (pc := 34) hE tw_356 dX9_on_34 ?_
        refine e_iload_n (pc := 37) hE rfl 1 rfl dX9_on_37 ?_
        have hx38 := kp_of h.1
        refine e_kald (pc := 38) hE ar_2 h.1 dX9_on_38 ?_
        have h := h.2
        refine g_Kept_story (pc := 39) hE (kp_kd hx38) tw_339 dX9_on_39 ?_
        refine c_St_copyFrom (pc := 42) (d := d + 1) hE (t_St_copyFrom (d := d) st60 (stOf_st hx38) h) (st_kd st60) tw_735 (Nat.le_of_ble_eq_true rfl) dX9_on_42 (fun M42 h => ?_)
        refine e_aload_n (pc := 45) hE rfl 0 rfl dX9_on_45 ?_
        refine g_RB_kept (pc := 46) hE tw_356 dX9_on_46 ?_
        refine e_iload_n (pc := 49) hE rfl 1 rfl dX9_on_49 ?_
        have hx50 := kp_of h.1
        refine e_kald (pc := 50) hE ar_2 h.1 dX9_on_50 ?_
        have h := h.2
        refine g_Kept_needs (pc := 51) hE (kp_kd hx50) tw_341 dX9_on_51 ?_
        refine e_iconst (pc := 54) (v := 0) hE ki_0 dX9_on_54 ?_
        refine e_aload_n (pc := 55) hE rfl 0 rfl dX9_on_55 ?_
        refine g_RB_chart (pc := 56) hE tw_352 dX9_on_56 ?_
        refine g_Chart_need (pc := 59) hE (ch_kd ch20) tw_140 dX9_on_59 ?_
        refine e_iconst (pc := 62) (v := 0) hE ki_0 dX9_on_62 ?_
        refine e_iconst (pc := 63) (v := 5) hE ki_5 dX9_on_63 ?_
        refine e_acopy (pc := 64) hE (by omega) tw_739 tw_acN tw_acS tw_acI (kp_needs hx50) ar_23 h.1 h.2.1 h.2.2.1 h.2.2.2.1 h.2.2.2.2.1 (Nat.le_of_ble_eq_true rfl) dX9_on_64 ?_
        have h := h.2.2.2.2.2
        refine e_aload_n (pc := 67) hE rfl 0 rfl dX9_on_67 ?_
        refine g_RB_chart (pc := 68) hE tw_352 dX9_on_68 ?_
        refine c_Ch_forgetServed (pc := 71) (d := d + 1) hE (t_Ch_forgetServed (d := d) ch20 h) (ch_kd ch20) tw_636 (Nat.le_of_ble_eq_true rfl) dX9_on_71 (fun M71 h => ?_)
        refine e_aload_n (pc := 74) hE rfl 0 rfl dX9_on_74 ?_
        refine g_RB_story (pc := 75) hE tw_355 dX9_on_75 ?_
        refine g_Story_deeds (pc := 78) hE (st_kd st60) tw_250 dX9_on_78 ?_
        exact hR dX9_on_81 h
      · have h := h.2 c0
        refine e_aload_n (pc := 23) hE rfl 0 rfl dX9_on_23 ?_
        refine e_iconst (pc := 24) (v := 1) hE ki_1 dX9_on_24 ?_
        refine c_B_answerFinding (pc := 25) (d := d + 1 + 0) hE (t_B_answerFinding (d := d + 1)  h) tw_411 (Nat.le_of_ble_eq_true rfl) dX9_on_25 (fun r25 M25 h => ?_)
        exact hR dX9_on_28 h
    · have h := h.2 c0
      refine e_iconst (pc := 9) (v := -1) hE ki_m1 dX9_on_9 ?_
      exact hR dX9_on_10 h
set_option maxHeartbeats 4000000 in
set_option maxRecDepth 20000 in
theorem t_B_deltaRowRefusal {l : Launch} {G : Gs} {d : Nat} {a1 : Int32} {M : Mm} {Q : Int32 → Mm → Prop}  (h : wp_B_deltaRowRefusal a1 M Q) : CtI l G (d + 3) yX9_deltaRowRefusal cX9_deltaRowRefusal 2 (some .int) [rv G 0, .int a1] M Q := by
  refine CtI.mk (by decide) rfl (Nat.le_of_ble_eq_true rfl) (fun E hE hR => ?_)
  show E 0 [(0, rv G 0), (1, .int a1)] [] M
  unfold wp_B_deltaRowRefusal at h
  refine e_aload_n (pc := 0) hE rfl 0 rfl dX9_deltaRowRefusal_0 ?_
  refine g_RB_rows (pc := 1) hE tw_350 dX9_deltaRowRefusal_1 ?_
  refine e_iload_n (pc := 4) hE rfl 1 rfl dX9_deltaRowRefusal_4 ?_
  refine c_Sh_knows (pc := 5) (d := d + 2 + 0) hE (t_Sh_knows (d := d + 2) sh4 h) (sh_kd sh4) tw_407 (Nat.le_of_ble_eq_true rfl) dX9_deltaRowRefusal_5 (fun r5 M5 h => ?_)
  refine e_if_ne (pc := 8) hE 13 dX9_deltaRowRefusal_8 (by decide) (fun c0 => ?_) (fun c0 => ?_)
  · have h := h.1 c0
    refine e_aload_n (pc := 13) hE rfl 0 rfl dX9_deltaRowRefusal_13 ?_
    refine g_RB_chart (pc := 14) hE tw_352 dX9_deltaRowRefusal_14 ?_
    refine g_Chart_arms (pc := 17) hE (ch_kd ch20) tw_158 dX9_deltaRowRefusal_17 ?_
    refine e_if_ne (pc := 20) hE 28 dX9_deltaRowRefusal_20 (by decide) (fun c0 => ?_) (fun c0 => ?_)
    · have h := h.1 c0
      refine e_aload_n (pc := 28) hE rfl 0 rfl dX9_deltaRowRefusal_28 ?_
      refine e_aload_n (pc := 29) hE rfl 0 rfl dX9_deltaRowRefusal_29 ?_
      refine g_RB_rows (pc := 30) hE tw_350 dX9_deltaRowRefusal_30 ?_
      refine e_iload_n (pc := 33) hE rfl 1 rfl dX9_deltaRowRefusal_33 ?_
      refine c_B_shelfRefusal (pc := 34) (d := d + 2) hE (t_B_shelfRefusal (d := d) sh4 h) tw_428 (Nat.le_of_ble_eq_true rfl) dX9_deltaRowRefusal_34 (fun r34 M34 h => ?_)
      exact hR dX9_deltaRowRefusal_37 h
    · have h := h.2 c0
      refine e_bipush (pc := 23) (v := -4) hE kb_m4 dX9_deltaRowRefusal_23 ?_
      refine e_goto (pc := 25) hE 37 dX9_deltaRowRefusal_25 (by decide) ?_
      exact hR dX9_deltaRowRefusal_37 h
  · have h := h.2 c0
    refine e_iconst (pc := 11) (v := -1) hE ki_m1 dX9_deltaRowRefusal_11 ?_
    exact hR dX9_deltaRowRefusal_12 h
set_option maxHeartbeats 4000000 in
set_option maxRecDepth 20000 in
theorem w_B_isPlan_2 {l : Launch} {G : Gs} {d : Nat} {E : EE} {a1 : Int32} {Q : Int32 → Mm → Prop} (hE : Mach l G RX9 cX9_isPlan 4 (d + 3) E) (hR : RtZ cX9_isPlan E Q)   {KB : Int32 → Mm → Prop} {v2 : Int32} {M : Mm} (h : k_B_isPlan_2 a1 Q KB v2 M) (hKB : ∀ (v2 : Int32)  (M : Mm), KB v2 M → E 2 [(0, rv G 0), (1, .int a1), (2, .int v2)] [] M) : E 2 [(0, rv G 0), (1, .int a1), (2, .int v2)] [] M := by
  unfold k_B_isPlan_2 at h
  refine e_iload_n (pc := 2) hE rfl 2 rfl dX9_isPlan_2 ?_
  refine e_aload_n (pc := 3) hE rfl 0 rfl dX9_isPlan_3 ?_
  refine g_RB_rows (pc := 4) hE tw_350 dX9_isPlan_4 ?_
  refine e_iload_n (pc := 7) hE rfl 1 rfl dX9_isPlan_7 ?_
  refine c_Sh_sizeOf (pc := 8) (d := d + 1 + 1) hE (t_Sh_sizeOf (d := d + 1) sh4 h) (sh_kd sh4) tw_476 (Nat.le_of_ble_eq_true rfl) dX9_isPlan_8 (fun r8 M8 h => ?_)
  refine e_icmp_ge (pc := 11) hE 47 dX9_isPlan_11 (by decide) (fun c0 => ?_) (fun c0 => ?_)
  · have h := h.1 c0
    refine e_iconst (pc := 47) (v := 1) hE ki_1 dX9_isPlan_47 ?_
    exact hR dX9_isPlan_48 (Or.inr rfl) h
  · have h := h.2 c0
    refine e_aload_n (pc := 14) hE rfl 0 rfl dX9_isPlan_14 ?_
    refine g_RB_rows (pc := 15) hE tw_350 dX9_isPlan_15 ?_
    refine e_iload_n (pc := 18) hE rfl 1 rfl dX9_isPlan_18 ?_
    refine e_iload_n (pc := 19) hE rfl 2 rfl dX9_isPlan_19 ?_
    refine c_Sh_valueAt (pc := 20) (d := d + 2) hE (t_Sh_valueAt (d := d) sh4 h) (sh_kd sh4) tw_440 (Nat.le_of_ble_eq_true rfl) dX9_isPlan_20 (fun r20 M20 h => ?_)
    refine e_istore_n (pc := 23) (lv' := [(3, .int r20), (0, rv G 0), (1, .int a1), (2, .int v2)]) hE dX9_isPlan_23 rfl (by decide) rfl ?_
    refine e_iload_n (pc := 24) hE rfl 0 rfl dX9_isPlan_24 ?_
    refine e_if_lt (pc := 25) hE 39 dX9_isPlan_25 (by decide) (fun c0 => ?_) (fun c0 => ?_)
    · have h := h.1 c0
      refine e_iconst (pc := 39) (v := 0) hE ki_0 dX9_isPlan_39 ?_
      exact hR dX9_isPlan_40 (Or.inl rfl) h
    · have h := h.2 c0
      refine e_iload_n (pc := 28) hE rfl 0 rfl dX9_isPlan_28 ?_
      refine e_aload_n (pc := 29) hE rfl 1 rfl dX9_isPlan_29 ?_
      refine g_RB_chart (pc := 30) hE tw_352 dX9_isPlan_30 ?_
      refine c_Ch_sets (pc := 33) (d := d + 2 + 0) hE (t_Ch_sets (d := d + 2) ch20 h) (ch_kd ch20) tw_756 (Nat.le_of_ble_eq_true rfl) dX9_isPlan_33 (fun r33 M33 h => ?_)
      refine e_icmp_lt (pc := 36) hE 41 dX9_isPlan_36 (by decide) (fun c0 => ?_) (fun c0 => ?_)
      · have h := h.1 c0
        obtain ⟨x41, ex41⟩ : ∃ y : Int32, y = v2 + (1 : Int32) := ⟨_, rfl⟩
        have h := h x41 ex41
        refine e_iinc (pc := 41) (k := 3) (v := x41) (lv' := [(2, .int x41), (3, .int r20), (0, rv G 0), (1, .int a1)]) hE dX9_isPlan_41 rfl (by rw [ex41, ki_1]) (by decide) rfl ?_
        refine e_goto (pc := 44) hE 2 dX9_isPlan_44 (by decide) ?_
        refine e_sub hE [2, 3, 0] rfl ?_
        exact hKB _ _ h
      · have h := h.2 c0
        refine e_iconst (pc := 39) (v := 0) hE ki_0 dX9_isPlan_39 ?_
        exact hR dX9_isPlan_40 (Or.inl rfl) h
set_option maxHeartbeats 4000000 in
set_option maxRecDepth 20000 in
theorem w_lp_B_isPlan_2 {l : Launch} {G : Gs} {d : Nat} {E : EE} {a1 : Int32} {Q : Int32 → Mm → Prop} (hE : Mach l G RX9 cX9_isPlan 4 (d + 3) E) (hR : RtZ cX9_isPlan E Q)    {n : Nat} {v2 : Int32} {M : Mm} (h : lp_B_isPlan_2 a1 Q n v2 M)  : E 2 [(0, rv G 0), (1, .int a1), (2, .int v2)] [] M := by
  have key : ∀ (n : Nat) (v2 : Int32) (M : Mm), lp_B_isPlan_2 a1 Q n v2 M → E 2 [(0, rv G 0), (1, .int a1), (2, .int v2)] [] M := by
    intro n
    induction n with
    | zero => intro v2 M h; exact h.elim
    | succ n ih => intro v2 M h; exact w_B_isPlan_2 hE hR  (show k_B_isPlan_2 a1 Q (lp_B_isPlan_2 a1 Q n)  v2 M from h) ih 
  exact key n _ _ h
set_option maxHeartbeats 4000000 in
set_option maxRecDepth 20000 in
theorem t_B_isPlan {l : Launch} {G : Gs} {d : Nat} {a1 : Int32} {M : Mm} {Q : Int32 → Mm → Prop}  (h : wp_B_isPlan a1 M Q) : CtI l G (d + 3) yX9_isPlan cX9_isPlan 4 (some .boolean) [rv G 0, .int a1] M Q := by
  refine CtI.mkZ (by decide) rfl (Nat.le_of_ble_eq_true rfl) (fun E hE hR => ?_)
  show E 0 [(0, rv G 0), (1, .int a1)] [] M
  unfold wp_B_isPlan at h
  refine e_iconst (pc := 0) (v := 0) hE ki_0 dX9_isPlan_0 ?_
  refine e_istore_n (pc := 1) (lv' := [(2, .int (0 : Int32)), (0, rv G 0), (1, .int a1)]) hE dX9_isPlan_1 rfl (by decide) rfl ?_
  obtain ⟨n, h⟩ := h
  refine e_sub hE [1, 2, 0] rfl ?_
  refine w_lp_B_isPlan_2 hE hR  h 
set_option maxHeartbeats 4000000 in
set_option maxRecDepth 20000 in
theorem w_B_run_67 {l : Launch} {G : Gs} {d : Nat} {E : EE} {a1 : Int32} {Q : Int32 → Mm → Prop} (hE : Mach l G RX9 cX9_run 6 (d + 5) E) (hR : RtI cX9_run E Q)   {KB : Int32 → Int32 → Int32 → Mm → Prop} {v3 : Int32} {v4 : Int32} {v5 : Int32} {M : Mm} (h : k_B_run_67 a1 Q KB v3 v4 v5 M) (hKB : ∀ (v3 : Int32) (v4 : Int32) (v5 : Int32)  (M : Mm), KB v3 v4 v5 M → E 67 [(0, rv G 0), (1, .int a1), (3, .int v3), (4, .int v4), (5, .int v5)] [] M) : E 67 [(0, rv G 0), (1, .int a1), (3, .int v3), (4, .int v4), (5, .int v5)] [] M := by
  unfold k_B_run_67 at h
  refine e_iload (pc := 67) hE 4 rfl dX9_run_67 ?_
  refine e_aload_n (pc := 69) hE rfl 0 rfl dX9_run_69 ?_
  refine g_RB_rows (pc := 70) hE tw_350 dX9_run_70 ?_
  refine e_iload_n (pc := 73) hE rfl 1 rfl dX9_run_73 ?_
  refine c_Sh_sizeOf (pc := 74) (d := d + 3 + 1) hE (t_Sh_sizeOf (d := d + 3) sh4 h) (sh_kd sh4) tw_476 (Nat.le_of_ble_eq_true rfl) dX9_run_74 (fun r74 M74 h => ?_)
  refine e_icmp_ge (pc := 77) hE 132 dX9_run_77 (by decide) (fun c0 => ?_) (fun c0 => ?_)
  · have h := h.1 c0
    refine e_aload_n (pc := 132) hE rfl 0 rfl dX9_run_132 ?_
    refine e_iload (pc := 133) hE 3 rfl dX9_run_133 ?_
    refine p_RB_told (pc := 135) hE tw_363 dX9_run_135 ?_
    refine e_iload_n (pc := 138) hE rfl 2 rfl dX9_run_138 ?_
    exact hR dX9_run_139 h
  · have h := h.2 c0
    refine e_iload (pc := 80) hE 3 rfl dX9_run_80 ?_
    refine e_aload_n (pc := 82) hE rfl 0 rfl dX9_run_82 ?_
    refine g_RB_aside (pc := 83) hE tw_357 dX9_run_83 ?_
    refine e_aload_n (pc := 86) hE rfl 0 rfl dX9_run_86 ?_
    refine g_RB_chart (pc := 87) hE tw_352 dX9_run_87 ?_
    refine e_aload_n (pc := 90) hE rfl 0 rfl dX9_run_90 ?_
    refine g_RB_rows (pc := 91) hE tw_350 dX9_run_91 ?_
    refine e_iload_n (pc := 94) hE rfl 1 rfl dX9_run_94 ?_
    refine e_iload (pc := 95) hE 4 rfl dX9_run_95 ?_
    refine c_Sh_valueAt (pc := 97) (d := d + 2 + 2) hE (t_Sh_valueAt (d := d + 2) sh4 h) (sh_kd sh4) tw_440 (Nat.le_of_ble_eq_true rfl) dX9_run_97 (fun r97 M97 h => ?_)
    refine c_Fl_stampSet (pc := 100) (d := d + 1 + 3) hE (t_Fl_stampSet (d := d + 1) kd_3 ch20 h) kd_3 tw_761 (Nat.le_of_ble_eq_true rfl) dX9_run_100 (fun r100 M100 h => ?_)
    refine c_J_bitCount (pc := 103) (d := d + 4 + 0) hE (t_J_bitCount (d := d + 4)  h) tw_708 (Nat.le_of_ble_eq_true rfl) dX9_run_103 (fun r103 M103 h => ?_)
    refine e_iadd (pc := 106) hE dX9_run_106 ?_
    refine e_topi (fun x107 ex107 => ?_)
    have h := h x107 ex107
    refine e_istore (pc := 107) (lv' := [(4, .int x107), (0, rv G 0), (1, .int a1), (3, .int v3), (5, .int v5)]) hE dX9_run_107 (by decide) rfl ?_
    refine e_iload_n (pc := 109) hE rfl 3 rfl dX9_run_109 ?_
    refine e_aload_n (pc := 110) hE rfl 1 rfl dX9_run_110 ?_
    refine g_RB_aside (pc := 111) hE tw_357 dX9_run_111 ?_
    refine e_aload_n (pc := 114) hE rfl 1 rfl dX9_run_114 ?_
    refine g_RB_chart (pc := 115) hE tw_352 dX9_run_115 ?_
    refine c_Fl_goBy (pc := 118) (d := d + 4) hE (t_Fl_goBy (d := d) kd_3 ch20 h) kd_3 tw_679 (Nat.le_of_ble_eq_true rfl) dX9_run_118 (fun r118 M118 h => ?_)
    refine c_J_bitCount (pc := 121) (d := d + 4 + 0) hE (t_J_bitCount (d := d + 4)  h) tw_708 (Nat.le_of_ble_eq_true rfl) dX9_run_121 (fun r121 M121 h => ?_)
    refine e_iadd (pc := 124) hE dX9_run_124 ?_
    refine e_topi (fun x125 ex125 => ?_)
    have h := h x125 ex125
    refine e_istore_n (pc := 125) (lv' := [(3, .int x125), (4, .int x107), (0, rv G 0), (1, .int a1), (5, .int v5)]) hE dX9_run_125 rfl (by decide) rfl ?_
    obtain ⟨x126, ex126⟩ : ∃ y : Int32, y = v5 + (1 : Int32) := ⟨_, rfl⟩
    have h := h x126 ex126
    refine e_iinc (pc := 126) (k := 4) (v := x126) (lv' := [(5, .int x126), (3, .int x125), (4, .int x107), (0, rv G 0), (1, .int a1)]) hE dX9_run_126 rfl (by rw [ex126, ki_1]) (by decide) rfl ?_
    refine e_goto (pc := 129) hE 67 dX9_run_129 (by decide) ?_
    refine e_sub hE [3, 4, 1, 2, 0] rfl ?_
    exact hKB _ _ _ _ h
set_option maxHeartbeats 4000000 in
set_option maxRecDepth 20000 in
theorem w_lp_B_run_67 {l : Launch} {G : Gs} {d : Nat} {E : EE} {a1 : Int32} {Q : Int32 → Mm → Prop} (hE : Mach l G RX9 cX9_run 6 (d + 5) E) (hR : RtI cX9_run E Q)    {n : Nat} {v3 : Int32} {v4 : Int32} {v5 : Int32} {M : Mm} (h : lp_B_run_67 a1 Q n v3 v4 v5 M)  : E 67 [(0, rv G 0), (1, .int a1), (3, .int v3), (4, .int v4), (5, .int v5)] [] M := by
  have key : ∀ (n : Nat) (v3 : Int32) (v4 : Int32) (v5 : Int32) (M : Mm), lp_B_run_67 a1 Q n v3 v4 v5 M → E 67 [(0, rv G 0), (1, .int a1), (3, .int v3), (4, .int v4), (5, .int v5)] [] M := by
    intro n
    induction n with
    | zero => intro v3 v4 v5 M h; exact h.elim
    | succ n ih => intro v3 v4 v5 M h; exact w_B_run_67 hE hR  (show k_B_run_67 a1 Q (lp_B_run_67 a1 Q n)  v3 v4 v5 M from h) ih 
  exact key n _ _ _ _ h
set_option maxHeartbeats 4000000 in
set_option maxRecDepth 20000 in
theorem t_B_run {l : Launch} {G : Gs} {d : Nat} {a1 : Int32} {M : Mm} {Q : Int32 → Mm → Prop}  (h : wp_B_run a1 M Q) : CtI l G (d + 5) yX9_run cX9_run 6 (some .int) [rv G 0, .int a1] M Q := by
  refine CtI.mk (by decide) rfl (Nat.le_of_ble_eq_true rfl) (fun E hE hR => ?_)
  show E 0 [(0, rv G 0), (1, .int a1)] [] M
  unfold wp_B_run at h
  refine e_aload_n (pc := 0) hE rfl 0 rfl dX9_run_0 ?_
  refine e_iload_n (pc := 1) hE rfl 1 rfl dX9_run_1 ?_
  refine c_B_deltaRowRefusal (pc := 2) (d := d + 1 + 3) hE (t_B_deltaRowRefusal (d := d + 1)  h) tw_748 (Nat.le_of_ble_eq_true rfl) dX9_run_2 (fun r2 M2 h => ?_)
  refine e_istore_n (pc := 5) (lv' := [(2, .int r2), (0, rv G 0), (1, .int a1)]) hE dX9_run_5 rfl (by decide) rfl ?_
  refine e_iload_n (pc := 6) hE rfl 0 rfl dX9_run_6 ?_
  refine e_if_eq (pc := 7) hE 12 dX9_run_7 (by decide) (fun c0 => ?_) (fun c0 => ?_)
  · have h := h.1 c0
    refine e_aload_n (pc := 12) hE rfl 1 rfl dX9_run_12 ?_
    refine g_RB_rows (pc := 13) hE tw_350 dX9_run_13 ?_
    refine e_iload_n (pc := 16) hE rfl 2 rfl dX9_run_16 ?_
    refine c_Sh_sizeOf (pc := 17) (d := d + 3 + 1) hE (t_Sh_sizeOf (d := d + 3) sh4 h) (sh_kd sh4) tw_476 (Nat.le_of_ble_eq_true rfl) dX9_run_17 (fun r17 M17 h => ?_)
    refine e_bipush (pc := 20) (v := 12) hE kb_12 dX9_run_20 ?_
    refine e_icmp_le (pc := 22) hE 31 dX9_run_22 (by decide) (fun c0 => ?_) (fun c0 => ?_)
    · have h := h.1 c0
      refine e_aload_n (pc := 31) hE rfl 1 rfl dX9_run_31 ?_
      refine e_iload_n (pc := 32) hE rfl 2 rfl dX9_run_32 ?_
      refine c_B_isPlan (pc := 33) (d := d + 1 + 3) hE (t_B_isPlan (d := d + 1)  h) tw_752 (Nat.le_of_ble_eq_true rfl) dX9_run_33 (fun r33 M33 h => ?_)
      refine e_if_ne (pc := 36) hE 45 dX9_run_36 (by decide) (fun c0 => ?_) (fun c0 => ?_)
      · have h := h.1 c0
        refine e_aload_n (pc := 45) hE rfl 1 rfl dX9_run_45 ?_
        refine g_RB_aside (pc := 46) hE tw_357 dX9_run_46 ?_
        refine e_aload_n (pc := 49) hE rfl 1 rfl dX9_run_49 ?_
        refine g_RB_story (pc := 50) hE tw_355 dX9_run_50 ?_
        refine g_Story_present (pc := 53) hE (st_kd st60) tw_247 dX9_run_53 ?_
        refine c_Fl_copyFrom (pc := 56) (d := d + 4 + 0) hE (t_Fl_copyFrom (d := d + 4) kd_3 kd_61 h) kd_3 tw_760 (Nat.le_of_ble_eq_true rfl) dX9_run_56 (fun M56 h => ?_)
        refine e_iconst (pc := 59) (v := 0) hE ki_0 dX9_run_59 ?_
        refine e_istore_n (pc := 60) (lv' := [(3, .int (0 : Int32)), (2, .int r2), (0, rv G 0), (1, .int a1)]) hE dX9_run_60 rfl (by decide) rfl ?_
        refine e_iconst (pc := 61) (v := 0) hE ki_0 dX9_run_61 ?_
        refine e_istore (pc := 62) (lv' := [(4, .int (0 : Int32)), (3, .int (0 : Int32)), (2, .int r2), (0, rv G 0), (1, .int a1)]) hE dX9_run_62 (by decide) rfl ?_
        refine e_iconst (pc := 64) (v := 0) hE ki_0 dX9_run_64 ?_
        refine e_istore (pc := 65) (lv' := [(5, .int (0 : Int32)), (4, .int (0 : Int32)), (3, .int (0 : Int32)), (2, .int r2), (0, rv G 0), (1, .int a1)]) hE dX9_run_65 (by decide) rfl ?_
        obtain ⟨n, h⟩ := h
        refine e_sub hE [4, 5, 2, 1, 0] rfl ?_
        refine w_lp_B_run_67 hE hR  h 
      · have h := h.2 c0
        refine e_aload_n (pc := 39) hE rfl 1 rfl dX9_run_39 ?_
        refine e_iconst (pc := 40) (v := 3) hE ki_3 dX9_run_40 ?_
        refine c_B_answerFinding (pc := 41) (d := d + 4 + 0) hE (t_B_answerFinding (d := d + 4)  h) tw_411 (Nat.le_of_ble_eq_true rfl) dX9_run_41 (fun r41 M41 h => ?_)
        exact hR dX9_run_44 h
    · have h := h.2 c0
      refine e_aload_n (pc := 25) hE rfl 1 rfl dX9_run_25 ?_
      refine e_iconst (pc := 26) (v := 5) hE ki_5 dX9_run_26 ?_
      refine c_B_answerFinding (pc := 27) (d := d + 4 + 0) hE (t_B_answerFinding (d := d + 4)  h) tw_411 (Nat.le_of_ble_eq_true rfl) dX9_run_27 (fun r27 M27 h => ?_)
      exact hR dX9_run_30 h
  · have h := h.2 c0
    refine e_iload_n (pc := 10) hE rfl 0 rfl dX9_run_10 ?_
    exact hR dX9_run_11 h
set_option maxHeartbeats 4000000 in
set_option maxRecDepth 20000 in
theorem w_B_takePlan_12 {l : Launch} {G : Gs} {d : Nat} {E : EE} {a1 : Int32} {a2 : Int32} {Q : Mm → Prop} (hE : Mach l G RX9 cX9_takePlan 4 (d + 3) E) (hR : RtV cX9_takePlan E Q)   {KB : Int32 → Mm → Prop} {v3 : Int32} {M : Mm} (h : k_B_takePlan_12 a1 a2 Q KB v3 M) (hKB : ∀ (v3 : Int32)  (M : Mm), KB v3 M → E 12 [(0, rv G 0), (1, .int a1), (2, .int a2), (3, .int v3)] [] M) : E 12 [(0, rv G 0), (1, .int a1), (2, .int a2), (3, .int v3)] [] M := by
  unfold k_B_takePlan_12 at h
  refine e_iload_n (pc := 12) hE rfl 3 rfl dX9_takePlan_12 ?_
  refine e_iload_n (pc := 13) hE rfl 1 rfl dX9_takePlan_13 ?_
  refine e_icmp_ge (pc := 14) hE 41 dX9_takePlan_14 (by decide) (fun c0 => ?_) (fun c0 => ?_)
  · have h := h.1 c0
    exact hR dX9_takePlan_41 h
  · have h := h.2 c0
    refine e_aload_n (pc := 17) hE rfl 0 rfl dX9_takePlan_17 ?_
    refine g_RB_rows (pc := 18) hE tw_350 dX9_takePlan_18 ?_
    refine e_iload_n (pc := 21) hE rfl 2 rfl dX9_takePlan_21 ?_
    refine e_iload_n (pc := 22) hE rfl 3 rfl dX9_takePlan_22 ?_
    refine e_aload_n (pc := 23) hE rfl 0 rfl dX9_takePlan_23 ?_
    refine g_RB_planner (pc := 24) hE tw_358 dX9_takePlan_24 ?_
    refine g_Planner_bestPlan (pc := 27) hE tw_271 dX9_takePlan_27 ?_
    refine e_iload_n (pc := 30) hE rfl 3 rfl dX9_takePlan_30 ?_
    refine e_iald (pc := 31) hE ar_41 h.1 dX9_takePlan_31 ?_
    have h := h.2
    refine c_Sh_setValue (pc := 32) (d := d + 2) hE (t_Sh_setValue (d := d) sh4 h) (sh_kd sh4) tw_445 (Nat.le_of_ble_eq_true rfl) dX9_takePlan_32 (fun M32 h => ?_)
    obtain ⟨x35, ex35⟩ : ∃ y : Int32, y = v3 + (1 : Int32) := ⟨_, rfl⟩
    have h := h x35 ex35
    refine e_iinc (pc := 35) (k := 3) (v := x35) (lv' := [(3, .int x35), (0, rv G 0), (1, .int a1), (2, .int a2)]) hE dX9_takePlan_35 rfl (by rw [ex35, ki_1]) (by decide) rfl ?_
    refine e_goto (pc := 38) hE 12 dX9_takePlan_38 (by decide) ?_
    refine e_sub hE [1, 2, 3, 0] rfl ?_
    exact hKB _ _ h
set_option maxHeartbeats 4000000 in
set_option maxRecDepth 20000 in
theorem w_lp_B_takePlan_12 {l : Launch} {G : Gs} {d : Nat} {E : EE} {a1 : Int32} {a2 : Int32} {Q : Mm → Prop} (hE : Mach l G RX9 cX9_takePlan 4 (d + 3) E) (hR : RtV cX9_takePlan E Q)    {n : Nat} {v3 : Int32} {M : Mm} (h : lp_B_takePlan_12 a1 a2 Q n v3 M)  : E 12 [(0, rv G 0), (1, .int a1), (2, .int a2), (3, .int v3)] [] M := by
  have key : ∀ (n : Nat) (v3 : Int32) (M : Mm), lp_B_takePlan_12 a1 a2 Q n v3 M → E 12 [(0, rv G 0), (1, .int a1), (2, .int a2), (3, .int v3)] [] M := by
    intro n
    induction n with
    | zero => intro v3 M h; exact h.elim
    | succ n ih => intro v3 M h; exact w_B_takePlan_12 hE hR  (show k_B_takePlan_12 a1 a2 Q (lp_B_takePlan_12 a1 a2 Q n)  v3 M from h) ih 
  exact key n _ _ h
set_option maxHeartbeats 4000000 in
set_option maxRecDepth 20000 in
theorem t_B_takePlan {l : Launch} {G : Gs} {d : Nat} {a1 : Int32} {a2 : Int32} {M : Mm} {Q : Mm → Prop}  (h : wp_B_takePlan a1 a2 M Q) : CtV l G (d + 3) yX9_takePlan cX9_takePlan 4 (none) [rv G 0, .int a1, .int a2] M Q := by
  refine CtV.mk (by decide) rfl (Nat.le_of_ble_eq_true rfl) (fun E hE hR => ?_)
  show E 0 [(0, rv G 0), (1, .int a1), (2, .int a2)] [] M
  unfold wp_B_takePlan at h
  refine e_aload_n (pc := 0) hE rfl 0 rfl dX9_takePlan_0 ?_
  refine g_RB_rows (pc := 1) hE tw_350 dX9_takePlan_1 ?_
  refine e_iload_n (pc := 4) hE rfl 2 rfl dX9_takePlan_4 ?_
  refine e_iload_n (pc := 5) hE rfl 1 rfl dX9_takePlan_5 ?_
  refine e_iconst (pc := 6) (v := 0) hE ki_0 dX9_takePlan_6 ?_
  refine c_Sh_make (pc := 7) (d := d + 1 + 1) hE (t_Sh_make (d := d + 1) sh4 h) (sh_kd sh4) tw_415 (Nat.le_of_ble_eq_true rfl) dX9_takePlan_7 (fun M7 h => ?_)
  refine e_iconst (pc := 10) (v := 0) hE ki_0 dX9_takePlan_10 ?_
  refine e_istore_n (pc := 11) (lv' := [(3, .int (0 : Int32)), (0, rv G 0), (1, .int a1), (2, .int a2)]) hE dX9_takePlan_11 rfl (by decide) rfl ?_
  obtain ⟨n, h⟩ := h
  refine e_sub hE [1, 2, 3, 0] rfl ?_
  refine w_lp_B_takePlan_12 hE hR  h 
set_option maxHeartbeats 4000000 in
set_option maxRecDepth 20000 in
theorem t_B_best {l : Launch} {G : Gs} {d : Nat} {a1 : Int32} {a2 : Int32} {M : Mm} {Q : Int32 → Mm → Prop}  (h : wp_B_best a1 a2 M Q) : CtI l G (d + 15) yX9_best cX9_best 3 (some .int) [rv G 0, .int a1, .int a2] M Q := by
  refine CtI.mk (by decide) rfl (Nat.le_of_ble_eq_true rfl) (fun E hE hR => ?_)
  show E 0 [(0, rv G 0), (1, .int a1), (2, .int a2)] [] M
  unfold wp_B_best at h
  refine e_iload_n (pc := 0) hE rfl 1 rfl dX9_best_0 ?_
  refine e_if_lt (pc := 1) hE 20 dX9_best_1 (by decide) (fun c0 => ?_) (fun c0 => ?_)
  · have h := h.1 c0
    refine e_iconst (pc := 20) (v := -1) hE ki_m1 dX9_best_20 ?_
    exact hR dX9_best_21 h
  · have h := h.2 c0
    refine e_iload_n (pc := 4) hE rfl 1 rfl dX9_best_4 ?_
    refine e_iconst (pc := 5) (v := 3) hE ki_3 dX9_best_5 ?_
    refine e_icmp_gt (pc := 6) hE 20 dX9_best_6 (by decide) (fun c0 => ?_) (fun c0 => ?_)
    · have h := h.1 c0
      refine e_iconst (pc := 20) (v := -1) hE ki_m1 dX9_best_20 ?_
      exact hR dX9_best_21 h
    · have h := h.2 c0
      refine e_aload_n (pc := 9) hE rfl 0 rfl dX9_best_9 ?_
      refine g_RB_rows (pc := 10) hE tw_350 dX9_best_10 ?_
      refine e_iload_n (pc := 13) hE rfl 2 rfl dX9_best_13 ?_
      refine c_Sh_knows (pc := 14) (d := d + 14 + 0) hE (t_Sh_knows (d := d + 14) sh4 h) (sh_kd sh4) tw_407 (Nat.le_of_ble_eq_true rfl) dX9_best_14 (fun r14 M14 h => ?_)
      refine e_if_ne (pc := 17) hE 22 dX9_best_17 (by decide) (fun c0 => ?_) (fun c0 => ?_)
      · have h := h.1 c0
        refine e_aload_n (pc := 22) hE rfl 0 rfl dX9_best_22 ?_
        refine g_RB_chart (pc := 23) hE tw_352 dX9_best_23 ?_
        refine g_Chart_arms (pc := 26) hE (ch_kd ch20) tw_158 dX9_best_26 ?_
        refine e_if_ne (pc := 29) hE 35 dX9_best_29 (by decide) (fun c0 => ?_) (fun c0 => ?_)
        · have h := h.1 c0
          refine e_aload_n (pc := 35) hE rfl 0 rfl dX9_best_35 ?_
          refine g_RB_planner (pc := 36) hE tw_358 dX9_best_36 ?_
          refine e_aload_n (pc := 39) hE rfl 0 rfl dX9_best_39 ?_
          refine g_RB_story (pc := 40) hE tw_355 dX9_best_40 ?_
          refine g_Story_present (pc := 43) hE (st_kd st60) tw_247 dX9_best_43 ?_
          refine e_iload_n (pc := 46) hE rfl 1 rfl dX9_best_46 ?_
          refine e_bipush (pc := 47) (v := -9) hE kb_m9 dX9_best_47 ?_
          refine c_Pl_seek (pc := 49) (d := d + 14) hE (t_Pl_seek (d := d) kd_61 h) tw_771 (Nat.le_of_ble_eq_true rfl) dX9_best_49 (fun M49 h => ?_)
          refine e_aload_n (pc := 52) hE rfl 0 rfl dX9_best_52 ?_
          refine e_iload_n (pc := 53) hE rfl 1 rfl dX9_best_53 ?_
          refine e_iload_n (pc := 54) hE rfl 2 rfl dX9_best_54 ?_
          refine c_B_takePlan (pc := 55) (d := d + 11 + 3) hE (t_B_takePlan (d := d + 11)  h) tw_809 (Nat.le_of_ble_eq_true rfl) dX9_best_55 (fun M55 h => ?_)
          refine e_aload_n (pc := 58) hE rfl 0 rfl dX9_best_58 ?_
          refine e_aload_n (pc := 59) hE rfl 0 rfl dX9_best_59 ?_
          refine g_RB_planner (pc := 60) hE tw_358 dX9_best_60 ?_
          refine g_Planner_bestStamps (pc := 63) hE tw_275 dX9_best_63 ?_
          refine e_topi (fun x66 ex66 => ?_)
          have h := h x66 ex66
          refine p_RB_told (pc := 66) hE tw_363 dX9_best_66 ?_
          refine e_aload_n (pc := 69) hE rfl 0 rfl dX9_best_69 ?_
          refine g_RB_planner (pc := 70) hE tw_358 dX9_best_70 ?_
          refine g_Planner_bestWorth (pc := 73) hE tw_273 dX9_best_73 ?_
          exact hR dX9_best_76 h
        · have h := h.2 c0
          refine e_bipush (pc := 32) (v := -4) hE kb_m4 dX9_best_32 ?_
          exact hR dX9_best_34 h
      · have h := h.2 c0
        refine e_iconst (pc := 20) (v := -1) hE ki_m1 dX9_best_20 ?_
        exact hR dX9_best_21 h
set_option maxHeartbeats 4000000 in
set_option maxRecDepth 20000 in
theorem t_B_fewest {l : Launch} {G : Gs} {d : Nat} {a1 : Int32} {a2 : Int32} {a3 : Int32} {M : Mm} {Q : Int32 → Mm → Prop}  (h : wp_B_fewest a1 a2 a3 M Q) : CtI l G (d + 15) yX9_fewest cX9_fewest 4 (some .int) [rv G 0, .int a1, .int a2, .int a3] M Q := by
  refine CtI.mk (by decide) rfl (Nat.le_of_ble_eq_true rfl) (fun E hE hR => ?_)
  show E 0 [(0, rv G 0), (1, .int a1), (2, .int a2), (3, .int a3)] [] M
  unfold wp_B_fewest at h
  refine e_aload_n (pc := 0) hE rfl 0 rfl dX9_fewest_0 ?_
  refine g_RB_chart (pc := 1) hE tw_352 dX9_fewest_1 ?_
  refine e_iload_n (pc := 4) hE rfl 1 rfl dX9_fewest_4 ?_
  refine c_Ch_hasArm (pc := 5) (d := d + 14 + 0) hE (t_Ch_hasArm (d := d + 14) ch20 h) (ch_kd ch20) tw_578 (Nat.le_of_ble_eq_true rfl) dX9_fewest_5 (fun r5 M5 h => ?_)
  refine e_if_eq (pc := 8) hE 31 dX9_fewest_8 (by decide) (fun c0 => ?_) (fun c0 => ?_)
  · have h := h.1 c0
    refine e_iconst (pc := 31) (v := -1) hE ki_m1 dX9_fewest_31 ?_
    exact hR dX9_fewest_32 h
  · have h := h.2 c0
    refine e_iload_n (pc := 11) hE rfl 2 rfl dX9_fewest_11 ?_
    refine e_if_lt (pc := 12) hE 31 dX9_fewest_12 (by decide) (fun c0 => ?_) (fun c0 => ?_)
    · have h := h.1 c0
      refine e_iconst (pc := 31) (v := -1) hE ki_m1 dX9_fewest_31 ?_
      exact hR dX9_fewest_32 h
    · have h := h.2 c0
      refine e_iload_n (pc := 15) hE rfl 2 rfl dX9_fewest_15 ?_
      refine e_iconst (pc := 16) (v := 3) hE ki_3 dX9_fewest_16 ?_
      refine e_icmp_gt (pc := 17) hE 31 dX9_fewest_17 (by decide) (fun c0 => ?_) (fun c0 => ?_)
      · have h := h.1 c0
        refine e_iconst (pc := 31) (v := -1) hE ki_m1 dX9_fewest_31 ?_
        exact hR dX9_fewest_32 h
      · have h := h.2 c0
        refine e_aload_n (pc := 20) hE rfl 0 rfl dX9_fewest_20 ?_
        refine g_RB_rows (pc := 21) hE tw_350 dX9_fewest_21 ?_
        refine e_iload_n (pc := 24) hE rfl 3 rfl dX9_fewest_24 ?_
        refine c_Sh_knows (pc := 25) (d := d + 14 + 0) hE (t_Sh_knows (d := d + 14) sh4 h) (sh_kd sh4) tw_407 (Nat.le_of_ble_eq_true rfl) dX9_fewest_25 (fun r25 M25 h => ?_)
        refine e_if_ne (pc := 28) hE 33 dX9_fewest_28 (by decide) (fun c0 => ?_) (fun c0 => ?_)
        · have h := h.1 c0
          refine e_aload_n (pc := 33) hE rfl 0 rfl dX9_fewest_33 ?_
          refine g_RB_planner (pc := 34) hE tw_358 dX9_fewest_34 ?_
          refine e_aload_n (pc := 37) hE rfl 0 rfl dX9_fewest_37 ?_
          refine g_RB_story (pc := 38) hE tw_355 dX9_fewest_38 ?_
          refine g_Story_present (pc := 41) hE (st_kd st60) tw_247 dX9_fewest_41 ?_
          refine e_iload_n (pc := 44) hE rfl 2 rfl dX9_fewest_44 ?_
          refine e_iload_n (pc := 45) hE rfl 1 rfl dX9_fewest_45 ?_
          refine c_Pl_seek (pc := 46) (d := d + 14) hE (t_Pl_seek (d := d) kd_61 h) tw_771 (Nat.le_of_ble_eq_true rfl) dX9_fewest_46 (fun M46 h => ?_)
          refine e_aload_n (pc := 49) hE rfl 0 rfl dX9_fewest_49 ?_
          refine g_RB_planner (pc := 50) hE tw_358 dX9_fewest_50 ?_
          refine g_Planner_bestWorth (pc := 53) hE tw_273 dX9_fewest_53 ?_
          refine e_if_gt (pc := 56) hE 62 dX9_fewest_56 (by decide) (fun c0 => ?_) (fun c0 => ?_)
          · have h := h.1 c0
            refine e_aload_n (pc := 62) hE rfl 0 rfl dX9_fewest_62 ?_
            refine e_iload_n (pc := 63) hE rfl 2 rfl dX9_fewest_63 ?_
            refine e_iload_n (pc := 64) hE rfl 3 rfl dX9_fewest_64 ?_
            refine c_B_takePlan (pc := 65) (d := d + 11 + 3) hE (t_B_takePlan (d := d + 11)  h) tw_809 (Nat.le_of_ble_eq_true rfl) dX9_fewest_65 (fun M65 h => ?_)
            refine e_aload_n (pc := 68) hE rfl 0 rfl dX9_fewest_68 ?_
            refine g_RB_planner (pc := 69) hE tw_358 dX9_fewest_69 ?_
            refine g_Planner_bestStamps (pc := 72) hE tw_275 dX9_fewest_72 ?_
            exact hR dX9_fewest_75 h
          · have h := h.2 c0
            refine e_bipush (pc := 59) (v := -9) hE kb_m9 dX9_fewest_59 ?_
            exact hR dX9_fewest_61 h
        · have h := h.2 c0
          refine e_iconst (pc := 31) (v := -1) hE ki_m1 dX9_fewest_31 ?_
          exact hR dX9_fewest_32 h
set_option maxHeartbeats 4000000 in
set_option maxRecDepth 20000 in
theorem w_B_dies_29 {l : Launch} {G : Gs} {d : Nat} {E : EE}  {Q : Int32 → Mm → Prop} (hE : Mach l G RX9 cX9_dies 4 (d + 5) E) (hR : RtI cX9_dies E Q)   {KB : Int32 → Mm → Prop} {K71 : Int32 → Int32 → Mm → Prop} {v1 : Int32} {M : Mm} (h : k_B_dies_29 Q KB K71 v1 M) (hKB : ∀ (v1 : Int32)  (M : Mm), KB v1 M → E 29 [(0, rv G 0), (1, .int v1)] [] M) (hK71 : ∀ (v1 : Int32) (v3 : Int32)  (M : Mm), K71 v1 v3 M → E 71 [(0, rv G 0), (1, .int v1), (3, .int v3)] [] M) : E 29 [(0, rv G 0), (1, .int v1)] [] M := by
  unfold k_B_dies_29 at h
  refine e_iload_n (pc := 29) hE rfl 1 rfl dX9_dies_29 ?_
  refine e_bipush (pc := 30) (v := 40) hE kb_40 dX9_dies_30 ?_
  refine e_icmp_gt (pc := 32) hE 87 dX9_dies_32 (by decide) (fun c0 => ?_) (fun c0 => ?_)
  · have h := h.1 c0
    refine e_bipush (pc := 87) (v := -9) hE kb_m9 dX9_dies_87 ?_
    exact hR dX9_dies_89 h
  · have h := h.2 c0
    refine e_aload_n (pc := 35) hE rfl 0 rfl dX9_dies_35 ?_
    refine g_RB_aside (pc := 36) hE tw_357 dX9_dies_36 ?_
    refine g_Flow_dead (pc := 39) hE kd_3 tw_226 dX9_dies_39 ?_
    refine e_topi (fun x42 ex42 => ?_)
    have h := h x42 ex42
    refine e_istore_n (pc := 42) (lv' := [(2, .int x42), (0, rv G 0), (1, .int v1)]) hE dX9_dies_42 rfl (by decide) rfl ?_
    refine e_aload_n (pc := 43) hE rfl 1 rfl dX9_dies_43 ?_
    refine g_RB_aside (pc := 44) hE tw_357 dX9_dies_44 ?_
    refine e_aload_n (pc := 47) hE rfl 1 rfl dX9_dies_47 ?_
    refine g_RB_chart (pc := 48) hE tw_352 dX9_dies_48 ?_
    refine c_Fl_goBy (pc := 51) (d := d + 4) hE (t_Fl_goBy (d := d) kd_3 ch20 h) kd_3 tw_679 (Nat.le_of_ble_eq_true rfl) dX9_dies_51 (fun r51 M51 h => ?_)
    refine e_pop (pc := 54) hE rfl dX9_dies_54 ?_
    refine e_aload_n (pc := 55) hE rfl 1 rfl dX9_dies_55 ?_
    refine g_RB_aside (pc := 56) hE tw_357 dX9_dies_56 ?_
    refine g_Flow_dead (pc := 59) hE kd_3 tw_226 dX9_dies_59 ?_
    refine e_iload_n (pc := 62) hE rfl 0 rfl dX9_dies_62 ?_
    refine e_iconst (pc := 63) (v := -1) hE ki_m1 dX9_dies_63 ?_
    refine e_ixor (pc := 64) hE dX9_dies_64 ?_
    refine e_iand (pc := 65) hE dX9_dies_65 ?_
    refine e_topi (fun x66 ex66 => ?_)
    have h := h x66 ex66
    refine e_istore_n (pc := 66) (lv' := [(3, .int x66), (2, .int x42), (0, rv G 0), (1, .int v1)]) hE dX9_dies_66 rfl (by decide) rfl ?_
    refine e_iload_n (pc := 67) hE rfl 0 rfl dX9_dies_67 ?_
    refine e_if_eq (pc := 68) hE 81 dX9_dies_68 (by decide) (fun c0 => ?_) (fun c0 => ?_)
    · have h := h.1 c0
      obtain ⟨x81, ex81⟩ : ∃ y : Int32, y = v1 + (1 : Int32) := ⟨_, rfl⟩
      have h := h x81 ex81
      refine e_iinc (pc := 81) (k := 3) (v := x81) (lv' := [(1, .int x81), (3, .int x66), (2, .int x42), (0, rv G 0)]) hE dX9_dies_81 rfl (by rw [ex81, ki_1]) (by decide) rfl ?_
      refine e_goto (pc := 84) hE 29 dX9_dies_84 (by decide) ?_
      refine e_sub hE [3, 0] rfl ?_
      exact hKB _ _ h
    · have h := h.2 c0
      refine e_sub hE [2, 3, 0] rfl ?_
      exact hK71 _ _ _ h
set_option maxHeartbeats 4000000 in
set_option maxRecDepth 20000 in
theorem w_lp_B_dies_29 {l : Launch} {G : Gs} {d : Nat} {E : EE}  {Q : Int32 → Mm → Prop} (hE : Mach l G RX9 cX9_dies 4 (d + 5) E) (hR : RtI cX9_dies E Q)   {K71 : Int32 → Int32 → Mm → Prop} {n : Nat} {v1 : Int32} {M : Mm} (h : lp_B_dies_29 Q K71 n v1 M) (hK71 : ∀ (v1 : Int32) (v3 : Int32)  (M : Mm), K71 v1 v3 M → E 71 [(0, rv G 0), (1, .int v1), (3, .int v3)] [] M) : E 29 [(0, rv G 0), (1, .int v1)] [] M := by
  have key : ∀ (n : Nat) (v1 : Int32) (M : Mm), lp_B_dies_29 Q K71 n v1 M → E 29 [(0, rv G 0), (1, .int v1)] [] M := by
    intro n
    induction n with
    | zero => intro v1 M h; exact h.elim
    | succ n ih => intro v1 M h; exact w_B_dies_29 hE hR  (show k_B_dies_29  Q (lp_B_dies_29 Q K71 n) K71 v1 M from h) ih hK71
  exact key n _ _ h
set_option maxHeartbeats 4000000 in
set_option maxRecDepth 20000 in
theorem t_B_dies {l : Launch} {G : Gs} {d : Nat}  {M : Mm} {Q : Int32 → Mm → Prop}  (h : wp_B_dies  M Q) : CtI l G (d + 5) yX9_dies cX9_dies 4 (some .int) [rv G 0] M Q := by
  refine CtI.mk (by decide) rfl (Nat.le_of_ble_eq_true rfl) (fun E hE hR => ?_)
  show E 0 [(0, rv G 0)] [] M
  unfold wp_B_dies at h
  refine e_aload_n (pc := 0) hE rfl 0 rfl dX9_dies_0 ?_
  refine g_RB_chart (pc := 1) hE tw_352 dX9_dies_1 ?_
  refine g_Chart_arms (pc := 4) hE (ch_kd ch20) tw_158 dX9_dies_4 ?_
  refine e_if_ne (pc := 7) hE 13 dX9_dies_7 (by decide) (fun c0 => ?_) (fun c0 => ?_)
  · have h := h.1 c0
    refine e_aload_n (pc := 13) hE rfl 0 rfl dX9_dies_13 ?_
    refine g_RB_aside (pc := 14) hE tw_357 dX9_dies_14 ?_
    refine e_aload_n (pc := 17) hE rfl 0 rfl dX9_dies_17 ?_
    refine g_RB_story (pc := 18) hE tw_355 dX9_dies_18 ?_
    refine g_Story_present (pc := 21) hE (st_kd st60) tw_247 dX9_dies_21 ?_
    refine c_Fl_copyFrom (pc := 24) (d := d + 4 + 0) hE (t_Fl_copyFrom (d := d + 4) kd_3 kd_61 h) kd_3 tw_760 (Nat.le_of_ble_eq_true rfl) dX9_dies_24 (fun M24 h => ?_)
    refine e_iconst (pc := 27) (v := 1) hE ki_1 dX9_dies_27 ?_
    refine e_istore_n (pc := 28) (lv' := [(1, .int (1 : Int32)), (0, rv G 0)]) hE dX9_dies_28 rfl (by decide) rfl ?_
    obtain ⟨n, h⟩ := h
    refine e_sub hE [1, 0] rfl ?_
    refine w_lp_B_dies_29 hE hR  h (fun v1 v3 M h => ?_)
    refine e_aload_n (pc := 71) hE rfl 0 rfl dX9_dies_71 ?_
    refine e_iload_n (pc := 72) hE rfl 1 rfl dX9_dies_72 ?_
    refine p_RB_told (pc := 73) hE tw_363 dX9_dies_73 ?_
    refine e_iload_n (pc := 76) hE rfl 2 rfl dX9_dies_76 ?_
    refine c_B_firstOf (pc := 77) (d := d + 3 + 1) hE (t_B_firstOf (d := d + 3)  h) tw_821 (Nat.le_of_ble_eq_true rfl) dX9_dies_77 (fun r77 M77 h => ?_)
    exact hR dX9_dies_80 h
  · have h := h.2 c0
    refine e_bipush (pc := 10) (v := -4) hE kb_m4 dX9_dies_10 ?_
    exact hR dX9_dies_12 h
set_option maxHeartbeats 4000000 in
set_option maxRecDepth 20000 in
theorem t_B_barge {l : Launch} {G : Gs} {d : Nat} {a1 : Int32} {a2 : Int32} {M : Mm} {Q : Int32 → Mm → Prop}  (h : wp_B_barge a1 a2 M Q) : CtI l G (d + 6) yX9_barge cX9_barge 5 (some .int) [rv G 0, .int a1, .int a2] M Q := by
  refine CtI.mk (by decide) rfl (Nat.le_of_ble_eq_true rfl) (fun E hE hR => ?_)
  show E 0 [(0, rv G 0), (1, .int a1), (2, .int a2)] [] M
  unfold wp_B_barge at h
  refine e_aload_n (pc := 0) hE rfl 0 rfl dX9_barge_0 ?_
  refine g_RB_chart (pc := 1) hE tw_352 dX9_barge_1 ?_
  refine e_iload_n (pc := 4) hE rfl 1 rfl dX9_barge_4 ?_
  refine c_Ch_hasArm (pc := 5) (d := d + 5 + 0) hE (t_Ch_hasArm (d := d + 5) ch20 h) (ch_kd ch20) tw_578 (Nat.le_of_ble_eq_true rfl) dX9_barge_5 (fun r5 M5 h => ?_)
  refine e_if_eq (pc := 8) hE 21 dX9_barge_8 (by decide) (fun c0 => ?_) (fun c0 => ?_)
  · have h := h.1 c0
    refine e_iconst (pc := 21) (v := -1) hE ki_m1 dX9_barge_21 ?_
    exact hR dX9_barge_22 h
  · have h := h.2 c0
    refine e_iload_n (pc := 11) hE rfl 2 rfl dX9_barge_11 ?_
    refine e_if_lt (pc := 12) hE 21 dX9_barge_12 (by decide) (fun c0 => ?_) (fun c0 => ?_)
    · have h := h.1 c0
      refine e_iconst (pc := 21) (v := -1) hE ki_m1 dX9_barge_21 ?_
      exact hR dX9_barge_22 h
    · have h := h.2 c0
      refine e_iload_n (pc := 15) hE rfl 2 rfl dX9_barge_15 ?_
      refine e_bipush (pc := 16) (v := 12) hE kb_12 dX9_barge_16 ?_
      refine e_icmp_le (pc := 18) hE 23 dX9_barge_18 (by decide) (fun c0 => ?_) (fun c0 => ?_)
      · have h := h.1 c0
        refine e_aload_n (pc := 23) hE rfl 0 rfl dX9_barge_23 ?_
        refine g_RB_story (pc := 24) hE tw_355 dX9_barge_24 ?_
        refine g_Story_present (pc := 27) hE (st_kd st60) tw_247 dX9_barge_27 ?_
        refine g_Flow_barges (pc := 30) hE kd_61 tw_223 dX9_barge_30 ?_
        refine e_iload_n (pc := 33) hE rfl 1 rfl dX9_barge_33 ?_
        refine c_B_hasBit (pc := 34) (d := d + 5 + 0) hE (t_B_hasBit (d := d + 5)  h) tw_713 (Nat.le_of_ble_eq_true rfl) dX9_barge_34 (fun r34 M34 h => ?_)
        refine e_if_ne (pc := 37) hE 43 dX9_barge_37 (by decide) (fun c0 => ?_) (fun c0 => ?_)
        · have h := h.1 c0
          refine e_aload_n (pc := 43) hE rfl 0 rfl dX9_barge_43 ?_
          refine g_RB_aside (pc := 44) hE tw_357 dX9_barge_44 ?_
          refine e_aload_n (pc := 47) hE rfl 0 rfl dX9_barge_47 ?_
          refine g_RB_story (pc := 48) hE tw_355 dX9_barge_48 ?_
          refine g_Story_present (pc := 51) hE (st_kd st60) tw_247 dX9_barge_51 ?_
          refine c_Fl_copyFrom (pc := 54) (d := d + 5 + 0) hE (t_Fl_copyFrom (d := d + 5) kd_3 kd_61 h) kd_3 tw_760 (Nat.le_of_ble_eq_true rfl) dX9_barge_54 (fun M54 h => ?_)
          refine e_aload_n (pc := 57) hE rfl 0 rfl dX9_barge_57 ?_
          refine g_RB_aside (pc := 58) hE tw_357 dX9_barge_58 ?_
          refine e_aload_n (pc := 61) hE rfl 0 rfl dX9_barge_61 ?_
          refine g_RB_chart (pc := 62) hE tw_352 dX9_barge_62 ?_
          refine e_iload_n (pc := 65) hE rfl 2 rfl dX9_barge_65 ?_
          refine c_Fl_harvestsOfSeasons (pc := 66) (d := d + 5) hE (t_Fl_harvestsOfSeasons (d := d) kd_3 ch20 h) kd_3 tw_828 (Nat.le_of_ble_eq_true rfl) dX9_barge_66 (fun r66 M66 h => ?_)
          refine e_istore_n (pc := 69) (lv' := [(3, .int r66), (0, rv G 0), (1, .int a1), (2, .int a2)]) hE dX9_barge_69 rfl (by decide) rfl ?_
          refine e_aload_n (pc := 70) hE rfl 1 rfl dX9_barge_70 ?_
          refine g_RB_aside (pc := 71) hE tw_357 dX9_barge_71 ?_
          refine e_aload_n (pc := 74) hE rfl 1 rfl dX9_barge_74 ?_
          refine g_RB_story (pc := 75) hE tw_355 dX9_barge_75 ?_
          refine g_Story_present (pc := 78) hE (st_kd st60) tw_247 dX9_barge_78 ?_
          refine c_Fl_copyFrom (pc := 81) (d := d + 5 + 0) hE (t_Fl_copyFrom (d := d + 5) kd_3 kd_61 h) kd_3 tw_760 (Nat.le_of_ble_eq_true rfl) dX9_barge_81 (fun M81 h => ?_)
          refine e_aload_n (pc := 84) hE rfl 1 rfl dX9_barge_84 ?_
          refine g_RB_aside (pc := 85) hE tw_357 dX9_barge_85 ?_
          refine e_iload_n (pc := 88) hE rfl 2 rfl dX9_barge_88 ?_
          refine c_Fl_dropBarge (pc := 89) (d := d + 4 + 1) hE (t_Fl_dropBarge (d := d + 4) kd_3 h) kd_3 tw_714 (Nat.le_of_ble_eq_true rfl) dX9_barge_89 (fun M89 h => ?_)
          refine e_aload_n (pc := 92) hE rfl 1 rfl dX9_barge_92 ?_
          refine g_RB_aside (pc := 93) hE tw_357 dX9_barge_93 ?_
          refine e_aload_n (pc := 96) hE rfl 1 rfl dX9_barge_96 ?_
          refine g_RB_chart (pc := 97) hE tw_352 dX9_barge_97 ?_
          refine e_iload_n (pc := 100) hE rfl 3 rfl dX9_barge_100 ?_
          refine c_Fl_harvestsOfSeasons (pc := 101) (d := d + 5) hE (t_Fl_harvestsOfSeasons (d := d) kd_3 ch20 h) kd_3 tw_828 (Nat.le_of_ble_eq_true rfl) dX9_barge_101 (fun r101 M101 h => ?_)
          refine e_istore (pc := 104) (lv' := [(4, .int r101), (3, .int r66), (0, rv G 0), (1, .int a1), (2, .int a2)]) hE dX9_barge_104 (by decide) rfl ?_
          refine e_iload (pc := 106) hE 0 rfl dX9_barge_106 ?_
          refine e_iload_n (pc := 108) hE rfl 1 rfl dX9_barge_108 ?_
          refine e_isub (pc := 109) hE dX9_barge_109 ?_
          refine e_bipush (pc := 110) (v := 100) hE kb_100 dX9_barge_110 ?_
          refine e_iadd (pc := 112) hE dX9_barge_112 ?_
          exact hR dX9_barge_113 h
        · have h := h.2 c0
          refine e_bipush (pc := 40) (v := 100) hE kb_100 dX9_barge_40 ?_
          exact hR dX9_barge_42 h
      · have h := h.2 c0
        refine e_iconst (pc := 21) (v := -1) hE ki_m1 dX9_barge_21 ?_
        exact hR dX9_barge_22 h
set_option maxHeartbeats 4000000 in
set_option maxRecDepth 20000 in
theorem t_B_armRowRefusal {l : Launch} {G : Gs} {d : Nat} {a1 : Int32} {M : Mm} {Q : Int32 → Mm → Prop}  (h : wp_B_armRowRefusal a1 M Q) : CtI l G (d + 4) yX9_armRowRefusal cX9_armRowRefusal 3 (some .int) [rv G 0, .int a1] M Q := by
  refine CtI.mk (by decide) rfl (Nat.le_of_ble_eq_true rfl) (fun E hE hR => ?_)
  show E 0 [(0, rv G 0), (1, .int a1)] [] M
  unfold wp_B_armRowRefusal at h
  refine e_aload_n (pc := 0) hE rfl 0 rfl dX9_armRowRefusal_0 ?_
  refine e_iload_n (pc := 1) hE rfl 1 rfl dX9_armRowRefusal_1 ?_
  refine c_B_deltaRowRefusal (pc := 2) (d := d + 3) hE (t_B_deltaRowRefusal (d := d)  h) tw_748 (Nat.le_of_ble_eq_true rfl) dX9_armRowRefusal_2 (fun r2 M2 h => ?_)
  refine e_istore_n (pc := 5) (lv' := [(2, .int r2), (0, rv G 0), (1, .int a1)]) hE dX9_armRowRefusal_5 rfl (by decide) rfl ?_
  refine e_iload_n (pc := 6) hE rfl 0 rfl dX9_armRowRefusal_6 ?_
  refine e_if_eq (pc := 7) hE 12 dX9_armRowRefusal_7 (by decide) (fun c0 => ?_) (fun c0 => ?_)
  · have h := h.1 c0
    refine e_aload_n (pc := 12) hE rfl 1 rfl dX9_armRowRefusal_12 ?_
    refine g_RB_rows (pc := 13) hE tw_350 dX9_armRowRefusal_13 ?_
    refine e_iload_n (pc := 16) hE rfl 2 rfl dX9_armRowRefusal_16 ?_
    refine c_Sh_sizeOf (pc := 17) (d := d + 2 + 1) hE (t_Sh_sizeOf (d := d + 2) sh4 h) (sh_kd sh4) tw_476 (Nat.le_of_ble_eq_true rfl) dX9_armRowRefusal_17 (fun r17 M17 h => ?_)
    refine e_aload_n (pc := 20) hE rfl 1 rfl dX9_armRowRefusal_20 ?_
    refine g_RB_chart (pc := 21) hE tw_352 dX9_armRowRefusal_21 ?_
    refine g_Chart_arms (pc := 24) hE (ch_kd ch20) tw_158 dX9_armRowRefusal_24 ?_
    refine e_icmp_ne (pc := 27) hE 34 dX9_armRowRefusal_27 (by decide) (fun c0 => ?_) (fun c0 => ?_)
    · have h := h.1 c0
      refine e_aload_n (pc := 34) hE rfl 1 rfl dX9_armRowRefusal_34 ?_
      refine e_iconst (pc := 35) (v := 5) hE ki_5 dX9_armRowRefusal_35 ?_
      refine c_B_answerFinding (pc := 36) (d := d + 3 + 0) hE (t_B_answerFinding (d := d + 3)  h) tw_411 (Nat.le_of_ble_eq_true rfl) dX9_armRowRefusal_36 (fun r36 M36 h => ?_)
      exact hR dX9_armRowRefusal_39 h
    · have h := h.2 c0
      refine e_iconst (pc := 30) (v := 0) hE ki_0 dX9_armRowRefusal_30 ?_
      refine e_goto (pc := 31) hE 39 dX9_armRowRefusal_31 (by decide) ?_
      exact hR dX9_armRowRefusal_39 h
  · have h := h.2 c0
    refine e_iload_n (pc := 10) hE rfl 0 rfl dX9_armRowRefusal_10 ?_
    exact hR dX9_armRowRefusal_11 h
set_option maxHeartbeats 4000000 in
set_option maxRecDepth 20000 in
theorem w_B_stampedToFit_42 {l : Launch} {G : Gs} {d : Nat} {E : EE} {a1 : Int32} {a2 : Int32} {Q : Int32 → Mm → Prop} (hE : Mach l G RX9 cX9_stampedToFit 5 (d + 5) E) (hR : RtI cX9_stampedToFit E Q)   {KB : Int32 → Int32 → Mm → Prop} {v3 : Int32} {v4 : Int32} {M : Mm} (h : k_B_stampedToFit_42 a1 a2 Q KB v3 v4 M) (hKB : ∀ (v3 : Int32) (v4 : Int32)  (M : Mm), KB v3 v4 M → E 42 [(0, rv G 0), (2, .int a2), (3, .int v3), (4, .int v4)] [] M) : E 42 [(0, rv G 0), (2, .int a2), (3, .int v3), (4, .int v4)] [] M := by
  unfold k_B_stampedToFit_42 at h
  refine e_iload (pc := 42) hE 3 rfl dX9_stampedToFit_42 ?_
  refine e_aload_n (pc := 44) hE rfl 0 rfl dX9_stampedToFit_44 ?_
  refine g_RB_chart (pc := 45) hE tw_352 dX9_stampedToFit_45 ?_
  refine g_Chart_arms (pc := 48) hE (ch_kd ch20) tw_158 dX9_stampedToFit_48 ?_
  refine e_icmp_ge (pc := 51) hE 85 dX9_stampedToFit_51 (by decide) (fun c0 => ?_) (fun c0 => ?_)
  · have h := h.1 c0
    refine e_iload_n (pc := 85) hE rfl 2 rfl dX9_stampedToFit_85 ?_
    exact hR dX9_stampedToFit_86 h
  · have h := h.2 c0
    refine e_aload_n (pc := 54) hE rfl 0 rfl dX9_stampedToFit_54 ?_
    refine g_RB_aside (pc := 55) hE tw_357 dX9_stampedToFit_55 ?_
    refine e_iload (pc := 58) hE 3 rfl dX9_stampedToFit_58 ?_
    refine c_Fl_saltOf (pc := 60) (d := d + 4 + 0) hE (t_Fl_saltOf (d := d + 4) kd_3 h) kd_3 tw_586 (Nat.le_of_ble_eq_true rfl) dX9_stampedToFit_60 (fun r60 M60 h => ?_)
    refine e_aload_n (pc := 63) hE rfl 0 rfl dX9_stampedToFit_63 ?_
    refine g_RB_rows (pc := 64) hE tw_350 dX9_stampedToFit_64 ?_
    refine e_iload_n (pc := 67) hE rfl 1 rfl dX9_stampedToFit_67 ?_
    refine e_iload (pc := 68) hE 3 rfl dX9_stampedToFit_68 ?_
    refine c_Sh_valueAt (pc := 70) (d := d + 2 + 2) hE (t_Sh_valueAt (d := d + 2) sh4 h) (sh_kd sh4) tw_440 (Nat.le_of_ble_eq_true rfl) dX9_stampedToFit_70 (fun r70 M70 h => ?_)
    refine e_icmp_eq (pc := 73) hE 79 dX9_stampedToFit_73 (by decide) (fun c0 => ?_) (fun c0 => ?_)
    · have h := h.1 c0
      obtain ⟨x79, ex79⟩ : ∃ y : Int32, y = v4 + (1 : Int32) := ⟨_, rfl⟩
      have h := h x79 ex79
      refine e_iinc (pc := 79) (k := 3) (v := x79) (lv' := [(4, .int x79), (0, rv G 0), (2, .int a2), (3, .int v3)]) hE dX9_stampedToFit_79 rfl (by rw [ex79, ki_1]) (by decide) rfl ?_
      refine e_goto (pc := 82) hE 42 dX9_stampedToFit_82 (by decide) ?_
      refine e_sub hE [1, 2, 3, 0] rfl ?_
      exact hKB _ _ _ h
    · have h := h.2 c0
      refine e_bipush (pc := 76) (v := -9) hE kb_m9 dX9_stampedToFit_76 ?_
      exact hR dX9_stampedToFit_78 h
set_option maxHeartbeats 4000000 in
set_option maxRecDepth 20000 in
theorem w_lp_B_stampedToFit_42 {l : Launch} {G : Gs} {d : Nat} {E : EE} {a1 : Int32} {a2 : Int32} {Q : Int32 → Mm → Prop} (hE : Mach l G RX9 cX9_stampedToFit 5 (d + 5) E) (hR : RtI cX9_stampedToFit E Q)    {n : Nat} {v3 : Int32} {v4 : Int32} {M : Mm} (h : lp_B_stampedToFit_42 a1 a2 Q n v3 v4 M)  : E 42 [(0, rv G 0), (2, .int a2), (3, .int v3), (4, .int v4)] [] M := by
  have key : ∀ (n : Nat) (v3 : Int32) (v4 : Int32) (M : Mm), lp_B_stampedToFit_42 a1 a2 Q n v3 v4 M → E 42 [(0, rv G 0), (2, .int a2), (3, .int v3), (4, .int v4)] [] M := by
    intro n
    induction n with
    | zero => intro v3 v4 M h; exact h.elim
    | succ n ih => intro v3 v4 M h; exact w_B_stampedToFit_42 hE hR  (show k_B_stampedToFit_42 a1 a2 Q (lp_B_stampedToFit_42 a1 a2 Q n)  v3 v4 M from h) ih 
  exact key n _ _ _ h
set_option maxHeartbeats 4000000 in
set_option maxRecDepth 20000 in
theorem t_B_stampedToFit {l : Launch} {G : Gs} {d : Nat} {a1 : Int32} {a2 : Int32} {M : Mm} {Q : Int32 → Mm → Prop}  (h : wp_B_stampedToFit a1 a2 M Q) : CtI l G (d + 5) yX9_stampedToFit cX9_stampedToFit 5 (some .int) [rv G 0, .int a1, .int a2] M Q := by
  refine CtI.mk (by decide) rfl (Nat.le_of_ble_eq_true rfl) (fun E hE hR => ?_)
  show E 0 [(0, rv G 0), (1, .int a1), (2, .int a2)] [] M
  unfold wp_B_stampedToFit at h
  refine e_aload_n (pc := 0) hE rfl 0 rfl dX9_stampedToFit_0 ?_
  refine g_RB_aside (pc := 1) hE tw_357 dX9_stampedToFit_1 ?_
  refine e_aload_n (pc := 4) hE rfl 0 rfl dX9_stampedToFit_4 ?_
  refine g_RB_story (pc := 5) hE tw_355 dX9_stampedToFit_5 ?_
  refine g_Story_present (pc := 8) hE (st_kd st60) tw_247 dX9_stampedToFit_8 ?_
  refine c_Fl_copyFrom (pc := 11) (d := d + 4 + 0) hE (t_Fl_copyFrom (d := d + 4) kd_3 kd_61 h) kd_3 tw_760 (Nat.le_of_ble_eq_true rfl) dX9_stampedToFit_11 (fun M11 h => ?_)
  refine e_aload_n (pc := 14) hE rfl 0 rfl dX9_stampedToFit_14 ?_
  refine g_RB_aside (pc := 15) hE tw_357 dX9_stampedToFit_15 ?_
  refine e_aload_n (pc := 18) hE rfl 0 rfl dX9_stampedToFit_18 ?_
  refine g_RB_chart (pc := 19) hE tw_352 dX9_stampedToFit_19 ?_
  refine e_iload_n (pc := 22) hE rfl 1 rfl dX9_stampedToFit_22 ?_
  refine c_Fl_stampSet (pc := 23) (d := d + 1 + 3) hE (t_Fl_stampSet (d := d + 1) kd_3 ch20 h) kd_3 tw_761 (Nat.le_of_ble_eq_true rfl) dX9_stampedToFit_23 (fun r23 M23 h => ?_)
  refine e_istore_n (pc := 26) (lv' := [(3, .int r23), (0, rv G 0), (1, .int a1), (2, .int a2)]) hE dX9_stampedToFit_26 rfl (by decide) rfl ?_
  refine e_aload_n (pc := 27) hE rfl 1 rfl dX9_stampedToFit_27 ?_
  refine g_RB_aside (pc := 28) hE tw_357 dX9_stampedToFit_28 ?_
  refine e_aload_n (pc := 31) hE rfl 1 rfl dX9_stampedToFit_31 ?_
  refine g_RB_chart (pc := 32) hE tw_352 dX9_stampedToFit_32 ?_
  refine c_Fl_goBy (pc := 35) (d := d + 4) hE (t_Fl_goBy (d := d) kd_3 ch20 h) kd_3 tw_679 (Nat.le_of_ble_eq_true rfl) dX9_stampedToFit_35 (fun r35 M35 h => ?_)
  refine e_pop (pc := 38) hE rfl dX9_stampedToFit_38 ?_
  refine e_iconst (pc := 39) (v := 0) hE ki_0 dX9_stampedToFit_39 ?_
  refine e_istore (pc := 40) (lv' := [(4, .int (0 : Int32)), (3, .int r23), (0, rv G 0), (1, .int a1), (2, .int a2)]) hE dX9_stampedToFit_40 (by decide) rfl ?_
  obtain ⟨n, h⟩ := h
  refine e_sub hE [2, 4, 1, 0] rfl ?_
  refine w_lp_B_stampedToFit_42 hE hR  h 
set_option maxHeartbeats 4000000 in
set_option maxRecDepth 20000 in
theorem w_B_fits_64 {l : Launch} {G : Gs} {d : Nat} {E : EE} {a1 : Int32} {Q : Int32 → Mm → Prop} (hE : Mach l G RX9 cX9_fits 6 (d + 6) E) (hR : RtI cX9_fits E Q)   {KB : Int32 → Int32 → Int32 → Mm → Prop} {v3 : Int32} {v4 : Int32} {v5 : Int32} {M : Mm} (h : k_B_fits_64 a1 Q KB v3 v4 v5 M) (hKB : ∀ (v3 : Int32) (v4 : Int32) (v5 : Int32)  (M : Mm), KB v3 v4 v5 M → E 21 [(0, rv G 0), (1, .int a1), (3, .int v3), (4, .int v4), (5, .int v5)] [] M) : E 64 [(0, rv G 0), (1, .int a1), (3, .int v3), (4, .int v4), (5, .int v5)] [] M := by
  unfold k_B_fits_64 at h
  obtain ⟨x64, ex64⟩ : ∃ y : Int32, y = v5 + (1 : Int32) := ⟨_, rfl⟩
  have h := h x64 ex64
  refine e_iinc (pc := 64) (k := 4) (v := x64) (lv' := [(5, .int x64), (0, rv G 0), (1, .int a1), (3, .int v3), (4, .int v4)]) hE dX9_fits_64 rfl (by rw [ex64, ki_1]) (by decide) rfl ?_
  refine e_goto (pc := 67) hE 21 dX9_fits_67 (by decide) ?_
  refine e_sub hE [1, 2, 3, 4, 0] rfl ?_
  exact hKB _ _ _ _ h
set_option maxHeartbeats 4000000 in
set_option maxRecDepth 20000 in
theorem w_B_fits_62 {l : Launch} {G : Gs} {d : Nat} {E : EE} {a1 : Int32} {Q : Int32 → Mm → Prop} (hE : Mach l G RX9 cX9_fits 6 (d + 6) E) (hR : RtI cX9_fits E Q)   {KB : Int32 → Int32 → Int32 → Mm → Prop} {v3 : Int32} {v5 : Int32} {s0 : Int32} {M : Mm} (h : k_B_fits_62 a1 Q KB v3 v5 s0 M) (hKB : ∀ (v3 : Int32) (v4 : Int32) (v5 : Int32)  (M : Mm), KB v3 v4 v5 M → E 21 [(0, rv G 0), (1, .int a1), (3, .int v3), (4, .int v4), (5, .int v5)] [] M) : E 62 [(0, rv G 0), (1, .int a1), (3, .int v3), (5, .int v5)] [.int s0] M := by
  unfold k_B_fits_62 at h
  refine e_istore (pc := 62) (lv' := [(4, .int s0), (0, rv G 0), (1, .int a1), (3, .int v3), (5, .int v5)]) hE dX9_fits_62 (by decide) rfl ?_
  refine e_sub hE [1, 2, 3, 0, 4] rfl ?_
  exact w_B_fits_64 hE hR h hKB
set_option maxHeartbeats 4000000 in
set_option maxRecDepth 20000 in
theorem w_B_fits_21 {l : Launch} {G : Gs} {d : Nat} {E : EE} {a1 : Int32} {Q : Int32 → Mm → Prop} (hE : Mach l G RX9 cX9_fits 6 (d + 6) E) (hR : RtI cX9_fits E Q)   {KB : Int32 → Int32 → Int32 → Mm → Prop} {v3 : Int32} {v4 : Int32} {v5 : Int32} {M : Mm} (h : k_B_fits_21 a1 Q KB v3 v4 v5 M) (hKB : ∀ (v3 : Int32) (v4 : Int32) (v5 : Int32)  (M : Mm), KB v3 v4 v5 M → E 21 [(0, rv G 0), (1, .int a1), (3, .int v3), (4, .int v4), (5, .int v5)] [] M) : E 21 [(0, rv G 0), (1, .int a1), (3, .int v3), (4, .int v4), (5, .int v5)] [] M := by
  unfold k_B_fits_21 at h
  refine e_iload (pc := 21) hE 4 rfl dX9_fits_21 ?_
  refine e_aload_n (pc := 23) hE rfl 0 rfl dX9_fits_23 ?_
  refine g_RB_chart (pc := 24) hE tw_352 dX9_fits_24 ?_
  refine c_Ch_sets (pc := 27) (d := d + 5 + 0) hE (t_Ch_sets (d := d + 5) ch20 h) (ch_kd ch20) tw_756 (Nat.le_of_ble_eq_true rfl) dX9_fits_27 (fun r27 M27 h => ?_)
  refine e_icmp_ge (pc := 30) hE 70 dX9_fits_30 (by decide) (fun c0 => ?_) (fun c0 => ?_)
  · have h := h.1 c0
    refine e_aload_n (pc := 70) hE rfl 0 rfl dX9_fits_70 ?_
    refine e_iload (pc := 71) hE 3 rfl dX9_fits_71 ?_
    refine p_RB_told (pc := 73) hE tw_363 dX9_fits_73 ?_
    refine e_iload_n (pc := 76) hE rfl 2 rfl dX9_fits_76 ?_
    exact hR dX9_fits_77 h
  · have h := h.2 c0
    refine e_aload_n (pc := 33) hE rfl 0 rfl dX9_fits_33 ?_
    refine e_iload (pc := 34) hE 4 rfl dX9_fits_34 ?_
    refine e_iload_n (pc := 36) hE rfl 1 rfl dX9_fits_36 ?_
    refine c_B_stampedToFit (pc := 37) (d := d + 5) hE (t_B_stampedToFit (d := d)  h) tw_842 (Nat.le_of_ble_eq_true rfl) dX9_fits_37 (fun r37 M37 h => ?_)
    refine e_bipush (pc := 40) (v := -9) hE kb_m9 dX9_fits_40 ?_
    refine e_icmp_eq (pc := 42) hE 64 dX9_fits_42 (by decide) (fun c0 => ?_) (fun c0 => ?_)
    · have h := h.1 c0
      exact w_B_fits_64 hE hR h hKB
    · have h := h.2 c0
      obtain ⟨x45, ex45⟩ : ∃ y : Int32, y = v3 + (1 : Int32) := ⟨_, rfl⟩
      have h := h x45 ex45
      refine e_iinc (pc := 45) (k := 2) (v := x45) (lv' := [(3, .int x45), (0, rv G 0), (1, .int a1), (4, .int v4), (5, .int v5)]) hE dX9_fits_45 rfl (by rw [ex45, ki_1]) (by decide) rfl ?_
      refine e_iload (pc := 48) hE 3 rfl dX9_fits_48 ?_
      refine e_bipush (pc := 50) (v := -9) hE kb_m9 dX9_fits_50 ?_
      refine e_icmp_ne (pc := 52) hE 60 dX9_fits_52 (by decide) (fun c0 => ?_) (fun c0 => ?_)
      · have h := h.1 c0
        refine e_iload (pc := 60) hE 3 rfl dX9_fits_60 ?_
        refine e_sub hE [1, 2, 0, 4] rfl ?_
        exact w_B_fits_62 hE hR h hKB
      · have h := h.2 c0
        refine e_iload (pc := 55) hE 4 rfl dX9_fits_55 ?_
        refine e_goto (pc := 57) hE 62 dX9_fits_57 (by decide) ?_
        refine e_sub hE [1, 2, 0, 4] rfl ?_
        exact w_B_fits_62 hE hR h hKB
set_option maxHeartbeats 4000000 in
set_option maxRecDepth 20000 in
theorem w_lp_B_fits_21 {l : Launch} {G : Gs} {d : Nat} {E : EE} {a1 : Int32} {Q : Int32 → Mm → Prop} (hE : Mach l G RX9 cX9_fits 6 (d + 6) E) (hR : RtI cX9_fits E Q)    {n : Nat} {v3 : Int32} {v4 : Int32} {v5 : Int32} {M : Mm} (h : lp_B_fits_21 a1 Q n v3 v4 v5 M)  : E 21 [(0, rv G 0), (1, .int a1), (3, .int v3), (4, .int v4), (5, .int v5)] [] M := by
  have key : ∀ (n : Nat) (v3 : Int32) (v4 : Int32) (v5 : Int32) (M : Mm), lp_B_fits_21 a1 Q n v3 v4 v5 M → E 21 [(0, rv G 0), (1, .int a1), (3, .int v3), (4, .int v4), (5, .int v5)] [] M := by
    intro n
    induction n with
    | zero => intro v3 v4 v5 M h; exact h.elim
    | succ n ih => intro v3 v4 v5 M h; exact w_B_fits_21 hE hR  (show k_B_fits_21 a1 Q (lp_B_fits_21 a1 Q n)  v3 v4 v5 M from h) ih 
  exact key n _ _ _ _ h
set_option maxHeartbeats 4000000 in
set_option maxRecDepth 20000 in
theorem t_B_fits {l : Launch} {G : Gs} {d : Nat} {a1 : Int32} {M : Mm} {Q : Int32 → Mm → Prop}  (h : wp_B_fits a1 M Q) : CtI l G (d + 6) yX9_fits cX9_fits 6 (some .int) [rv G 0, .int a1] M Q := by
  refine CtI.mk (by decide) rfl (Nat.le_of_ble_eq_true rfl) (fun E hE hR => ?_)
  show E 0 [(0, rv G 0), (1, .int a1)] [] M
  unfold wp_B_fits at h
  refine e_aload_n (pc := 0) hE rfl 0 rfl dX9_fits_0 ?_
  refine e_iload_n (pc := 1) hE rfl 1 rfl dX9_fits_1 ?_
  refine c_B_armRowRefusal (pc := 2) (d := d + 1 + 4) hE (t_B_armRowRefusal (d := d + 1)  h) tw_838 (Nat.le_of_ble_eq_true rfl) dX9_fits_2 (fun r2 M2 h => ?_)
  refine e_istore_n (pc := 5) (lv' := [(2, .int r2), (0, rv G 0), (1, .int a1)]) hE dX9_fits_5 rfl (by decide) rfl ?_
  refine e_iload_n (pc := 6) hE rfl 0 rfl dX9_fits_6 ?_
  refine e_if_eq (pc := 7) hE 12 dX9_fits_7 (by decide) (fun c0 => ?_) (fun c0 => ?_)
  · have h := h.1 c0
    refine e_iconst (pc := 12) (v := 0) hE ki_0 dX9_fits_12 ?_
    refine e_istore_n (pc := 13) (lv' := [(3, .int (0 : Int32)), (2, .int r2), (0, rv G 0), (1, .int a1)]) hE dX9_fits_13 rfl (by decide) rfl ?_
    refine e_bipush (pc := 14) (v := -9) hE kb_m9 dX9_fits_14 ?_
    refine e_istore (pc := 16) (lv' := [(4, .int (-9 : Int32)), (3, .int (0 : Int32)), (2, .int r2), (0, rv G 0), (1, .int a1)]) hE dX9_fits_16 (by decide) rfl ?_
    refine e_iconst (pc := 18) (v := 0) hE ki_0 dX9_fits_18 ?_
    refine e_istore (pc := 19) (lv' := [(5, .int (0 : Int32)), (4, .int (-9 : Int32)), (3, .int (0 : Int32)), (2, .int r2), (0, rv G 0), (1, .int a1)]) hE dX9_fits_19 (by decide) rfl ?_
    obtain ⟨n, h⟩ := h
    refine e_sub hE [4, 5, 2, 1, 0] rfl ?_
    refine w_lp_B_fits_21 hE hR  h 
  · have h := h.2 c0
    refine e_iload_n (pc := 10) hE rfl 0 rfl dX9_fits_10 ?_
    exact hR dX9_fits_11 h
set_option maxHeartbeats 4000000 in
set_option maxRecDepth 20000 in
theorem w_B_opened_62 {l : Launch} {G : Gs} {d : Nat} {E : EE} {a1 : Int32} {Q : Int32 → Mm → Prop} (hE : Mach l G RX9 cX9_opened 6 (d + 6) E) (hR : RtI cX9_opened E Q)   {KB : Int32 → Int32 → Mm → Prop} {K68 : Int32 → Mm → Prop} {v3 : Int32} {v4 : Int32} {M : Mm} (h : k_B_opened_62 a1 Q KB K68 v3 v4 M) (hKB : ∀ (v3 : Int32) (v4 : Int32)  (M : Mm), KB v3 v4 M → E 18 [(0, rv G 0), (1, .int a1), (3, .int v3), (4, .int v4)] [] M) (hK68 : ∀ (v3 : Int32)  (M : Mm), K68 v3 M → E 68 [(3, .int v3)] [] M) : E 62 [(0, rv G 0), (1, .int a1), (3, .int v3), (4, .int v4)] [] M := by
  unfold k_B_opened_62 at h
  obtain ⟨x62, ex62⟩ : ∃ y : Int32, y = v4 + (1 : Int32) := ⟨_, rfl⟩
  have h := h x62 ex62
  refine e_iinc (pc := 62) (k := 3) (v := x62) (lv' := [(4, .int x62), (0, rv G 0), (1, .int a1), (3, .int v3)]) hE dX9_opened_62 rfl (by rw [ex62, ki_1]) (by decide) rfl ?_
  refine e_goto (pc := 65) hE 18 dX9_opened_65 (by decide) ?_
  refine e_sub hE [1, 2, 3, 0] rfl ?_
  exact hKB _ _ _ h
set_option maxHeartbeats 4000000 in
set_option maxRecDepth 20000 in
theorem w_B_opened_61 {l : Launch} {G : Gs} {d : Nat} {E : EE} {a1 : Int32} {Q : Int32 → Mm → Prop} (hE : Mach l G RX9 cX9_opened 6 (d + 6) E) (hR : RtI cX9_opened E Q)   {KB : Int32 → Int32 → Mm → Prop} {K68 : Int32 → Mm → Prop} {v4 : Int32} {s0 : Int32} {M : Mm} (h : k_B_opened_61 a1 Q KB K68 v4 s0 M) (hKB : ∀ (v3 : Int32) (v4 : Int32)  (M : Mm), KB v3 v4 M → E 18 [(0, rv G 0), (1, .int a1), (3, .int v3), (4, .int v4)] [] M) (hK68 : ∀ (v3 : Int32)  (M : Mm), K68 v3 M → E 68 [(3, .int v3)] [] M) : E 61 [(0, rv G 0), (1, .int a1), (4, .int v4)] [.int s0] M := by
  unfold k_B_opened_61 at h
  refine e_istore_n (pc := 61) (lv' := [(3, .int s0), (0, rv G 0), (1, .int a1), (4, .int v4)]) hE dX9_opened_61 rfl (by decide) rfl ?_
  refine e_sub hE [1, 2, 0, 3] rfl ?_
  exact w_B_opened_62 hE hR h hKB hK68
set_option maxHeartbeats 4000000 in
set_option maxRecDepth 20000 in
theorem w_B_opened_18 {l : Launch} {G : Gs} {d : Nat} {E : EE} {a1 : Int32} {Q : Int32 → Mm → Prop} (hE : Mach l G RX9 cX9_opened 6 (d + 6) E) (hR : RtI cX9_opened E Q)   {KB : Int32 → Int32 → Mm → Prop} {K68 : Int32 → Mm → Prop} {v3 : Int32} {v4 : Int32} {M : Mm} (h : k_B_opened_18 a1 Q KB K68 v3 v4 M) (hKB : ∀ (v3 : Int32) (v4 : Int32)  (M : Mm), KB v3 v4 M → E 18 [(0, rv G 0), (1, .int a1), (3, .int v3), (4, .int v4)] [] M) (hK68 : ∀ (v3 : Int32)  (M : Mm), K68 v3 M → E 68 [(3, .int v3)] [] M) : E 18 [(0, rv G 0), (1, .int a1), (3, .int v3), (4, .int v4)] [] M := by
  unfold k_B_opened_18 at h
  refine e_iload (pc := 18) hE 3 rfl dX9_opened_18 ?_
  refine e_aload_n (pc := 20) hE rfl 0 rfl dX9_opened_20 ?_
  refine g_RB_chart (pc := 21) hE tw_352 dX9_opened_21 ?_
  refine c_Ch_sets (pc := 24) (d := d + 5 + 0) hE (t_Ch_sets (d := d + 5) ch20 h) (ch_kd ch20) tw_756 (Nat.le_of_ble_eq_true rfl) dX9_opened_24 (fun r24 M24 h => ?_)
  refine e_icmp_ge (pc := 27) hE 68 dX9_opened_27 (by decide) (fun c0 => ?_) (fun c0 => ?_)
  · have h := h.1 c0
    refine e_sub hE [2] rfl ?_
    exact hK68 _ _ h
  · have h := h.2 c0
    refine e_aload_n (pc := 30) hE rfl 0 rfl dX9_opened_30 ?_
    refine e_iload (pc := 31) hE 3 rfl dX9_opened_31 ?_
    refine e_iload_n (pc := 33) hE rfl 1 rfl dX9_opened_33 ?_
    refine c_B_stampedToFit (pc := 34) (d := d + 5) hE (t_B_stampedToFit (d := d)  h) tw_842 (Nat.le_of_ble_eq_true rfl) dX9_opened_34 (fun r34 M34 h => ?_)
    refine e_istore (pc := 37) (lv' := [(5, .int r34), (0, rv G 0), (1, .int a1), (3, .int v3), (4, .int v4)]) hE dX9_opened_37 (by decide) rfl ?_
    refine e_iload (pc := 39) hE 0 rfl dX9_opened_39 ?_
    refine e_bipush (pc := 41) (v := -9) hE kb_m9 dX9_opened_41 ?_
    refine e_icmp_eq (pc := 43) hE 62 dX9_opened_43 (by decide) (fun c0 => ?_) (fun c0 => ?_)
    · have h := h.1 c0
      refine e_sub hE [1, 2, 3, 4] rfl ?_
      exact w_B_opened_62 hE hR h hKB hK68
    · have h := h.2 c0
      refine e_iload_n (pc := 46) hE rfl 3 rfl dX9_opened_46 ?_
      refine e_bipush (pc := 47) (v := -9) hE kb_m9 dX9_opened_47 ?_
      refine e_icmp_ne (pc := 49) hE 57 dX9_opened_49 (by decide) (fun c0 => ?_) (fun c0 => ?_)
      · have h := h.1 c0
        refine e_iload_n (pc := 57) hE rfl 3 rfl dX9_opened_57 ?_
        refine e_iload (pc := 58) hE 0 rfl dX9_opened_58 ?_
        refine e_iand (pc := 60) hE dX9_opened_60 ?_
        refine e_sub hE [1, 2, 4] rfl ?_
        exact w_B_opened_61 hE hR h hKB hK68
      · have h := h.2 c0
        refine e_iload (pc := 52) hE 0 rfl dX9_opened_52 ?_
        refine e_goto (pc := 54) hE 61 dX9_opened_54 (by decide) ?_
        refine e_sub hE [1, 2, 4] rfl ?_
        exact w_B_opened_61 hE hR h hKB hK68
set_option maxHeartbeats 4000000 in
set_option maxRecDepth 20000 in
theorem w_lp_B_opened_18 {l : Launch} {G : Gs} {d : Nat} {E : EE} {a1 : Int32} {Q : Int32 → Mm → Prop} (hE : Mach l G RX9 cX9_opened 6 (d + 6) E) (hR : RtI cX9_opened E Q)   {K68 : Int32 → Mm → Prop} {n : Nat} {v3 : Int32} {v4 : Int32} {M : Mm} (h : lp_B_opened_18 a1 Q K68 n v3 v4 M) (hK68 : ∀ (v3 : Int32)  (M : Mm), K68 v3 M → E 68 [(3, .int v3)] [] M) : E 18 [(0, rv G 0), (1, .int a1), (3, .int v3), (4, .int v4)] [] M := by
  have key : ∀ (n : Nat) (v3 : Int32) (v4 : Int32) (M : Mm), lp_B_opened_18 a1 Q K68 n v3 v4 M → E 18 [(0, rv G 0), (1, .int a1), (3, .int v3), (4, .int v4)] [] M := by
    intro n
    induction n with
    | zero => intro v3 v4 M h; exact h.elim
    | succ n ih => intro v3 v4 M h; exact w_B_opened_18 hE hR  (show k_B_opened_18 a1 Q (lp_B_opened_18 a1 Q K68 n) K68 v3 v4 M from h) ih hK68
  exact key n _ _ _ h
set_option maxHeartbeats 4000000 in
set_option maxRecDepth 20000 in
theorem t_B_opened {l : Launch} {G : Gs} {d : Nat} {a1 : Int32} {M : Mm} {Q : Int32 → Mm → Prop}  (h : wp_B_opened a1 M Q) : CtI l G (d + 6) yX9_opened cX9_opened 6 (some .int) [rv G 0, .int a1] M Q := by
  refine CtI.mk (by decide) rfl (Nat.le_of_ble_eq_true rfl) (fun E hE hR => ?_)
  show E 0 [(0, rv G 0), (1, .int a1)] [] M
  unfold wp_B_opened at h
  refine e_aload_n (pc := 0) hE rfl 0 rfl dX9_opened_0 ?_
  refine e_iload_n (pc := 1) hE rfl 1 rfl dX9_opened_1 ?_
  refine c_B_armRowRefusal (pc := 2) (d := d + 1 + 4) hE (t_B_armRowRefusal (d := d + 1)  h) tw_838 (Nat.le_of_ble_eq_true rfl) dX9_opened_2 (fun r2 M2 h => ?_)
  refine e_istore_n (pc := 5) (lv' := [(2, .int r2), (0, rv G 0), (1, .int a1)]) hE dX9_opened_5 rfl (by decide) rfl ?_
  refine e_iload_n (pc := 6) hE rfl 0 rfl dX9_opened_6 ?_
  refine e_if_eq (pc := 7) hE 12 dX9_opened_7 (by decide) (fun c0 => ?_) (fun c0 => ?_)
  · have h := h.1 c0
    refine e_bipush (pc := 12) (v := -9) hE kb_m9 dX9_opened_12 ?_
    refine e_istore_n (pc := 14) (lv' := [(3, .int (-9 : Int32)), (2, .int r2), (0, rv G 0), (1, .int a1)]) hE dX9_opened_14 rfl (by decide) rfl ?_
    refine e_iconst (pc := 15) (v := 0) hE ki_0 dX9_opened_15 ?_
    refine e_istore (pc := 16) (lv' := [(4, .int (0 : Int32)), (3, .int (-9 : Int32)), (2, .int r2), (0, rv G 0), (1, .int a1)]) hE dX9_opened_16 (by decide) rfl ?_
    obtain ⟨n, h⟩ := h
    refine e_sub hE [3, 4, 1, 0] rfl ?_
    refine w_lp_B_opened_18 hE hR  h (fun v3 M h => ?_)
    refine e_iload_n (pc := 68) hE rfl 0 rfl dX9_opened_68 ?_
    refine e_bipush (pc := 69) (v := -9) hE kb_m9 dX9_opened_69 ?_
    refine e_icmp_ne (pc := 71) hE 78 dX9_opened_71 (by decide) (fun c0 => ?_) (fun c0 => ?_)
    · have h := h.1 c0
      refine e_iload_n (pc := 78) hE rfl 0 rfl dX9_opened_78 ?_
      exact hR dX9_opened_79 h
    · have h := h.2 c0
      refine e_iconst (pc := 74) (v := 0) hE ki_0 dX9_opened_74 ?_
      refine e_goto (pc := 75) hE 79 dX9_opened_75 (by decide) ?_
      exact hR dX9_opened_79 h
  · have h := h.2 c0
    refine e_iload_n (pc := 10) hE rfl 0 rfl dX9_opened_10 ?_
    exact hR dX9_opened_11 h
set_option maxHeartbeats 4000000 in
set_option maxRecDepth 20000 in
theorem t_B_settle {l : Launch} {G : Gs} {d : Nat} {a1 : Int32} {M : Mm} {Q : Int32 → Mm → Prop}  (h : wp_B_settle a1 M Q) : CtI l G (d + 5) yX9_settle cX9_settle 3 (some .int) [rv G 0, .int a1] M Q := by
  refine CtI.mk (by decide) rfl (Nat.le_of_ble_eq_true rfl) (fun E hE hR => ?_)
  show E 0 [(0, rv G 0), (1, .int a1)] [] M
  unfold wp_B_settle at h
  refine e_aload_n (pc := 0) hE rfl 0 rfl dX9_settle_0 ?_
  refine e_iload_n (pc := 1) hE rfl 1 rfl dX9_settle_1 ?_
  refine c_B_armRowRefusal (pc := 2) (d := d + 4) hE (t_B_armRowRefusal (d := d)  h) tw_838 (Nat.le_of_ble_eq_true rfl) dX9_settle_2 (fun r2 M2 h => ?_)
  refine e_istore_n (pc := 5) (lv' := [(2, .int r2), (0, rv G 0), (1, .int a1)]) hE dX9_settle_5 rfl (by decide) rfl ?_
  refine e_iload_n (pc := 6) hE rfl 0 rfl dX9_settle_6 ?_
  refine e_if_eq (pc := 7) hE 12 dX9_settle_7 (by decide) (fun c0 => ?_) (fun c0 => ?_)
  · have h := h.1 c0
    refine e_aload_n (pc := 12) hE rfl 1 rfl dX9_settle_12 ?_
    refine g_RB_rows (pc := 13) hE tw_350 dX9_settle_13 ?_
    refine e_iload_n (pc := 16) hE rfl 2 rfl dX9_settle_16 ?_
    refine c_Sh_sumOf (pc := 17) (d := d + 2 + 2) hE (t_Sh_sumOf (d := d + 2) sh4 h) (sh_kd sh4) tw_480 (Nat.le_of_ble_eq_true rfl) dX9_settle_17 (fun r17 M17 h => ?_)
    refine e_lconst (pc := 20) (v := 0) hE kl_0 dX9_settle_20 ?_
    refine e_lcmp (pc := 21) hE dX9_settle_21 ?_
    refine e_if_eq (pc := 22) hE 31 dX9_settle_22 (by decide) (fun c0 => ?_) (fun c0 => ?_)
    · have h := h.1 c0
      refine e_aload_n (pc := 31) hE rfl 1 rfl dX9_settle_31 ?_
      refine g_RB_debts (pc := 32) hE tw_359 dX9_settle_32 ?_
      refine e_aload_n (pc := 35) hE rfl 1 rfl dX9_settle_35 ?_
      refine g_RB_rows (pc := 36) hE tw_350 dX9_settle_36 ?_
      refine e_iload_n (pc := 39) hE rfl 2 rfl dX9_settle_39 ?_
      refine c_De_fewestPayments (pc := 40) (d := d + 1 + 3) hE (t_De_fewestPayments (d := d + 1) sh4 h) tw_854 (Nat.le_of_ble_eq_true rfl) dX9_settle_40 (fun r40 M40 h => ?_)
      exact hR dX9_settle_43 h
    · have h := h.2 c0
      refine e_aload_n (pc := 25) hE rfl 1 rfl dX9_settle_25 ?_
      refine e_iconst (pc := 26) (v := 4) hE ki_4 dX9_settle_26 ?_
      refine c_B_answerFinding (pc := 27) (d := d + 4 + 0) hE (t_B_answerFinding (d := d + 4)  h) tw_411 (Nat.le_of_ble_eq_true rfl) dX9_settle_27 (fun r27 M27 h => ?_)
      exact hR dX9_settle_30 h
  · have h := h.2 c0
    refine e_iload_n (pc := 10) hE rfl 0 rfl dX9_settle_10 ?_
    exact hR dX9_settle_11 h
set_option maxHeartbeats 4000000 in
set_option maxRecDepth 20000 in
theorem t_B_stalled {l : Launch} {G : Gs} {d : Nat}  {M : Mm} {Q : Int32 → Mm → Prop}  (h : wp_B_stalled  M Q) : CtI l G (d + 2) yX9_stalled cX9_stalled 1 (some .int) [rv G 0] M Q := by
  refine CtI.mk (by decide) rfl (Nat.le_of_ble_eq_true rfl) (fun E hE hR => ?_)
  show E 0 [(0, rv G 0)] [] M
  unfold wp_B_stalled at h
  refine e_aload_n (pc := 0) hE rfl 0 rfl dX9_stalled_0 ?_
  refine e_aload_n (pc := 1) hE rfl 0 rfl dX9_stalled_1 ?_
  refine g_RB_chart (pc := 2) hE tw_352 dX9_stalled_2 ?_
  refine c_Ch_countWaits (pc := 5) (d := d + 1) hE (t_Ch_countWaits (d := d) ch20 h) (ch_kd ch20) tw_872 (Nat.le_of_ble_eq_true rfl) dX9_stalled_5 (fun r5 M5 h => ?_)
  refine p_RB_told (pc := 8) hE tw_363 dX9_stalled_8 ?_
  refine e_aload_n (pc := 11) hE rfl 0 rfl dX9_stalled_11 ?_
  refine g_RB_offices (pc := 12) hE tw_360 dX9_stalled_12 ?_
  refine c_Of_waitingForThemselves (pc := 15) (d := d + 1) hE (t_Of_waitingForThemselves (d := d)  h) tw_876 (Nat.le_of_ble_eq_true rfl) dX9_stalled_15 (fun r15 M15 h => ?_)
  exact hR dX9_stalled_18 h
set_option maxHeartbeats 4000000 in
set_option maxRecDepth 20000 in
theorem w_B_loosen_78 {l : Launch} {G : Gs} {d : Nat} {E : EE} {a1 : Int32} {Q : Int32 → Mm → Prop} (hE : Mach l G RX9 cX9_loosen 7 (d + 3) E) (hR : RtI cX9_loosen E Q)   {KB : Int64 → Int32 → Int32 → Int32 → Mm → Prop} {v2 : Int64} {v4 : Int32} {v5 : Int32} {v6 : Int32} {M : Mm} (h : k_B_loosen_78 a1 Q KB v2 v4 v5 v6 M) (hKB : ∀ (v2 : Int64) (v4 : Int32) (v5 : Int32) (v6 : Int32)  (M : Mm), KB v2 v4 v5 v6 M → E 44 [(0, rv G 0), (1, .int a1), (2, .long v2), (4, .int v4), (5, .int v5), (6, .int v6)] [] M) : E 78 [(0, rv G 0), (1, .int a1), (2, .long v2), (4, .int v4), (5, .int v5), (6, .int v6)] [] M := by
  unfold k_B_loosen_78 at h
  obtain ⟨x78, ex78⟩ : ∃ y : Int32, y = v6 + (1 : Int32) := ⟨_, rfl⟩
  have h := h x78 ex78
  refine e_iinc (pc := 78) (k := 5) (v := x78) (lv' := [(6, .int x78), (0, rv G 0), (1, .int a1), (2, .long v2), (4, .int v4), (5, .int v5)]) hE dX9_loosen_78 rfl (by rw [ex78, ki_1]) (by decide) rfl ?_
  refine e_goto (pc := 81) hE 44 dX9_loosen_81 (by decide) ?_
  refine e_sub hE [1, 2, 3, 4, 5, 0] rfl ?_
  exact hKB _ _ _ _ _ h
set_option maxHeartbeats 4000000 in
set_option maxRecDepth 20000 in
theorem w_B_loosen_44 {l : Launch} {G : Gs} {d : Nat} {E : EE} {a1 : Int32} {Q : Int32 → Mm → Prop} (hE : Mach l G RX9 cX9_loosen 7 (d + 3) E) (hR : RtI cX9_loosen E Q)   {KB : Int64 → Int32 → Int32 → Int32 → Mm → Prop} {v2 : Int64} {v4 : Int32} {v5 : Int32} {v6 : Int32} {M : Mm} (h : k_B_loosen_44 a1 Q KB v2 v4 v5 v6 M) (hKB : ∀ (v2 : Int64) (v4 : Int32) (v5 : Int32) (v6 : Int32)  (M : Mm), KB v2 v4 v5 v6 M → E 44 [(0, rv G 0), (1, .int a1), (2, .long v2), (4, .int v4), (5, .int v5), (6, .int v6)] [] M) : E 44 [(0, rv G 0), (1, .int a1), (2, .long v2), (4, .int v4), (5, .int v5), (6, .int v6)] [] M := by
  unfold k_B_loosen_44 at h
  refine e_iload (pc := 44) hE 5 rfl dX9_loosen_44 ?_
  refine e_bipush (pc := 46) (v := 39) hE kb_39 dX9_loosen_46 ?_
  refine e_icmp_gt (pc := 48) hE 84 dX9_loosen_48 (by decide) (fun c0 => ?_) (fun c0 => ?_)
  · have h := h.1 c0
    refine e_iload (pc := 84) hE 3 rfl dX9_loosen_84 ?_
    exact hR dX9_loosen_86 h
  · have h := h.2 c0
    refine e_lload_n (pc := 51) hE rfl 2 rfl dX9_loosen_51 ?_
    refine e_iload (pc := 52) hE 5 rfl dX9_loosen_52 ?_
    refine c_Of_bitOf (pc := 54) (d := d + 2 + 0) hE (t_Of_bitOf (d := d + 2)  h) tw_908 (Nat.le_of_ble_eq_true rfl) dX9_loosen_54 (fun r54 M54 h => ?_)
    refine e_land (pc := 57) hE dX9_loosen_57 ?_
    refine e_lconst (pc := 58) (v := 0) hE kl_0 dX9_loosen_58 ?_
    refine e_lcmp (pc := 59) hE dX9_loosen_59 ?_
    refine e_if_eq (pc := 60) hE 78 dX9_loosen_60 (by decide) (fun c0 => ?_) (fun c0 => ?_)
    · have h := h.1 c0
      exact w_B_loosen_78 hE hR h hKB
    · have h := h.2 c0
      refine e_aload_n (pc := 63) hE rfl 0 rfl dX9_loosen_63 ?_
      refine g_RB_rows (pc := 64) hE tw_350 dX9_loosen_64 ?_
      refine e_iload_n (pc := 67) hE rfl 1 rfl dX9_loosen_67 ?_
      refine e_iload (pc := 68) hE 4 rfl dX9_loosen_68 ?_
      refine e_iload (pc := 70) hE 5 rfl dX9_loosen_70 ?_
      refine c_Sh_setValue (pc := 72) (d := d + 2) hE (t_Sh_setValue (d := d) sh4 h) (sh_kd sh4) tw_445 (Nat.le_of_ble_eq_true rfl) dX9_loosen_72 (fun M72 h => ?_)
      obtain ⟨x75, ex75⟩ : ∃ y : Int32, y = v5 + (1 : Int32) := ⟨_, rfl⟩
      have h := h x75 ex75
      refine e_iinc (pc := 75) (k := 4) (v := x75) (lv' := [(5, .int x75), (0, rv G 0), (1, .int a1), (2, .long v2), (4, .int v4), (6, .int v6)]) hE dX9_loosen_75 rfl (by rw [ex75, ki_1]) (by decide) rfl ?_
      refine e_sub hE [1, 2, 3, 4, 0, 5] rfl ?_
      exact w_B_loosen_78 hE hR h hKB
set_option maxHeartbeats 4000000 in
set_option maxRecDepth 20000 in
theorem w_lp_B_loosen_44 {l : Launch} {G : Gs} {d : Nat} {E : EE} {a1 : Int32} {Q : Int32 → Mm → Prop} (hE : Mach l G RX9 cX9_loosen 7 (d + 3) E) (hR : RtI cX9_loosen E Q)    {n : Nat} {v2 : Int64} {v4 : Int32} {v5 : Int32} {v6 : Int32} {M : Mm} (h : lp_B_loosen_44 a1 Q n v2 v4 v5 v6 M)  : E 44 [(0, rv G 0), (1, .int a1), (2, .long v2), (4, .int v4), (5, .int v5), (6, .int v6)] [] M := by
  have key : ∀ (n : Nat) (v2 : Int64) (v4 : Int32) (v5 : Int32) (v6 : Int32) (M : Mm), lp_B_loosen_44 a1 Q n v2 v4 v5 v6 M → E 44 [(0, rv G 0), (1, .int a1), (2, .long v2), (4, .int v4), (5, .int v5), (6, .int v6)] [] M := by
    intro n
    induction n with
    | zero => intro v2 v4 v5 v6 M h; exact h.elim
    | succ n ih => intro v2 v4 v5 v6 M h; exact w_B_loosen_44 hE hR  (show k_B_loosen_44 a1 Q (lp_B_loosen_44 a1 Q n)  v2 v4 v5 v6 M from h) ih 
  exact key n _ _ _ _ _ h
set_option maxHeartbeats 4000000 in
set_option maxRecDepth 20000 in
theorem t_B_loosen {l : Launch} {G : Gs} {d : Nat} {a1 : Int32} {M : Mm} {Q : Int32 → Mm → Prop}  (h : wp_B_loosen a1 M Q) : CtI l G (d + 3) yX9_loosen cX9_loosen 7 (some .int) [rv G 0, .int a1] M Q := by
  refine CtI.mk (by decide) rfl (Nat.le_of_ble_eq_true rfl) (fun E hE hR => ?_)
  show E 0 [(0, rv G 0), (1, .int a1)] [] M
  unfold wp_B_loosen at h
  refine e_aload_n (pc := 0) hE rfl 0 rfl dX9_loosen_0 ?_
  refine g_RB_rows (pc := 1) hE tw_350 dX9_loosen_1 ?_
  refine e_iload_n (pc := 4) hE rfl 1 rfl dX9_loosen_4 ?_
  refine c_Sh_knows (pc := 5) (d := d + 2 + 0) hE (t_Sh_knows (d := d + 2) sh4 h) (sh_kd sh4) tw_407 (Nat.le_of_ble_eq_true rfl) dX9_loosen_5 (fun r5 M5 h => ?_)
  refine e_if_ne (pc := 8) hE 13 dX9_loosen_8 (by decide) (fun c0 => ?_) (fun c0 => ?_)
  · have h := h.1 c0
    refine e_aload_n (pc := 13) hE rfl 0 rfl dX9_loosen_13 ?_
    refine g_RB_offices (pc := 14) hE tw_360 dX9_loosen_14 ?_
    refine c_Of_fewestToLoosen (pc := 17) (d := d + 2) hE (t_Of_fewestToLoosen (d := d)  h) tw_886 (Nat.le_of_ble_eq_true rfl) dX9_loosen_17 (fun r17 M17 h => ?_)
    refine e_lstore_n (pc := 20) (lv' := [(2, .long r17), (0, rv G 0), (1, .int a1)]) hE dX9_loosen_20 rfl (by decide) rfl ?_
    refine e_lload_n (pc := 21) hE rfl 0 rfl dX9_loosen_21 ?_
    refine c_JL_bitCount (pc := 22) (d := d + 2 + 0) hE (t_JL_bitCount (d := d + 2)  h) tw_907 (Nat.le_of_ble_eq_true rfl) dX9_loosen_22 (fun r22 M22 h => ?_)
    refine e_istore (pc := 25) (lv' := [(4, .int r22), (2, .long r17), (0, rv G 0), (1, .int a1)]) hE dX9_loosen_25 (by decide) rfl ?_
    refine e_aload_n (pc := 27) hE rfl 2 rfl dX9_loosen_27 ?_
    refine g_RB_rows (pc := 28) hE tw_350 dX9_loosen_28 ?_
    refine e_iload_n (pc := 31) hE rfl 3 rfl dX9_loosen_31 ?_
    refine e_iload (pc := 32) hE 0 rfl dX9_loosen_32 ?_
    refine e_iconst (pc := 34) (v := 0) hE ki_0 dX9_loosen_34 ?_
    refine c_Sh_make (pc := 35) (d := d + 1 + 1) hE (t_Sh_make (d := d + 1) sh4 h) (sh_kd sh4) tw_415 (Nat.le_of_ble_eq_true rfl) dX9_loosen_35 (fun M35 h => ?_)
    refine e_iconst (pc := 38) (v := 0) hE ki_0 dX9_loosen_38 ?_
    refine e_istore (pc := 39) (lv' := [(5, .int (0 : Int32)), (4, .int r22), (2, .long r17), (0, rv G 0), (1, .int a1)]) hE dX9_loosen_39 (by decide) rfl ?_
    refine e_iconst (pc := 41) (v := 0) hE ki_0 dX9_loosen_41 ?_
    refine e_istore (pc := 42) (lv' := [(6, .int (0 : Int32)), (5, .int (0 : Int32)), (4, .int r22), (2, .long r17), (0, rv G 0), (1, .int a1)]) hE dX9_loosen_42 (by decide) rfl ?_
    obtain ⟨n, h⟩ := h
    refine e_sub hE [4, 5, 3, 2, 1, 0] rfl ?_
    refine w_lp_B_loosen_44 hE hR  h 
  · have h := h.2 c0
    refine e_iconst (pc := 11) (v := -1) hE ki_m1 dX9_loosen_11 ?_
    exact hR dX9_loosen_12 h
set_option maxHeartbeats 4000000 in
set_option maxRecDepth 20000 in
theorem w_B_eels_45 {l : Launch} {G : Gs} {d : Nat} {E : EE} {a1 : Int32} {a2 : Int32} {Q : Int32 → Mm → Prop} (hE : Mach l G RX9 cX9_eels 6 (d + 1) E) (hR : RtI cX9_eels E Q)   {KB : Int32 → Int32 → Int32 → Mm → Prop} {v3 : Int32} {v4 : Int32} {v5 : Int32} {M : Mm} (h : k_B_eels_45 a1 a2 Q KB v3 v4 v5 M) (hKB : ∀ (v3 : Int32) (v4 : Int32) (v5 : Int32)  (M : Mm), KB v3 v4 v5 M → E 45 [(0, rv G 0), (3, .int v3), (4, .int v4), (5, .int v5)] [] M) : E 45 [(0, rv G 0), (3, .int v3), (4, .int v4), (5, .int v5)] [] M := by
  unfold k_B_eels_45 at h
  refine e_iload (pc := 45) hE 3 rfl dX9_eels_45 ?_
  refine e_iload (pc := 47) hE 2 rfl dX9_eels_47 ?_
  refine e_icmp_gt (pc := 49) hE 79 dX9_eels_49 (by decide) (fun c0 => ?_) (fun c0 => ?_)
  · have h := h.1 c0
    refine e_iload (pc := 79) hE 2 rfl dX9_eels_79 ?_
    refine e_iload_n (pc := 81) hE rfl 1 rfl dX9_eels_81 ?_
    refine e_isub (pc := 82) hE dX9_eels_82 ?_
    refine e_iconst (pc := 83) (v := 1) hE ki_1 dX9_eels_83 ?_
    refine e_isub (pc := 84) hE dX9_eels_84 ?_
    exact hR dX9_eels_85 h
  · have h := h.2 c0
    refine e_aload_n (pc := 52) hE rfl 0 rfl dX9_eels_52 ?_
    refine g_RB_story (pc := 53) hE tw_355 dX9_eels_53 ?_
    refine g_Story_present (pc := 56) hE (st_kd st60) tw_247 dX9_eels_56 ?_
    refine g_Flow_open (pc := 59) hE kd_61 tw_221 dX9_eels_59 ?_
    refine e_iload (pc := 62) hE 3 rfl dX9_eels_62 ?_
    refine c_B_hasBit (pc := 64) (d := d + 0) hE (t_B_hasBit (d := d)  h) tw_713 (Nat.le_of_ble_eq_true rfl) dX9_eels_64 (fun r64 M64 h => ?_)
    refine e_if_ne (pc := 67) hE 73 dX9_eels_67 (by decide) (fun c0 => ?_) (fun c0 => ?_)
    · have h := h.1 c0
      obtain ⟨x73, ex73⟩ : ∃ y : Int32, y = v5 + (1 : Int32) := ⟨_, rfl⟩
      have h := h x73 ex73
      refine e_iinc (pc := 73) (k := 3) (v := x73) (lv' := [(5, .int x73), (0, rv G 0), (3, .int v3), (4, .int v4)]) hE dX9_eels_73 rfl (by rw [ex73, ki_1]) (by decide) rfl ?_
      refine e_goto (pc := 76) hE 45 dX9_eels_76 (by decide) ?_
      refine e_sub hE [1, 2, 3, 0] rfl ?_
      exact hKB _ _ _ _ h
    · have h := h.2 c0
      refine e_bipush (pc := 70) (v := -9) hE kb_m9 dX9_eels_70 ?_
      exact hR dX9_eels_72 h
set_option maxHeartbeats 4000000 in
set_option maxRecDepth 20000 in
theorem w_lp_B_eels_45 {l : Launch} {G : Gs} {d : Nat} {E : EE} {a1 : Int32} {a2 : Int32} {Q : Int32 → Mm → Prop} (hE : Mach l G RX9 cX9_eels 6 (d + 1) E) (hR : RtI cX9_eels E Q)    {n : Nat} {v3 : Int32} {v4 : Int32} {v5 : Int32} {M : Mm} (h : lp_B_eels_45 a1 a2 Q n v3 v4 v5 M)  : E 45 [(0, rv G 0), (3, .int v3), (4, .int v4), (5, .int v5)] [] M := by
  have key : ∀ (n : Nat) (v3 : Int32) (v4 : Int32) (v5 : Int32) (M : Mm), lp_B_eels_45 a1 a2 Q n v3 v4 v5 M → E 45 [(0, rv G 0), (3, .int v3), (4, .int v4), (5, .int v5)] [] M := by
    intro n
    induction n with
    | zero => intro v3 v4 v5 M h; exact h.elim
    | succ n ih => intro v3 v4 v5 M h; exact w_B_eels_45 hE hR  (show k_B_eels_45 a1 a2 Q (lp_B_eels_45 a1 a2 Q n)  v3 v4 v5 M from h) ih 
  exact key n _ _ _ _ h
set_option maxHeartbeats 4000000 in
set_option maxRecDepth 20000 in
theorem t_B_eels {l : Launch} {G : Gs} {d : Nat} {a1 : Int32} {a2 : Int32} {M : Mm} {Q : Int32 → Mm → Prop}  (h : wp_B_eels a1 a2 M Q) : CtI l G (d + 1) yX9_eels cX9_eels 6 (some .int) [rv G 0, .int a1, .int a2] M Q := by
  refine CtI.mk (by decide) rfl (Nat.le_of_ble_eq_true rfl) (fun E hE hR => ?_)
  show E 0 [(0, rv G 0), (1, .int a1), (2, .int a2)] [] M
  unfold wp_B_eels at h
  refine e_aload_n (pc := 0) hE rfl 0 rfl dX9_eels_0 ?_
  refine g_RB_chart (pc := 1) hE tw_352 dX9_eels_1 ?_
  refine e_iload_n (pc := 4) hE rfl 1 rfl dX9_eels_4 ?_
  refine c_Ch_hasArm (pc := 5) (d := d + 0) hE (t_Ch_hasArm (d := d) ch20 h) (ch_kd ch20) tw_578 (Nat.le_of_ble_eq_true rfl) dX9_eels_5 (fun r5 M5 h => ?_)
  refine e_if_eq (pc := 8) hE 27 dX9_eels_8 (by decide) (fun c0 => ?_) (fun c0 => ?_)
  · have h := h.1 c0
    refine e_iconst (pc := 27) (v := -1) hE ki_m1 dX9_eels_27 ?_
    exact hR dX9_eels_28 h
  · have h := h.2 c0
    refine e_aload_n (pc := 11) hE rfl 0 rfl dX9_eels_11 ?_
    refine g_RB_chart (pc := 12) hE tw_352 dX9_eels_12 ?_
    refine e_iload_n (pc := 15) hE rfl 2 rfl dX9_eels_15 ?_
    refine c_Ch_hasArm (pc := 16) (d := d + 0) hE (t_Ch_hasArm (d := d) ch20 h) (ch_kd ch20) tw_578 (Nat.le_of_ble_eq_true rfl) dX9_eels_16 (fun r16 M16 h => ?_)
    refine e_if_eq (pc := 19) hE 27 dX9_eels_19 (by decide) (fun c0 => ?_) (fun c0 => ?_)
    · have h := h.1 c0
      refine e_iconst (pc := 27) (v := -1) hE ki_m1 dX9_eels_27 ?_
      exact hR dX9_eels_28 h
    · have h := h.2 c0
      refine e_iload_n (pc := 22) hE rfl 1 rfl dX9_eels_22 ?_
      refine e_iload_n (pc := 23) hE rfl 2 rfl dX9_eels_23 ?_
      refine e_icmp_ne (pc := 24) hE 29 dX9_eels_24 (by decide) (fun c0 => ?_) (fun c0 => ?_)
      · have h := h.1 c0
        refine e_iload_n (pc := 29) hE rfl 1 rfl dX9_eels_29 ?_
        refine e_iload_n (pc := 30) hE rfl 2 rfl dX9_eels_30 ?_
        refine e_mmin (pc := 31) hE (by omega) tw_913 tw_minS tw_MathI tw_minC (Nat.le_of_ble_eq_true rfl) dX9_eels_31 ?_
        refine e_topi (fun x34 ex34 => ?_)
        have h := h x34 ex34
        refine e_istore_n (pc := 34) (lv' := [(3, .int x34), (0, rv G 0), (1, .int a1), (2, .int a2)]) hE dX9_eels_34 rfl (by decide) rfl ?_
        refine e_iload_n (pc := 35) hE rfl 2 rfl dX9_eels_35 ?_
        refine e_iload_n (pc := 36) hE rfl 3 rfl dX9_eels_36 ?_
        refine e_mmax (pc := 37) hE (by omega) tw_914 tw_maxS tw_MathI tw_maxC (Nat.le_of_ble_eq_true rfl) dX9_eels_37 ?_
        refine e_topi (fun x40 ex40 => ?_)
        have h := h x40 ex40
        refine e_istore (pc := 40) (lv' := [(4, .int x40), (3, .int x34), (0, rv G 0), (1, .int a1), (2, .int a2)]) hE dX9_eels_40 (by decide) rfl ?_
        refine e_iload_n (pc := 42) hE rfl 1 rfl dX9_eels_42 ?_
        refine e_istore (pc := 43) (lv' := [(5, .int x34), (4, .int x40), (3, .int x34), (0, rv G 0), (1, .int a1), (2, .int a2)]) hE dX9_eels_43 (by decide) rfl ?_
        obtain ⟨n, h⟩ := h
        refine e_sub hE [3, 2, 1, 0] rfl ?_
        refine w_lp_B_eels_45 hE hR  h 
      · have h := h.2 c0
        refine e_iconst (pc := 27) (v := -1) hE ki_m1 dX9_eels_27 ?_
        exact hR dX9_eels_28 h
set_option maxHeartbeats 4000000 in
set_option maxRecDepth 20000 in
theorem w_B_tellChances_16 {l : Launch} {G : Gs} {d : Nat} {E : EE} {a1 : Int32} {a2 : Int32} {Q : Mm → Prop} (hE : Mach l G RX9 cX9_tellChances 6 (d + 0) E) (hR : RtV cX9_tellChances E Q)   {KB : Int32 → Int32 → Int32 → Mm → Prop} {K47 : Int32 → Int32 → Mm → Prop} {v3 : Int32} {v4 : Int32} {v5 : Int32} {M : Mm} (h : k_B_tellChances_16 a1 a2 Q KB K47 v3 v4 v5 M) (hKB : ∀ (v3 : Int32) (v4 : Int32) (v5 : Int32)  (M : Mm), KB v3 v4 v5 M → E 16 [(0, rv G 0), (3, .int v3), (4, .int v4), (5, .int v5)] [] M) (hK47 : ∀ (v3 : Int32) (v4 : Int32)  (M : Mm), K47 v3 v4 M → E 47 [(0, rv G 0), (3, .int v3), (4, .int v4)] [] M) : E 16 [(0, rv G 0), (3, .int v3), (4, .int v4), (5, .int v5)] [] M := by
  unfold k_B_tellChances_16 at h
  refine e_iload (pc := 16) hE 3 rfl dX9_tellChances_16 ?_
  refine e_iconst (pc := 18) (v := 5) hE ki_5 dX9_tellChances_18 ?_
  refine e_icmp_ge (pc := 19) hE 47 dX9_tellChances_19 (by decide) (fun c0 => ?_) (fun c0 => ?_)
  · have h := h.1 c0
    refine e_sub hE [0, 1, 2] rfl ?_
    exact hK47 _ _ _ h
  · have h := h.2 c0
    refine e_iload_n (pc := 22) hE rfl 1 rfl dX9_tellChances_22 ?_
    refine e_iload (pc := 23) hE 2 rfl dX9_tellChances_23 ?_
    refine e_ior (pc := 25) hE dX9_tellChances_25 ?_
    refine e_iconst (pc := 26) (v := 2) hE ki_2 dX9_tellChances_26 ?_
    refine e_irem (pc := 27) hE (by decide) dX9_tellChances_27 ?_
    refine e_if_ne (pc := 28) hE 47 dX9_tellChances_28 (by decide) (fun c0 => ?_) (fun c0 => ?_)
    · have h := h.1 c0
      refine e_sub hE [0, 1, 2] rfl ?_
      exact hK47 _ _ _ h
    · have h := h.2 c0
      refine e_iload_n (pc := 31) hE rfl 1 rfl dX9_tellChances_31 ?_
      refine e_iconst (pc := 32) (v := 2) hE ki_2 dX9_tellChances_32 ?_
      refine e_idiv (pc := 33) hE (by decide) dX9_tellChances_33 ?_
      refine e_topi (fun x34 ex34 => ?_)
      have h := h x34 ex34
      refine e_istore_n (pc := 34) (lv' := [(3, .int x34), (0, rv G 0), (4, .int v4), (5, .int v5)]) hE dX9_tellChances_34 rfl (by decide) rfl ?_
      refine e_iload (pc := 35) hE 2 rfl dX9_tellChances_35 ?_
      refine e_iconst (pc := 37) (v := 2) hE ki_2 dX9_tellChances_37 ?_
      refine e_idiv (pc := 38) hE (by decide) dX9_tellChances_38 ?_
      refine e_topi (fun x39 ex39 => ?_)
      have h := h x39 ex39
      refine e_istore (pc := 39) (lv' := [(4, .int x39), (3, .int x34), (0, rv G 0), (5, .int v5)]) hE dX9_tellChances_39 (by decide) rfl ?_
      obtain ⟨x41, ex41⟩ : ∃ y : Int32, y = v5 + (1 : Int32) := ⟨_, rfl⟩
      have h := h x41 ex41
      refine e_iinc (pc := 41) (k := 3) (v := x41) (lv' := [(5, .int x41), (4, .int x39), (3, .int x34), (0, rv G 0)]) hE dX9_tellChances_41 rfl (by rw [ex41, ki_1]) (by decide) rfl ?_
      refine e_goto (pc := 44) hE 16 dX9_tellChances_44 (by decide) ?_
      refine e_sub hE [3, 2, 1, 0] rfl ?_
      exact hKB _ _ _ _ h
set_option maxHeartbeats 4000000 in
set_option maxRecDepth 20000 in
theorem w_lp_B_tellChances_16 {l : Launch} {G : Gs} {d : Nat} {E : EE} {a1 : Int32} {a2 : Int32} {Q : Mm → Prop} (hE : Mach l G RX9 cX9_tellChances 6 (d + 0) E) (hR : RtV cX9_tellChances E Q)   {K47 : Int32 → Int32 → Mm → Prop} {n : Nat} {v3 : Int32} {v4 : Int32} {v5 : Int32} {M : Mm} (h : lp_B_tellChances_16 a1 a2 Q K47 n v3 v4 v5 M) (hK47 : ∀ (v3 : Int32) (v4 : Int32)  (M : Mm), K47 v3 v4 M → E 47 [(0, rv G 0), (3, .int v3), (4, .int v4)] [] M) : E 16 [(0, rv G 0), (3, .int v3), (4, .int v4), (5, .int v5)] [] M := by
  have key : ∀ (n : Nat) (v3 : Int32) (v4 : Int32) (v5 : Int32) (M : Mm), lp_B_tellChances_16 a1 a2 Q K47 n v3 v4 v5 M → E 16 [(0, rv G 0), (3, .int v3), (4, .int v4), (5, .int v5)] [] M := by
    intro n
    induction n with
    | zero => intro v3 v4 v5 M h; exact h.elim
    | succ n ih => intro v3 v4 v5 M h; exact w_B_tellChances_16 hE hR  (show k_B_tellChances_16 a1 a2 Q (lp_B_tellChances_16 a1 a2 Q K47 n) K47 v3 v4 v5 M from h) ih hK47
  exact key n _ _ _ _ h
set_option maxHeartbeats 4000000 in
set_option maxRecDepth 20000 in
theorem w_B_tellChances_47 {l : Launch} {G : Gs} {d : Nat} {E : EE} {a1 : Int32} {a2 : Int32} {Q : Mm → Prop} (hE : Mach l G RX9 cX9_tellChances 6 (d + 0) E) (hR : RtV cX9_tellChances E Q)    {v3 : Int32} {v4 : Int32} {M : Mm} (h : k_B_tellChances_47 a1 a2 Q v3 v4 M)  : E 47 [(0, rv G 0), (3, .int v3), (4, .int v4)] [] M := by
  unfold k_B_tellChances_47 at h
  refine e_aload_n (pc := 47) hE rfl 0 rfl dX9_tellChances_47 ?_
  refine e_iload_n (pc := 48) hE rfl 1 rfl dX9_tellChances_48 ?_
  refine e_i2l (pc := 49) hE dX9_tellChances_49 ?_
  refine e_topl (fun x50 ex50 => ?_)
  have h := h x50 ex50
  refine p_RB_chanceUpper (pc := 50) hE tw_364 dX9_tellChances_50 ?_
  refine e_aload_n (pc := 53) hE rfl 0 rfl dX9_tellChances_53 ?_
  refine e_iload (pc := 54) hE 2 rfl dX9_tellChances_54 ?_
  refine e_i2l (pc := 56) hE dX9_tellChances_56 ?_
  refine e_topl (fun x57 ex57 => ?_)
  have h := h x57 ex57
  refine p_RB_chanceLower (pc := 57) hE tw_365 dX9_tellChances_57 ?_
  exact hR dX9_tellChances_60 h
set_option maxHeartbeats 4000000 in
set_option maxRecDepth 20000 in
theorem w_B_tellChances_11 {l : Launch} {G : Gs} {d : Nat} {E : EE} {a1 : Int32} {a2 : Int32} {Q : Mm → Prop} (hE : Mach l G RX9 cX9_tellChances 6 (d + 0) E) (hR : RtV cX9_tellChances E Q)    {v3 : Int32} {s0 : Int32} {M : Mm} (h : k_B_tellChances_11 a1 a2 Q v3 s0 M)  : E 11 [(0, rv G 0), (3, .int v3)] [.int s0] M := by
  unfold k_B_tellChances_11 at h
  refine e_istore (pc := 11) (lv' := [(4, .int s0), (0, rv G 0), (3, .int v3)]) hE dX9_tellChances_11 (by decide) rfl ?_
  refine e_iconst (pc := 13) (v := 0) hE ki_0 dX9_tellChances_13 ?_
  refine e_istore (pc := 14) (lv' := [(5, .int (0 : Int32)), (4, .int s0), (0, rv G 0), (3, .int v3)]) hE dX9_tellChances_14 (by decide) rfl ?_
  obtain ⟨n, h⟩ := h
  refine e_sub hE [2, 3, 1, 0] rfl ?_
  refine w_lp_B_tellChances_16 hE hR  h (fun v3 v4 M h => ?_)
  exact w_B_tellChances_47 hE hR h
set_option maxHeartbeats 4000000 in
set_option maxRecDepth 20000 in
theorem t_B_tellChances {l : Launch} {G : Gs} {d : Nat} {a1 : Int32} {a2 : Int32} {M : Mm} {Q : Mm → Prop}  (h : wp_B_tellChances a1 a2 M Q) : CtV l G (d + 0) yX9_tellChances cX9_tellChances 6 (none) [rv G 0, .int a1, .int a2] M Q := by
  refine CtV.mk (by decide) rfl (Nat.le_of_ble_eq_true rfl) (fun E hE hR => ?_)
  show E 0 [(0, rv G 0), (1, .int a1), (2, .int a2)] [] M
  unfold wp_B_tellChances at h
  refine e_iload_n (pc := 0) hE rfl 1 rfl dX9_tellChances_0 ?_
  refine e_istore_n (pc := 1) (lv' := [(3, .int a1), (0, rv G 0), (1, .int a1), (2, .int a2)]) hE dX9_tellChances_1 rfl (by decide) rfl ?_
  refine e_iload_n (pc := 2) hE rfl 2 rfl dX9_tellChances_2 ?_
  refine e_if_ne (pc := 3) hE 10 dX9_tellChances_3 (by decide) (fun c0 => ?_) (fun c0 => ?_)
  · have h := h.1 c0
    refine e_iload_n (pc := 10) hE rfl 3 rfl dX9_tellChances_10 ?_
    refine e_sub hE [1, 0] rfl ?_
    exact w_B_tellChances_11 hE hR h
  · have h := h.2 c0
    refine e_iconst (pc := 6) (v := 1) hE ki_1 dX9_tellChances_6 ?_
    refine e_goto (pc := 7) hE 11 dX9_tellChances_7 (by decide) ?_
    refine e_sub hE [1, 0] rfl ?_
    exact w_B_tellChances_11 hE hR h
set_option maxHeartbeats 4000000 in
set_option maxRecDepth 20000 in
theorem w_B_odds_108 {l : Launch} {G : Gs} {d : Nat} {E : EE} {a1 : Int32} {Q : Int32 → Mm → Prop} (hE : Mach l G RX9 cX9_odds 6 (d + 4) E) (hR : RtI cX9_odds E Q)   {KB : Int32 → Int32 → Int32 → Int32 → Mm → Prop} {K114 : Int32 → Int32 → Mm → Prop} {v2 : Int32} {v3 : Int32} {v4 : Int32} {v5 : Int32} {M : Mm} (h : k_B_odds_108 a1 Q KB K114 v2 v3 v4 v5 M) (hKB : ∀ (v2 : Int32) (v3 : Int32) (v4 : Int32) (v5 : Int32)  (M : Mm), KB v2 v3 v4 v5 M → E 36 [(0, rv G 0), (1, .int a1), (2, .int v2), (3, .int v3), (4, .int v4), (5, .int v5)] [] M) (hK114 : ∀ (v3 : Int32) (v4 : Int32)  (M : Mm), K114 v3 v4 M → E 114 [(0, rv G 0), (3, .int v3), (4, .int v4)] [] M) : E 108 [(0, rv G 0), (1, .int a1), (2, .int v2), (3, .int v3), (4, .int v4), (5, .int v5)] [] M := by
  unfold k_B_odds_108 at h
  obtain ⟨x108, ex108⟩ : ∃ y : Int32, y = v5 + (1 : Int32) := ⟨_, rfl⟩
  have h := h x108 ex108
  refine e_iinc (pc := 108) (k := 5) (v := x108) (lv' := [(5, .int x108), (0, rv G 0), (1, .int a1), (2, .int v2), (3, .int v3), (4, .int v4)]) hE dX9_odds_108 rfl (by rw [ex108, ki_1]) (by decide) rfl ?_
  refine e_goto (pc := 111) hE 36 dX9_odds_111 (by decide) ?_
  refine e_sub hE [1, 2, 3, 4, 5, 0] rfl ?_
  exact hKB _ _ _ _ _ h
set_option maxHeartbeats 4000000 in
set_option maxRecDepth 20000 in
theorem w_B_odds_36 {l : Launch} {G : Gs} {d : Nat} {E : EE} {a1 : Int32} {Q : Int32 → Mm → Prop} (hE : Mach l G RX9 cX9_odds 6 (d + 4) E) (hR : RtI cX9_odds E Q)   {KB : Int32 → Int32 → Int32 → Int32 → Mm → Prop} {K114 : Int32 → Int32 → Mm → Prop} {v2 : Int32} {v3 : Int32} {v4 : Int32} {v5 : Int32} {M : Mm} (h : k_B_odds_36 a1 Q KB K114 v2 v3 v4 v5 M) (hKB : ∀ (v2 : Int32) (v3 : Int32) (v4 : Int32) (v5 : Int32)  (M : Mm), KB v2 v3 v4 v5 M → E 36 [(0, rv G 0), (1, .int a1), (2, .int v2), (3, .int v3), (4, .int v4), (5, .int v5)] [] M) (hK114 : ∀ (v3 : Int32) (v4 : Int32)  (M : Mm), K114 v3 v4 M → E 114 [(0, rv G 0), (3, .int v3), (4, .int v4)] [] M) : E 36 [(0, rv G 0), (1, .int a1), (2, .int v2), (3, .int v3), (4, .int v4), (5, .int v5)] [] M := by
  unfold k_B_odds_36 at h
  refine e_iload (pc := 36) hE 5 rfl dX9_odds_36 ?_
  refine e_aload_n (pc := 38) hE rfl 0 rfl dX9_odds_38 ?_
  refine g_RB_chart (pc := 39) hE tw_352 dX9_odds_39 ?_
  refine c_Ch_sets (pc := 42) (d := d + 3 + 0) hE (t_Ch_sets (d := d + 3) ch20 h) (ch_kd ch20) tw_756 (Nat.le_of_ble_eq_true rfl) dX9_odds_42 (fun r42 M42 h => ?_)
  refine e_icmp_ge (pc := 45) hE 114 dX9_odds_45 (by decide) (fun c0 => ?_) (fun c0 => ?_)
  · have h := h.1 c0
    refine e_sub hE [0, 3, 4] rfl ?_
    exact hK114 _ _ _ h
  · have h := h.2 c0
    refine e_iload (pc := 48) hE 5 rfl dX9_odds_48 ?_
    refine e_iload_n (pc := 50) hE rfl 2 rfl dX9_odds_50 ?_
    refine e_iconst (pc := 51) (v := -1) hE ki_m1 dX9_odds_51 ?_
    refine e_ixor (pc := 52) hE dX9_odds_52 ?_
    refine e_iand (pc := 53) hE dX9_odds_53 ?_
    refine e_if_ne (pc := 54) hE 108 dX9_odds_54 (by decide) (fun c0 => ?_) (fun c0 => ?_)
    · have h := h.1 c0
      exact w_B_odds_108 hE hR h hKB hK114
    · have h := h.2 c0
      obtain ⟨x57, ex57⟩ : ∃ y : Int32, y = v3 + (1 : Int32) := ⟨_, rfl⟩
      have h := h x57 ex57
      refine e_iinc (pc := 57) (k := 3) (v := x57) (lv' := [(3, .int x57), (0, rv G 0), (1, .int a1), (2, .int v2), (4, .int v4), (5, .int v5)]) hE dX9_odds_57 rfl (by rw [ex57, ki_1]) (by decide) rfl ?_
      refine e_aload_n (pc := 60) hE rfl 1 rfl dX9_odds_60 ?_
      refine g_RB_aside (pc := 61) hE tw_357 dX9_odds_61 ?_
      refine e_aload_n (pc := 64) hE rfl 1 rfl dX9_odds_64 ?_
      refine g_RB_story (pc := 65) hE tw_355 dX9_odds_65 ?_
      refine g_Story_present (pc := 68) hE (st_kd st60) tw_247 dX9_odds_68 ?_
      refine c_Fl_copyFrom (pc := 71) (d := d + 3 + 0) hE (t_Fl_copyFrom (d := d + 3) kd_3 kd_61 h) kd_3 tw_760 (Nat.le_of_ble_eq_true rfl) dX9_odds_71 (fun M71 h => ?_)
      refine e_aload_n (pc := 74) hE rfl 1 rfl dX9_odds_74 ?_
      refine g_RB_aside (pc := 75) hE tw_357 dX9_odds_75 ?_
      refine e_aload_n (pc := 78) hE rfl 1 rfl dX9_odds_78 ?_
      refine g_RB_chart (pc := 79) hE tw_352 dX9_odds_79 ?_
      refine e_iload (pc := 82) hE 5 rfl dX9_odds_82 ?_
      refine c_Fl_stampSet (pc := 84) (d := d + 3) hE (t_Fl_stampSet (d := d) kd_3 ch20 h) kd_3 tw_761 (Nat.le_of_ble_eq_true rfl) dX9_odds_84 (fun r84 M84 h => ?_)
      refine e_pop (pc := 87) hE rfl dX9_odds_87 ?_
      refine e_iload (pc := 88) hE 4 rfl dX9_odds_88 ?_
      refine e_aload_n (pc := 90) hE rfl 1 rfl dX9_odds_90 ?_
      refine g_RB_aside (pc := 91) hE tw_357 dX9_odds_91 ?_
      refine e_aload_n (pc := 94) hE rfl 1 rfl dX9_odds_94 ?_
      refine g_RB_chart (pc := 95) hE tw_352 dX9_odds_95 ?_
      refine c_Fl_harvestable (pc := 98) (d := d + 3) hE (t_Fl_harvestable (d := d) kd_3 ch20 h) kd_3 tw_923 (Nat.le_of_ble_eq_true rfl) dX9_odds_98 (fun r98 M98 h => ?_)
      refine e_iload_n (pc := 101) hE rfl 2 rfl dX9_odds_101 ?_
      refine e_ishr (pc := 102) hE dX9_odds_102 ?_
      refine e_iconst (pc := 103) (v := 1) hE ki_1 dX9_odds_103 ?_
      refine e_iand (pc := 104) hE dX9_odds_104 ?_
      refine e_iadd (pc := 105) hE dX9_odds_105 ?_
      refine e_topi (fun x106 ex106 => ?_)
      have h := h x106 ex106
      refine e_istore (pc := 106) (lv' := [(4, .int x106), (3, .int x57), (0, rv G 0), (1, .int a1), (2, .int v2), (5, .int v5)]) hE dX9_odds_106 (by decide) rfl ?_
      refine e_sub hE [2, 3, 4, 1, 0, 5] rfl ?_
      exact w_B_odds_108 hE hR h hKB hK114
set_option maxHeartbeats 4000000 in
set_option maxRecDepth 20000 in
theorem w_lp_B_odds_36 {l : Launch} {G : Gs} {d : Nat} {E : EE} {a1 : Int32} {Q : Int32 → Mm → Prop} (hE : Mach l G RX9 cX9_odds 6 (d + 4) E) (hR : RtI cX9_odds E Q)   {K114 : Int32 → Int32 → Mm → Prop} {n : Nat} {v2 : Int32} {v3 : Int32} {v4 : Int32} {v5 : Int32} {M : Mm} (h : lp_B_odds_36 a1 Q K114 n v2 v3 v4 v5 M) (hK114 : ∀ (v3 : Int32) (v4 : Int32)  (M : Mm), K114 v3 v4 M → E 114 [(0, rv G 0), (3, .int v3), (4, .int v4)] [] M) : E 36 [(0, rv G 0), (1, .int a1), (2, .int v2), (3, .int v3), (4, .int v4), (5, .int v5)] [] M := by
  have key : ∀ (n : Nat) (v2 : Int32) (v3 : Int32) (v4 : Int32) (v5 : Int32) (M : Mm), lp_B_odds_36 a1 Q K114 n v2 v3 v4 v5 M → E 36 [(0, rv G 0), (1, .int a1), (2, .int v2), (3, .int v3), (4, .int v4), (5, .int v5)] [] M := by
    intro n
    induction n with
    | zero => intro v2 v3 v4 v5 M h; exact h.elim
    | succ n ih => intro v2 v3 v4 v5 M h; exact w_B_odds_36 hE hR  (show k_B_odds_36 a1 Q (lp_B_odds_36 a1 Q K114 n) K114 v2 v3 v4 v5 M from h) ih hK114
  exact key n _ _ _ _ _ h
set_option maxHeartbeats 4000000 in
set_option maxRecDepth 20000 in
theorem t_B_odds {l : Launch} {G : Gs} {d : Nat} {a1 : Int32} {M : Mm} {Q : Int32 → Mm → Prop}  (h : wp_B_odds a1 M Q) : CtI l G (d + 4) yX9_odds cX9_odds 6 (some .int) [rv G 0, .int a1] M Q := by
  refine CtI.mk (by decide) rfl (Nat.le_of_ble_eq_true rfl) (fun E hE hR => ?_)
  show E 0 [(0, rv G 0), (1, .int a1)] [] M
  unfold wp_B_odds at h
  refine e_aload_n (pc := 0) hE rfl 0 rfl dX9_odds_0 ?_
  refine g_RB_chart (pc := 1) hE tw_352 dX9_odds_1 ?_
  refine e_iload_n (pc := 4) hE rfl 1 rfl dX9_odds_4 ?_
  refine c_Ch_hasArm (pc := 5) (d := d + 3 + 0) hE (t_Ch_hasArm (d := d + 3) ch20 h) (ch_kd ch20) tw_578 (Nat.le_of_ble_eq_true rfl) dX9_odds_5 (fun r5 M5 h => ?_)
  refine e_if_ne (pc := 8) hE 13 dX9_odds_8 (by decide) (fun c0 => ?_) (fun c0 => ?_)
  · have h := h.1 c0
    refine e_aload_n (pc := 13) hE rfl 0 rfl dX9_odds_13 ?_
    refine g_RB_story (pc := 14) hE tw_355 dX9_odds_14 ?_
    refine g_Story_present (pc := 17) hE (st_kd st60) tw_247 dX9_odds_17 ?_
    refine e_aload_n (pc := 20) hE rfl 0 rfl dX9_odds_20 ?_
    refine g_RB_chart (pc := 21) hE tw_352 dX9_odds_21 ?_
    refine c_Fl_stampable (pc := 24) (d := d + 1 + 2) hE (t_Fl_stampable (d := d + 1) kd_61 ch20 h) kd_61 tw_919 (Nat.le_of_ble_eq_true rfl) dX9_odds_24 (fun r24 M24 h => ?_)
    refine e_istore_n (pc := 27) (lv' := [(2, .int r24), (0, rv G 0), (1, .int a1)]) hE dX9_odds_27 rfl (by decide) rfl ?_
    refine e_iconst (pc := 28) (v := 0) hE ki_0 dX9_odds_28 ?_
    refine e_istore_n (pc := 29) (lv' := [(3, .int (0 : Int32)), (2, .int r24), (0, rv G 0), (1, .int a1)]) hE dX9_odds_29 rfl (by decide) rfl ?_
    refine e_iconst (pc := 30) (v := 0) hE ki_0 dX9_odds_30 ?_
    refine e_istore (pc := 31) (lv' := [(4, .int (0 : Int32)), (3, .int (0 : Int32)), (2, .int r24), (0, rv G 0), (1, .int a1)]) hE dX9_odds_31 (by decide) rfl ?_
    refine e_iconst (pc := 33) (v := 0) hE ki_0 dX9_odds_33 ?_
    refine e_istore (pc := 34) (lv' := [(5, .int (0 : Int32)), (4, .int (0 : Int32)), (3, .int (0 : Int32)), (2, .int r24), (0, rv G 0), (1, .int a1)]) hE dX9_odds_34 (by decide) rfl ?_
    obtain ⟨n, h⟩ := h
    refine e_sub hE [4, 5, 3, 2, 1, 0] rfl ?_
    refine w_lp_B_odds_36 hE hR  h (fun v3 v4 M h => ?_)
    refine e_aload_n (pc := 114) hE rfl 0 rfl dX9_odds_114 ?_
    refine e_iload (pc := 115) hE 2 rfl dX9_odds_115 ?_
    refine e_iload_n (pc := 117) hE rfl 1 rfl dX9_odds_117 ?_
    refine c_B_tellChances (pc := 118) (d := d + 3 + 0) hE (t_B_tellChances (d := d + 3)  h) tw_924 (Nat.le_of_ble_eq_true rfl) dX9_odds_118 (fun M118 h => ?_)
    refine e_iconst (pc := 121) (v := 1) hE ki_1 dX9_odds_121 ?_
    exact hR dX9_odds_122 h
  · have h := h.2 c0
    refine e_iconst (pc := 11) (v := -1) hE ki_m1 dX9_odds_11 ?_
    exact hR dX9_odds_12 h
set_option maxHeartbeats 4000000 in
set_option maxRecDepth 20000 in
theorem w_B_doStamps_44 {l : Launch} {G : Gs} {d : Nat} {E : EE} {a1 : Int32} {Q : Mm → Prop} (hE : Mach l G RX9 cX9_doStamps 3 (d + 4) E) (hR : RtV cX9_doStamps E Q)   {KB : Int32 → Mm → Prop} {v2 : Int32} {M : Mm} (h : k_B_doStamps_44 a1 Q KB v2 M) (hKB : ∀ (v2 : Int32)  (M : Mm), KB v2 M → E 2 [(0, rv G 0), (1, .int a1), (2, .int v2)] [] M) : E 44 [(0, rv G 0), (1, .int a1), (2, .int v2)] [] M := by
  unfold k_B_doStamps_44 at h
  obtain ⟨x44, ex44⟩ : ∃ y : Int32, y = v2 + (1 : Int32) := ⟨_, rfl⟩
  have h := h x44 ex44
  refine e_iinc (pc := 44) (k := 2) (v := x44) (lv' := [(2, .int x44), (0, rv G 0), (1, .int a1)]) hE dX9_doStamps_44 rfl (by rw [ex44, ki_1]) (by decide) rfl ?_
  refine e_goto (pc := 47) hE 2 dX9_doStamps_47 (by decide) ?_
  refine e_sub hE [1, 2, 0] rfl ?_
  exact hKB _ _ h
set_option maxHeartbeats 4000000 in
set_option maxRecDepth 20000 in
theorem w_B_doStamps_2 {l : Launch} {G : Gs} {d : Nat} {E : EE} {a1 : Int32} {Q : Mm → Prop} (hE : Mach l G RX9 cX9_doStamps 3 (d + 4) E) (hR : RtV cX9_doStamps E Q)   {KB : Int32 → Mm → Prop} {v2 : Int32} {M : Mm} (h : k_B_doStamps_2 a1 Q KB v2 M) (hKB : ∀ (v2 : Int32)  (M : Mm), KB v2 M → E 2 [(0, rv G 0), (1, .int a1), (2, .int v2)] [] M) : E 2 [(0, rv G 0), (1, .int a1), (2, .int v2)] [] M := by
  unfold k_B_doStamps_2 at h
  refine e_iload_n (pc := 2) hE rfl 2 rfl dX9_doStamps_2 ?_
  refine e_aload_n (pc := 3) hE rfl 0 rfl dX9_doStamps_3 ?_
  refine g_RB_chart (pc := 4) hE tw_352 dX9_doStamps_4 ?_
  refine g_Chart_arms (pc := 7) hE (ch_kd ch20) tw_158 dX9_doStamps_7 ?_
  refine e_icmp_ge (pc := 10) hE 50 dX9_doStamps_10 (by decide) (fun c0 => ?_) (fun c0 => ?_)
  · have h := h.1 c0
    exact hR dX9_doStamps_50 h
  · have h := h.2 c0
    refine e_iload_n (pc := 13) hE rfl 1 rfl dX9_doStamps_13 ?_
    refine e_iload_n (pc := 14) hE rfl 2 rfl dX9_doStamps_14 ?_
    refine c_B_hasBit (pc := 15) (d := d + 3 + 0) hE (t_B_hasBit (d := d + 3)  h) tw_713 (Nat.le_of_ble_eq_true rfl) dX9_doStamps_15 (fun r15 M15 h => ?_)
    refine e_if_eq (pc := 18) hE 44 dX9_doStamps_18 (by decide) (fun c0 => ?_) (fun c0 => ?_)
    · have h := h.1 c0
      exact w_B_doStamps_44 hE hR h hKB
    · have h := h.2 c0
      refine e_aload_n (pc := 21) hE rfl 0 rfl dX9_doStamps_21 ?_
      refine g_RB_story (pc := 22) hE tw_355 dX9_doStamps_22 ?_
      refine g_Story_present (pc := 25) hE (st_kd st60) tw_247 dX9_doStamps_25 ?_
      refine e_aload_n (pc := 28) hE rfl 0 rfl dX9_doStamps_28 ?_
      refine g_RB_chart (pc := 29) hE tw_352 dX9_doStamps_29 ?_
      refine e_iload_n (pc := 32) hE rfl 2 rfl dX9_doStamps_32 ?_
      refine c_Fl_mayBeStamped (pc := 33) (d := d + 2 + 1) hE (t_Fl_mayBeStamped (d := d + 2) kd_61 ch20 h) kd_61 tw_599 (Nat.le_of_ble_eq_true rfl) dX9_doStamps_33 (fun r33 M33 h => ?_)
      refine e_if_eq (pc := 36) hE 44 dX9_doStamps_36 (by decide) (fun c0 => ?_) (fun c0 => ?_)
      · have h := h.1 c0
        exact w_B_doStamps_44 hE hR h hKB
      · have h := h.2 c0
        refine e_aload_n (pc := 39) hE rfl 0 rfl dX9_doStamps_39 ?_
        refine e_iload_n (pc := 40) hE rfl 2 rfl dX9_doStamps_40 ?_
        refine c_B_doStamp (pc := 41) (d := d + 3) hE (t_B_doStamp (d := d)  h) tw_652 (Nat.le_of_ble_eq_true rfl) dX9_doStamps_41 (fun M41 h => ?_)
        exact w_B_doStamps_44 hE hR h hKB
set_option maxHeartbeats 4000000 in
set_option maxRecDepth 20000 in
theorem w_lp_B_doStamps_2 {l : Launch} {G : Gs} {d : Nat} {E : EE} {a1 : Int32} {Q : Mm → Prop} (hE : Mach l G RX9 cX9_doStamps 3 (d + 4) E) (hR : RtV cX9_doStamps E Q)    {n : Nat} {v2 : Int32} {M : Mm} (h : lp_B_doStamps_2 a1 Q n v2 M)  : E 2 [(0, rv G 0), (1, .int a1), (2, .int v2)] [] M := by
  have key : ∀ (n : Nat) (v2 : Int32) (M : Mm), lp_B_doStamps_2 a1 Q n v2 M → E 2 [(0, rv G 0), (1, .int a1), (2, .int v2)] [] M := by
    intro n
    induction n with
    | zero => intro v2 M h; exact h.elim
    | succ n ih => intro v2 M h; exact w_B_doStamps_2 hE hR  (show k_B_doStamps_2 a1 Q (lp_B_doStamps_2 a1 Q n)  v2 M from h) ih 
  exact key n _ _ h
set_option maxHeartbeats 4000000 in
set_option maxRecDepth 20000 in
theorem t_B_doStamps {l : Launch} {G : Gs} {d : Nat} {a1 : Int32} {M : Mm} {Q : Mm → Prop}  (h : wp_B_doStamps a1 M Q) : CtV l G (d + 4) yX9_doStamps cX9_doStamps 3 (none) [rv G 0, .int a1] M Q := by
  refine CtV.mk (by decide) rfl (Nat.le_of_ble_eq_true rfl) (fun E hE hR => ?_)
  show E 0 [(0, rv G 0), (1, .int a1)] [] M
  unfold wp_B_doStamps at h
  refine e_iconst (pc := 0) (v := 0) hE ki_0 dX9_doStamps_0 ?_
  refine e_istore_n (pc := 1) (lv' := [(2, .int (0 : Int32)), (0, rv G 0), (1, .int a1)]) hE dX9_doStamps_1 rfl (by decide) rfl ?_
  obtain ⟨n, h⟩ := h
  refine e_sub hE [1, 2, 0] rfl ?_
  refine w_lp_B_doStamps_2 hE hR  h 
set_option maxHeartbeats 4000000 in
set_option maxRecDepth 20000 in
theorem w_B_lots_49 {l : Launch} {G : Gs} {d : Nat} {E : EE} {a1 : Int32} {a2 : Int32} {Q : Int32 → Mm → Prop} (hE : Mach l G RX9 cX9_lots 7 (d + 6) E) (hR : RtI cX9_lots E Q)   {KB : Int64 → Int32 → Int32 → Mm → Prop} {v3 : Int64} {v5 : Int32} {v6 : Int32} {M : Mm} (h : k_B_lots_49 a1 a2 Q KB v3 v5 v6 M) (hKB : ∀ (v3 : Int64) (v5 : Int32) (v6 : Int32)  (M : Mm), KB v3 v5 v6 M → E 49 [(0, rv G 0), (1, .int a1), (3, .long v3), (5, .int v5), (6, .int v6)] [] M) : E 49 [(0, rv G 0), (1, .int a1), (3, .long v3), (5, .int v5), (6, .int v6)] [] M := by
  unfold k_B_lots_49 at h
  refine e_iload (pc := 49) hE 4 rfl dX9_lots_49 ?_
  refine e_iload_n (pc := 51) hE rfl 1 rfl dX9_lots_51 ?_
  refine e_icmp_ge (pc := 52) hE 118 dX9_lots_52 (by decide) (fun c0 => ?_) (fun c0 => ?_)
  · have h := h.1 c0
    refine e_iload (pc := 118) hE 3 rfl dX9_lots_118 ?_
    exact hR dX9_lots_120 h
  · have h := h.2 c0
    refine e_aload_n (pc := 55) hE rfl 0 rfl dX9_lots_55 ?_
    refine g_RB_story (pc := 56) hE tw_355 dX9_lots_56 ?_
    refine g_Story_deeds (pc := 59) hE (st_kd st60) tw_250 dX9_lots_59 ?_
    refine e_bipush (pc := 62) (v := 6) hE kb_6 dX9_lots_62 ?_
    refine e_iadd (pc := 64) hE dX9_lots_64 ?_
    refine e_bipush (pc := 65) (v := 60) hE kb_60 dX9_lots_65 ?_
    refine e_icmp_gt (pc := 67) hE 118 dX9_lots_67 (by decide) (fun c0 => ?_) (fun c0 => ?_)
    · have h := h.1 c0
      refine e_iload (pc := 118) hE 3 rfl dX9_lots_118 ?_
      exact hR dX9_lots_120 h
    · have h := h.2 c0
      refine e_lload_n (pc := 70) hE rfl 2 rfl dX9_lots_70 ?_
      refine e_ldc2 (pc := 71) hE tw_933 dX9_lots_71 ?_
      refine e_lmul (pc := 74) hE dX9_lots_74 ?_
      refine e_ldc2 (pc := 75) hE tw_932 dX9_lots_75 ?_
      refine e_lrem (pc := 78) hE (by decide) dX9_lots_78 ?_
      refine e_topl (fun x79 ex79 => ?_)
      have h := h x79 ex79
      refine e_lstore_n (pc := 79) (lv' := [(3, .long x79), (0, rv G 0), (1, .int a1), (5, .int v5), (6, .int v6)]) hE dX9_lots_79 rfl (by decide) rfl ?_
      refine e_aload_n (pc := 80) hE rfl 1 rfl dX9_lots_80 ?_
      refine e_lload_n (pc := 81) hE rfl 0 rfl dX9_lots_81 ?_
      refine e_ldc2 (pc := 82) hE tw_934 dX9_lots_82 ?_
      refine e_ldiv (pc := 85) hE (by decide) dX9_lots_85 ?_
      refine e_l2i (pc := 86) hE dX9_lots_86 ?_
      refine e_aload_n (pc := 87) hE rfl 1 rfl dX9_lots_87 ?_
      refine g_RB_chart (pc := 88) hE tw_352 dX9_lots_88 ?_
      refine c_Ch_sets (pc := 91) (d := d + 5 + 0) hE (t_Ch_sets (d := d + 5) ch20 h) (ch_kd ch20) tw_756 (Nat.le_of_ble_eq_true rfl) dX9_lots_91 (fun r91 M91 h => ?_)
      refine e_iconst (pc := 94) (v := 1) hE ki_1 dX9_lots_94 ?_
      refine e_isub (pc := 95) hE dX9_lots_95 ?_
      refine e_iand (pc := 96) hE dX9_lots_96 ?_
      refine c_B_doStamps (pc := 97) (d := d + 1 + 4) hE (t_B_doStamps (d := d + 1)  h) tw_935 (Nat.le_of_ble_eq_true rfl) dX9_lots_97 (fun M97 h => ?_)
      refine e_iload (pc := 100) hE 3 rfl dX9_lots_100 ?_
      refine e_aload_n (pc := 102) hE rfl 1 rfl dX9_lots_102 ?_
      refine c_B_doSeason (pc := 103) (d := d + 5) hE (t_B_doSeason (d := d)  h) tw_675 (Nat.le_of_ble_eq_true rfl) dX9_lots_103 (fun r103 M103 h => ?_)
      refine c_J_bitCount (pc := 106) (d := d + 5 + 0) hE (t_J_bitCount (d := d + 5)  h) tw_708 (Nat.le_of_ble_eq_true rfl) dX9_lots_106 (fun r106 M106 h => ?_)
      refine e_iadd (pc := 109) hE dX9_lots_109 ?_
      refine e_topi (fun x110 ex110 => ?_)
      have h := h x110 ex110
      refine e_istore (pc := 110) (lv' := [(5, .int x110), (3, .long x79), (0, rv G 0), (1, .int a1), (6, .int v6)]) hE dX9_lots_110 (by decide) rfl ?_
      obtain ⟨x112, ex112⟩ : ∃ y : Int32, y = v6 + (1 : Int32) := ⟨_, rfl⟩
      have h := h x112 ex112
      refine e_iinc (pc := 112) (k := 4) (v := x112) (lv' := [(6, .int x112), (5, .int x110), (3, .long x79), (0, rv G 0), (1, .int a1)]) hE dX9_lots_112 rfl (by rw [ex112, ki_1]) (by decide) rfl ?_
      refine e_goto (pc := 115) hE 49 dX9_lots_115 (by decide) ?_
      refine e_sub hE [3, 4, 2, 1, 0] rfl ?_
      exact hKB _ _ _ _ h
set_option maxHeartbeats 4000000 in
set_option maxRecDepth 20000 in
theorem w_lp_B_lots_49 {l : Launch} {G : Gs} {d : Nat} {E : EE} {a1 : Int32} {a2 : Int32} {Q : Int32 → Mm → Prop} (hE : Mach l G RX9 cX9_lots 7 (d + 6) E) (hR : RtI cX9_lots E Q)    {n : Nat} {v3 : Int64} {v5 : Int32} {v6 : Int32} {M : Mm} (h : lp_B_lots_49 a1 a2 Q n v3 v5 v6 M)  : E 49 [(0, rv G 0), (1, .int a1), (3, .long v3), (5, .int v5), (6, .int v6)] [] M := by
  have key : ∀ (n : Nat) (v3 : Int64) (v5 : Int32) (v6 : Int32) (M : Mm), lp_B_lots_49 a1 a2 Q n v3 v5 v6 M → E 49 [(0, rv G 0), (1, .int a1), (3, .long v3), (5, .int v5), (6, .int v6)] [] M := by
    intro n
    induction n with
    | zero => intro v3 v5 v6 M h; exact h.elim
    | succ n ih => intro v3 v5 v6 M h; exact w_B_lots_49 hE hR  (show k_B_lots_49 a1 a2 Q (lp_B_lots_49 a1 a2 Q n)  v3 v5 v6 M from h) ih 
  exact key n _ _ _ _ h
set_option maxHeartbeats 4000000 in
set_option maxRecDepth 20000 in
theorem t_B_lots {l : Launch} {G : Gs} {d : Nat} {a1 : Int32} {a2 : Int32} {M : Mm} {Q : Int32 → Mm → Prop}  (h : wp_B_lots a1 a2 M Q) : CtI l G (d + 6) yX9_lots cX9_lots 7 (some .int) [rv G 0, .int a1, .int a2] M Q := by
  refine CtI.mk (by decide) rfl (Nat.le_of_ble_eq_true rfl) (fun E hE hR => ?_)
  show E 0 [(0, rv G 0), (1, .int a1), (2, .int a2)] [] M
  unfold wp_B_lots at h
  refine e_iload_n (pc := 0) hE rfl 1 rfl dX9_lots_0 ?_
  refine e_iconst (pc := 1) (v := 1) hE ki_1 dX9_lots_1 ?_
  refine e_icmp_lt (pc := 2) hE 25 dX9_lots_2 (by decide) (fun c0 => ?_) (fun c0 => ?_)
  · have h := h.1 c0
    refine e_iconst (pc := 25) (v := -1) hE ki_m1 dX9_lots_25 ?_
    exact hR dX9_lots_26 h
  · have h := h.2 c0
    refine e_iload_n (pc := 5) hE rfl 1 rfl dX9_lots_5 ?_
    refine e_bipush (pc := 6) (v := 20) hE kb_20 dX9_lots_6 ?_
    refine e_icmp_gt (pc := 8) hE 25 dX9_lots_8 (by decide) (fun c0 => ?_) (fun c0 => ?_)
    · have h := h.1 c0
      refine e_iconst (pc := 25) (v := -1) hE ki_m1 dX9_lots_25 ?_
      exact hR dX9_lots_26 h
    · have h := h.2 c0
      refine e_iload_n (pc := 11) hE rfl 2 rfl dX9_lots_11 ?_
      refine e_iconst (pc := 12) (v := 1) hE ki_1 dX9_lots_12 ?_
      refine e_icmp_lt (pc := 13) hE 25 dX9_lots_13 (by decide) (fun c0 => ?_) (fun c0 => ?_)
      · have h := h.1 c0
        refine e_iconst (pc := 25) (v := -1) hE ki_m1 dX9_lots_25 ?_
        exact hR dX9_lots_26 h
      · have h := h.2 c0
        refine e_iload_n (pc := 16) hE rfl 2 rfl dX9_lots_16 ?_
        refine e_i2l (pc := 17) hE dX9_lots_17 ?_
        refine e_ldc2 (pc := 18) hE tw_932 dX9_lots_18 ?_
        refine e_lcmp (pc := 21) hE dX9_lots_21 ?_
        refine e_if_lt (pc := 22) hE 27 dX9_lots_22 (by decide) (fun c0 => ?_) (fun c0 => ?_)
        · have h := h.1 c0
          refine e_aload_n (pc := 27) hE rfl 0 rfl dX9_lots_27 ?_
          refine g_RB_chart (pc := 28) hE tw_352 dX9_lots_28 ?_
          refine g_Chart_arms (pc := 31) hE (ch_kd ch20) tw_158 dX9_lots_31 ?_
          refine e_if_ne (pc := 34) hE 40 dX9_lots_34 (by decide) (fun c0 => ?_) (fun c0 => ?_)
          · have h := h.1 c0
            refine e_iload_n (pc := 40) hE rfl 2 rfl dX9_lots_40 ?_
            refine e_i2l (pc := 41) hE dX9_lots_41 ?_
            refine e_topl (fun x42 ex42 => ?_)
            have h := h x42 ex42
            refine e_lstore_n (pc := 42) (lv' := [(3, .long x42), (0, rv G 0), (1, .int a1), (2, .int a2)]) hE dX9_lots_42 rfl (by decide) rfl ?_
            refine e_iconst (pc := 43) (v := 0) hE ki_0 dX9_lots_43 ?_
            refine e_istore (pc := 44) (lv' := [(5, .int (0 : Int32)), (3, .long x42), (0, rv G 0), (1, .int a1), (2, .int a2)]) hE dX9_lots_44 (by decide) rfl ?_
            refine e_iconst (pc := 46) (v := 0) hE ki_0 dX9_lots_46 ?_
            refine e_istore (pc := 47) (lv' := [(6, .int (0 : Int32)), (5, .int (0 : Int32)), (3, .long x42), (0, rv G 0), (1, .int a1), (2, .int a2)]) hE dX9_lots_47 (by decide) rfl ?_
            obtain ⟨n, h⟩ := h
            refine e_sub hE [3, 4, 2, 1, 0] rfl ?_
            refine w_lp_B_lots_49 hE hR  h 
          · have h := h.2 c0
            refine e_bipush (pc := 37) (v := -4) hE kb_m4 dX9_lots_37 ?_
            exact hR dX9_lots_39 h
        · have h := h.2 c0
          refine e_iconst (pc := 25) (v := -1) hE ki_m1 dX9_lots_25 ?_
          exact hR dX9_lots_26 h
set_option maxHeartbeats 4000000 in
set_option maxRecDepth 20000 in
theorem t_B_asked {l : Launch} {G : Gs} {d : Nat}  {M : Mm} {Q : Int32 → Mm → Prop}  (h : wp_B_asked  M Q) : CtI l G (d + 0) yX9_asked cX9_asked 1 (some .int) [rv G 0] M Q := by
  refine CtI.mk (by decide) rfl (Nat.le_of_ble_eq_true rfl) (fun E hE hR => ?_)
  show E 0 [(0, rv G 0)] [] M
  unfold wp_B_asked at h
  refine e_aload_n (pc := 0) hE rfl 0 rfl dX9_asked_0 ?_
  refine g_RB_told (pc := 1) hE tw_363 dX9_asked_1 ?_
  exact hR dX9_asked_4 h
set_option maxHeartbeats 4000000 in
set_option maxRecDepth 20000 in
theorem t_B_upper {l : Launch} {G : Gs} {d : Nat}  {M : Mm} {Q : Int64 → Mm → Prop}  (h : wp_B_upper  M Q) : CtL l G (d + 0) yX9_upper cX9_upper 1 (some .long) [rv G 0] M Q := by
  refine CtL.mk (by decide) rfl (Nat.le_of_ble_eq_true rfl) (fun E hE hR => ?_)
  show E 0 [(0, rv G 0)] [] M
  unfold wp_B_upper at h
  refine e_aload_n (pc := 0) hE rfl 0 rfl dX9_upper_0 ?_
  refine g_RB_chanceUpper (pc := 1) hE tw_364 dX9_upper_1 ?_
  exact hR dX9_upper_4 h
set_option maxHeartbeats 4000000 in
set_option maxRecDepth 20000 in
theorem t_B_lower {l : Launch} {G : Gs} {d : Nat}  {M : Mm} {Q : Int64 → Mm → Prop}  (h : wp_B_lower  M Q) : CtL l G (d + 0) yX9_lower cX9_lower 1 (some .long) [rv G 0] M Q := by
  refine CtL.mk (by decide) rfl (Nat.le_of_ble_eq_true rfl) (fun E hE hR => ?_)
  show E 0 [(0, rv G 0)] [] M
  unfold wp_B_lower at h
  refine e_aload_n (pc := 0) hE rfl 0 rfl dX9_lower_0 ?_
  refine g_RB_chanceLower (pc := 1) hE tw_365 dX9_lower_1 ?_
  exact hR dX9_lower_4 h
set_option maxHeartbeats 4000000 in
set_option maxRecDepth 20000 in
theorem w_B_countKept_27 {l : Launch} {G : Gs} {d : Nat} {E : EE}  {Q : Int32 → Mm → Prop} (hE : Mach l G RX9 cX9_countKept 3 (d + 0) E) (hR : RtI cX9_countKept E Q)   {KB : Int32 → Int32 → Mm → Prop} {v2 : Int32} {s0 : Int32} {s1 : Int32} {M : Mm} (h : k_B_countKept_27 Q KB v2 s0 s1 M) (hKB : ∀ (v1 : Int32) (v2 : Int32)  (M : Mm), KB v1 v2 M → E 4 [(0, rv G 0), (1, .int v1), (2, .int v2)] [] M) : E 27 [(0, rv G 0), (2, .int v2)] [.int s0, .int s1] M := by
  unfold k_B_countKept_27 at h
  refine e_iadd (pc := 27) hE dX9_countKept_27 ?_
  refine e_topi (fun x28 ex28 => ?_)
  have h := h x28 ex28
  refine e_istore_n (pc := 28) (lv' := [(1, .int x28), (0, rv G 0), (2, .int v2)]) hE dX9_countKept_28 rfl (by decide) rfl ?_
  obtain ⟨x29, ex29⟩ : ∃ y : Int32, y = v2 + (1 : Int32) := ⟨_, rfl⟩
  have h := h x29 ex29
  refine e_iinc (pc := 29) (k := 2) (v := x29) (lv' := [(2, .int x29), (1, .int x28), (0, rv G 0)]) hE dX9_countKept_29 rfl (by rw [ex29, ki_1]) (by decide) rfl ?_
  refine e_goto (pc := 32) hE 4 dX9_countKept_32 (by decide) ?_
  refine e_sub hE [2, 1, 0] rfl ?_
  exact hKB _ _ _ h
set_option maxHeartbeats 4000000 in
set_option maxRecDepth 20000 in
theorem w_B_countKept_4 {l : Launch} {G : Gs} {d : Nat} {E : EE}  {Q : Int32 → Mm → Prop} (hE : Mach l G RX9 cX9_countKept 3 (d + 0) E) (hR : RtI cX9_countKept E Q)   {KB : Int32 → Int32 → Mm → Prop} {v1 : Int32} {v2 : Int32} {M : Mm} (h : k_B_countKept_4 Q KB v1 v2 M) (hKB : ∀ (v1 : Int32) (v2 : Int32)  (M : Mm), KB v1 v2 M → E 4 [(0, rv G 0), (1, .int v1), (2, .int v2)] [] M) : E 4 [(0, rv G 0), (1, .int v1), (2, .int v2)] [] M := by
  unfold k_B_countKept_4 at h
  refine e_iload_n (pc := 4) hE rfl 2 rfl dX9_countKept_4 ?_
  refine e_iconst (pc := 5) (v := 3) hE ki_3 dX9_countKept_5 ?_
  refine e_icmp_ge (pc := 6) hE 35 dX9_countKept_6 (by decide) (fun c0 => ?_) (fun c0 => ?_)
  · have h := h.1 c0
    refine e_iload_n (pc := 35) hE rfl 1 rfl dX9_countKept_35 ?_
    exact hR dX9_countKept_36 h
  · have h := h.2 c0
    refine e_iload_n (pc := 9) hE rfl 1 rfl dX9_countKept_9 ?_
    refine e_aload_n (pc := 10) hE rfl 0 rfl dX9_countKept_10 ?_
    refine g_RB_kept (pc := 11) hE tw_356 dX9_countKept_11 ?_
    refine e_iload_n (pc := 14) hE rfl 2 rfl dX9_countKept_14 ?_
    have hx15 := kp_of h.1
    refine e_kald (pc := 15) hE ar_2 h.1 dX9_countKept_15 ?_
    have h := h.2
    refine g_Kept_there (pc := 16) hE (kp_kd hx15) tw_342 dX9_countKept_16 ?_
    refine e_if_eq (pc := 19) hE 26 dX9_countKept_19 (by decide) (fun c0 => ?_) (fun c0 => ?_)
    · have h := h.1 c0
      refine e_iconst (pc := 26) (v := 0) hE ki_0 dX9_countKept_26 ?_
      refine e_sub hE [0, 2] rfl ?_
      exact w_B_countKept_27 hE hR h hKB
    · have h := h.2 c0
      refine e_iconst (pc := 22) (v := 1) hE ki_1 dX9_countKept_22 ?_
      refine e_goto (pc := 23) hE 27 dX9_countKept_23 (by decide) ?_
      refine e_sub hE [0, 2] rfl ?_
      exact w_B_countKept_27 hE hR h hKB
set_option maxHeartbeats 4000000 in
set_option maxRecDepth 20000 in
theorem w_lp_B_countKept_4 {l : Launch} {G : Gs} {d : Nat} {E : EE}  {Q : Int32 → Mm → Prop} (hE : Mach l G RX9 cX9_countKept 3 (d + 0) E) (hR : RtI cX9_countKept E Q)    {n : Nat} {v1 : Int32} {v2 : Int32} {M : Mm} (h : lp_B_countKept_4 Q n v1 v2 M)  : E 4 [(0, rv G 0), (1, .int v1), (2, .int v2)] [] M := by
  have key : ∀ (n : Nat) (v1 : Int32) (v2 : Int32) (M : Mm), lp_B_countKept_4 Q n v1 v2 M → E 4 [(0, rv G 0), (1, .int v1), (2, .int v2)] [] M := by
    intro n
    induction n with
    | zero => intro v1 v2 M h; exact h.elim
    | succ n ih => intro v1 v2 M h; exact w_B_countKept_4 hE hR  (show k_B_countKept_4  Q (lp_B_countKept_4 Q n)  v1 v2 M from h) ih 
  exact key n _ _ _ h
set_option maxHeartbeats 4000000 in
set_option maxRecDepth 20000 in
theorem t_B_countKept {l : Launch} {G : Gs} {d : Nat}  {M : Mm} {Q : Int32 → Mm → Prop}  (h : wp_B_countKept  M Q) : CtI l G (d + 0) yX9_countKept cX9_countKept 3 (some .int) [rv G 0] M Q := by
  refine CtI.mk (by decide) rfl (Nat.le_of_ble_eq_true rfl) (fun E hE hR => ?_)
  show E 0 [(0, rv G 0)] [] M
  unfold wp_B_countKept at h
  refine e_iconst (pc := 0) (v := 0) hE ki_0 dX9_countKept_0 ?_
  refine e_istore_n (pc := 1) (lv' := [(1, .int (0 : Int32)), (0, rv G 0)]) hE dX9_countKept_1 rfl (by decide) rfl ?_
  refine e_iconst (pc := 2) (v := 0) hE ki_0 dX9_countKept_2 ?_
  refine e_istore_n (pc := 3) (lv' := [(2, .int (0 : Int32)), (1, .int (0 : Int32)), (0, rv G 0)]) hE dX9_countKept_3 rfl (by decide) rfl ?_
  obtain ⟨n, h⟩ := h
  refine e_sub hE [2, 1, 0] rfl ?_
  refine w_lp_B_countKept_4 hE hR  h 
set_option maxHeartbeats 4000000 in
set_option maxRecDepth 20000 in
theorem t_B_count {l : Launch} {G : Gs} {d : Nat} {a1 : Int32} {M : Mm} {Q : Int32 → Mm → Prop}  (h : wp_B_count a1 M Q) : CtI l G (d + 2) yX9_count cX9_count 2 (some .int) [rv G 0, .int a1] M Q := by
  refine CtI.mk (by decide) rfl (Nat.le_of_ble_eq_true rfl) (fun E hE hR => ?_)
  show E 0 [(0, rv G 0), (1, .int a1)] [] M
  unfold wp_B_count at h
  refine e_iload_n (pc := 0) hE rfl 1 rfl dX9_count_0 ?_
  by_cases c0 : a1 = 0
  · have h := h.1 c0
    refine e_swIn (pc := 1) hE 56 dX9_count_1 (by rw [c0]; decide) (by rw [c0]; decide) (by rw [c0]; rfl) (by decide) ?_
    refine e_aload_n (pc := 56) hE rfl 0 rfl dX9_count_56 ?_
    refine g_RB_chart (pc := 57) hE tw_352 dX9_count_57 ?_
    refine g_Chart_arms (pc := 60) hE (ch_kd ch20) tw_158 dX9_count_60 ?_
    exact hR dX9_count_63 h
  have h := h.2
  by_cases c1 : a1 = 1
  · have h := h.1 c1
    refine e_swIn (pc := 1) hE 64 dX9_count_1 (by rw [c1]; decide) (by rw [c1]; decide) (by rw [c1]; rfl) (by decide) ?_
    refine e_aload_n (pc := 64) hE rfl 0 rfl dX9_count_64 ?_
    refine g_RB_chart (pc := 65) hE tw_352 dX9_count_65 ?_
    refine g_Chart_river (pc := 68) hE (ch_kd ch20) tw_161 dX9_count_68 ?_
    exact hR dX9_count_71 h
  have h := h.2
  by_cases c2 : a1 = 2
  · have h := h.1 c2
    refine e_swIn (pc := 1) hE 72 dX9_count_1 (by rw [c2]; decide) (by rw [c2]; decide) (by rw [c2]; rfl) (by decide) ?_
    refine e_aload_n (pc := 72) hE rfl 0 rfl dX9_count_72 ?_
    refine g_RB_story (pc := 73) hE tw_355 dX9_count_73 ?_
    refine g_Story_deeds (pc := 76) hE (st_kd st60) tw_250 dX9_count_76 ?_
    exact hR dX9_count_79 h
  have h := h.2
  by_cases c3 : a1 = 3
  · have h := h.1 c3
    refine e_swIn (pc := 1) hE 80 dX9_count_1 (by rw [c3]; decide) (by rw [c3]; decide) (by rw [c3]; rfl) (by decide) ?_
    refine e_aload_n (pc := 80) hE rfl 0 rfl dX9_count_80 ?_
    refine g_RB_story (pc := 81) hE tw_355 dX9_count_81 ?_
    refine g_Story_present (pc := 84) hE (st_kd st60) tw_247 dX9_count_84 ?_
    refine g_Flow_dead (pc := 87) hE kd_61 tw_226 dX9_count_87 ?_
    refine c_J_bitCount (pc := 90) (d := d + 1 + 0) hE (t_J_bitCount (d := d + 1)  h) tw_708 (Nat.le_of_ble_eq_true rfl) dX9_count_90 (fun r90 M90 h => ?_)
    exact hR dX9_count_93 h
  have h := h.2
  by_cases c4 : a1 = 4
  · have h := h.1 c4
    refine e_swIn (pc := 1) hE 94 dX9_count_1 (by rw [c4]; decide) (by rw [c4]; decide) (by rw [c4]; rfl) (by decide) ?_
    refine e_aload_n (pc := 94) hE rfl 0 rfl dX9_count_94 ?_
    refine g_RB_story (pc := 95) hE tw_355 dX9_count_95 ?_
    refine g_Story_present (pc := 98) hE (st_kd st60) tw_247 dX9_count_98 ?_
    refine g_Flow_barges (pc := 101) hE kd_61 tw_223 dX9_count_101 ?_
    refine c_J_bitCount (pc := 104) (d := d + 1 + 0) hE (t_J_bitCount (d := d + 1)  h) tw_708 (Nat.le_of_ble_eq_true rfl) dX9_count_104 (fun r104 M104 h => ?_)
    exact hR dX9_count_107 h
  have h := h.2
  by_cases c5 : a1 = 5
  · have h := h.1 c5
    refine e_swIn (pc := 1) hE 108 dX9_count_1 (by rw [c5]; decide) (by rw [c5]; decide) (by rw [c5]; rfl) (by decide) ?_
    refine e_aload_n (pc := 108) hE rfl 0 rfl dX9_count_108 ?_
    refine g_RB_chart (pc := 109) hE tw_352 dX9_count_109 ?_
    refine e_iconst (pc := 112) (v := 2) hE ki_2 dX9_count_112 ?_
    refine c_Ch_countOf (pc := 113) (d := d + 1) hE (t_Ch_countOf (d := d) ch20 h) (ch_kd ch20) tw_955 (Nat.le_of_ble_eq_true rfl) dX9_count_113 (fun r113 M113 h => ?_)
    exact hR dX9_count_116 h
  have h := h.2
  by_cases c6 : a1 = 6
  · have h := h.1 c6
    refine e_swIn (pc := 1) hE 117 dX9_count_1 (by rw [c6]; decide) (by rw [c6]; decide) (by rw [c6]; rfl) (by decide) ?_
    refine e_aload_n (pc := 117) hE rfl 0 rfl dX9_count_117 ?_
    refine g_RB_rows (pc := 118) hE tw_350 dX9_count_118 ?_
    refine c_Sh_countThere (pc := 121) (d := d + 1 + 0) hE (t_Sh_countThere (d := d + 1) sh4 h) (sh_kd sh4) tw_960 (Nat.le_of_ble_eq_true rfl) dX9_count_121 (fun r121 M121 h => ?_)
    exact hR dX9_count_124 h
  have h := h.2
  by_cases c7 : a1 = 7
  · have h := h.1 c7
    refine e_swIn (pc := 1) hE 125 dX9_count_1 (by rw [c7]; decide) (by rw [c7]; decide) (by rw [c7]; rfl) (by decide) ?_
    refine e_aload_n (pc := 125) hE rfl 0 rfl dX9_count_125 ?_
    refine g_RB_texts (pc := 126) hE tw_351 dX9_count_126 ?_
    refine c_Sh_countThere (pc := 129) (d := d + 1 + 0) hE (t_Sh_countThere (d := d + 1) sh13 h) (sh_kd sh13) tw_960 (Nat.le_of_ble_eq_true rfl) dX9_count_129 (fun r129 M129 h => ?_)
    exact hR dX9_count_132 h
  have h := h.2
  by_cases c8 : a1 = 8
  · have h := h.1 c8
    refine e_swIn (pc := 1) hE 133 dX9_count_1 (by rw [c8]; decide) (by rw [c8]; decide) (by rw [c8]; rfl) (by decide) ?_
    refine e_aload_n (pc := 133) hE rfl 0 rfl dX9_count_133 ?_
    refine c_B_countKept (pc := 134) (d := d + 1 + 0) hE (t_B_countKept (d := d + 1)  h) tw_964 (Nat.le_of_ble_eq_true rfl) dX9_count_134 (fun r134 M134 h => ?_)
    exact hR dX9_count_137 h
  have h := h.2
  by_cases c9 : a1 = 9
  · have h := h.1 c9
    refine e_swIn (pc := 1) hE 138 dX9_count_1 (by rw [c9]; decide) (by rw [c9]; decide) (by rw [c9]; rfl) (by decide) ?_
    refine e_aload_n (pc := 138) hE rfl 0 rfl dX9_count_138 ?_
    refine g_RB_story (pc := 139) hE tw_355 dX9_count_139 ?_
    refine g_Story_present (pc := 142) hE (st_kd st60) tw_247 dX9_count_142 ?_
    refine c_Fl_allHarvests (pc := 145) (d := d + 1) hE (t_Fl_allHarvests (d := d) kd_61 h) kd_61 tw_968 (Nat.le_of_ble_eq_true rfl) dX9_count_145 (fun r145 M145 h => ?_)
    exact hR dX9_count_148 h
  have h := h.2
  have cd : a1.toInt < 0 ∨ 9 < a1.toInt := by
    have q0 := sw_ne (n := 0) (by decide) c0
    have q1 := sw_ne (n := 1) (by decide) c1
    have q2 := sw_ne (n := 2) (by decide) c2
    have q3 := sw_ne (n := 3) (by decide) c3
    have q4 := sw_ne (n := 4) (by decide) c4
    have q5 := sw_ne (n := 5) (by decide) c5
    have q6 := sw_ne (n := 6) (by decide) c6
    have q7 := sw_ne (n := 7) (by decide) c7
    have q8 := sw_ne (n := 8) (by decide) c8
    have q9 := sw_ne (n := 9) (by decide) c9
    omega
  have h := h cd
  refine e_swOut (pc := 1) hE 149 dX9_count_1 cd (by decide) ?_
  refine e_iconst (pc := 149) (v := -1) hE ki_m1 dX9_count_149 ?_
  exact hR dX9_count_150 h
set_option maxHeartbeats 4000000 in
set_option maxRecDepth 20000 in
theorem t_B_finding {l : Launch} {G : Gs} {d : Nat}  {M : Mm} {Q : Int32 → Mm → Prop}  (h : wp_B_finding  M Q) : CtI l G (d + 0) yX9_finding cX9_finding 1 (some .int) [rv G 0] M Q := by
  refine CtI.mk (by decide) rfl (Nat.le_of_ble_eq_true rfl) (fun E hE hR => ?_)
  show E 0 [(0, rv G 0)] [] M
  unfold wp_B_finding at h
  refine e_aload_n (pc := 0) hE rfl 0 rfl dX9_finding_0 ?_
  refine g_RB_latestFound (pc := 1) hE tw_362 dX9_finding_1 ?_
  exact hR dX9_finding_4 h
set_option maxHeartbeats 4000000 in
set_option maxRecDepth 20000 in
theorem w_B_findings_10 {l : Launch} {G : Gs} {d : Nat} {E : EE} {a1 : Int32} {Q : Int32 → Mm → Prop} (hE : Mach l G RX9 cX9_findings 2 (d + 0) E) (hR : RtI cX9_findings E Q)     {M : Mm} (h : k_B_findings_10 a1 Q M)  : E 10 [] [] M := by
  unfold k_B_findings_10 at h
  refine e_iconst (pc := 10) (v := -1) hE ki_m1 dX9_findings_10 ?_
  refine e_goto (pc := 11) hE 20 dX9_findings_11 (by decide) ?_
  exact hR dX9_findings_20 h
set_option maxHeartbeats 4000000 in
set_option maxRecDepth 20000 in
theorem t_B_findings {l : Launch} {G : Gs} {d : Nat} {a1 : Int32} {M : Mm} {Q : Int32 → Mm → Prop}  (h : wp_B_findings a1 M Q) : CtI l G (d + 0) yX9_findings cX9_findings 2 (some .int) [rv G 0, .int a1] M Q := by
  refine CtI.mk (by decide) rfl (Nat.le_of_ble_eq_true rfl) (fun E hE hR => ?_)
  show E 0 [(0, rv G 0), (1, .int a1)] [] M
  unfold wp_B_findings at h
  refine e_iload_n (pc := 0) hE rfl 1 rfl dX9_findings_0 ?_
  refine e_iconst (pc := 1) (v := 1) hE ki_1 dX9_findings_1 ?_
  refine e_icmp_lt (pc := 2) hE 10 dX9_findings_2 (by decide) (fun c0 => ?_) (fun c0 => ?_)
  · have h := h.1 c0
    refine e_sub hE [] rfl ?_
    exact w_B_findings_10 hE hR h
  · have h := h.2 c0
    refine e_iload_n (pc := 5) hE rfl 1 rfl dX9_findings_5 ?_
    refine e_iconst (pc := 6) (v := 5) hE ki_5 dX9_findings_6 ?_
    refine e_icmp_le (pc := 7) hE 14 dX9_findings_7 (by decide) (fun c0 => ?_) (fun c0 => ?_)
    · have h := h.1 c0
      refine e_aload_n (pc := 14) hE rfl 0 rfl dX9_findings_14 ?_
      refine g_RB_found (pc := 15) hE tw_361 dX9_findings_15 ?_
      refine e_iload_n (pc := 18) hE rfl 1 rfl dX9_findings_18 ?_
      refine e_iald (pc := 19) hE ar_1 h.1 dX9_findings_19 ?_
      have h := h.2
      exact hR dX9_findings_20 h
    · have h := h.2 c0
      refine e_sub hE [] rfl ?_
      exact w_B_findings_10 hE hR h
set_option maxHeartbeats 4000000 in
set_option maxRecDepth 20000 in
theorem w_B_digest_6 {l : Launch} {G : Gs} {d : Nat} {E : EE}  {Q : Int64 → Mm → Prop} (hE : Mach l G RX9 cX9_digest 5 (d + 3) E) (hR : RtL cX9_digest E Q)   {KB : Int64 → Int32 → Mm → Prop} {K31 : Int64 → Mm → Prop} {v1 : Int64} {v3 : Int32} {M : Mm} (h : k_B_digest_6 Q KB K31 v1 v3 M) (hKB : ∀ (v1 : Int64) (v3 : Int32)  (M : Mm), KB v1 v3 M → E 6 [(0, rv G 0), (1, .long v1), (3, .int v3)] [] M) (hK31 : ∀ (v1 : Int64)  (M : Mm), K31 v1 M → E 31 [(0, rv G 0), (1, .long v1)] [] M) : E 6 [(0, rv G 0), (1, .long v1), (3, .int v3)] [] M := by
  unfold k_B_digest_6 at h
  refine e_iload_n (pc := 6) hE rfl 2 rfl dX9_digest_6 ?_
  refine e_bipush (pc := 7) (v := 9) hE kb_9 dX9_digest_7 ?_
  refine e_icmp_gt (pc := 9) hE 31 dX9_digest_9 (by decide) (fun c0 => ?_) (fun c0 => ?_)
  · have h := h.1 c0
    refine e_sub hE [0, 1] rfl ?_
    exact hK31 _ _ h
  · have h := h.2 c0
    refine e_ldc2 (pc := 12) hE tw_986 dX9_digest_12 ?_
    refine e_lload_n (pc := 15) hE rfl 1 rfl dX9_digest_15 ?_
    refine e_lmul (pc := 16) hE dX9_digest_16 ?_
    refine e_aload_n (pc := 17) hE rfl 0 rfl dX9_digest_17 ?_
    refine e_iload_n (pc := 18) hE rfl 2 rfl dX9_digest_18 ?_
    refine c_B_count (pc := 19) (d := d + 2) hE (t_B_count (d := d)  h) tw_987 (Nat.le_of_ble_eq_true rfl) dX9_digest_19 (fun r19 M19 h => ?_)
    refine e_i2l (pc := 22) hE dX9_digest_22 ?_
    refine e_ladd (pc := 23) hE dX9_digest_23 ?_
    refine e_topl (fun x24 ex24 => ?_)
    have h := h x24 ex24
    refine e_lstore_n (pc := 24) (lv' := [(1, .long x24), (0, rv G 0), (3, .int v3)]) hE dX9_digest_24 rfl (by decide) rfl ?_
    obtain ⟨x25, ex25⟩ : ∃ y : Int32, y = v3 + (1 : Int32) := ⟨_, rfl⟩
    have h := h x25 ex25
    refine e_iinc (pc := 25) (k := 2) (v := x25) (lv' := [(3, .int x25), (1, .long x24), (0, rv G 0)]) hE dX9_digest_25 rfl (by rw [ex25, ki_1]) (by decide) rfl ?_
    refine e_goto (pc := 28) hE 6 dX9_digest_28 (by decide) ?_
    refine e_sub hE [2, 1, 0] rfl ?_
    exact hKB _ _ _ h
set_option maxHeartbeats 4000000 in
set_option maxRecDepth 20000 in
theorem w_lp_B_digest_6 {l : Launch} {G : Gs} {d : Nat} {E : EE}  {Q : Int64 → Mm → Prop} (hE : Mach l G RX9 cX9_digest 5 (d + 3) E) (hR : RtL cX9_digest E Q)   {K31 : Int64 → Mm → Prop} {n : Nat} {v1 : Int64} {v3 : Int32} {M : Mm} (h : lp_B_digest_6 Q K31 n v1 v3 M) (hK31 : ∀ (v1 : Int64)  (M : Mm), K31 v1 M → E 31 [(0, rv G 0), (1, .long v1)] [] M) : E 6 [(0, rv G 0), (1, .long v1), (3, .int v3)] [] M := by
  have key : ∀ (n : Nat) (v1 : Int64) (v3 : Int32) (M : Mm), lp_B_digest_6 Q K31 n v1 v3 M → E 6 [(0, rv G 0), (1, .long v1), (3, .int v3)] [] M := by
    intro n
    induction n with
    | zero => intro v1 v3 M h; exact h.elim
    | succ n ih => intro v1 v3 M h; exact w_B_digest_6 hE hR  (show k_B_digest_6  Q (lp_B_digest_6 Q K31 n) K31 v1 v3 M from h) ih hK31
  exact key n _ _ _ h
set_option maxHeartbeats 4000000 in
set_option maxRecDepth 20000 in
theorem w_B_digest_65 {l : Launch} {G : Gs} {d : Nat} {E : EE}  {Q : Int64 → Mm → Prop} (hE : Mach l G RX9 cX9_digest 5 (d + 3) E) (hR : RtL cX9_digest E Q)   {KB : Int64 → Int32 → Int32 → Mm → Prop} {K93 : Int64 → Int32 → Mm → Prop} {v1 : Int64} {v3 : Int32} {v4 : Int32} {M : Mm} (h : k_B_digest_65 Q KB K93 v1 v3 v4 M) (hKB : ∀ (v1 : Int64) (v3 : Int32) (v4 : Int32)  (M : Mm), KB v1 v3 v4 M → E 65 [(0, rv G 0), (1, .long v1), (3, .int v3), (4, .int v4)] [] M) (hK93 : ∀ (v1 : Int64) (v3 : Int32)  (M : Mm), K93 v1 v3 M → E 93 [(0, rv G 0), (1, .long v1), (3, .int v3)] [] M) : E 65 [(0, rv G 0), (1, .long v1), (3, .int v3), (4, .int v4)] [] M := by
  unfold k_B_digest_65 at h
  refine e_iload (pc := 65) hE 3 rfl dX9_digest_65 ?_
  refine e_bipush (pc := 67) (v := 7) hE kb_7 dX9_digest_67 ?_
  refine e_icmp_gt (pc := 69) hE 93 dX9_digest_69 (by decide) (fun c0 => ?_) (fun c0 => ?_)
  · have h := h.1 c0
    refine e_sub hE [0, 1, 2] rfl ?_
    exact hK93 _ _ _ h
  · have h := h.2 c0
    refine e_ldc2 (pc := 72) hE tw_986 dX9_digest_72 ?_
    refine e_lload_n (pc := 75) hE rfl 1 rfl dX9_digest_75 ?_
    refine e_lmul (pc := 76) hE dX9_digest_76 ?_
    refine e_aload_n (pc := 77) hE rfl 0 rfl dX9_digest_77 ?_
    refine e_iload_n (pc := 78) hE rfl 2 rfl dX9_digest_78 ?_
    refine e_iload (pc := 79) hE 3 rfl dX9_digest_79 ?_
    refine c_B_armTells (pc := 81) (d := d + 2) hE (t_B_armTells (d := d)  h) tw_582 (Nat.le_of_ble_eq_true rfl) dX9_digest_81 (fun r81 M81 h => ?_)
    refine e_i2l (pc := 84) hE dX9_digest_84 ?_
    refine e_ladd (pc := 85) hE dX9_digest_85 ?_
    refine e_topl (fun x86 ex86 => ?_)
    have h := h x86 ex86
    refine e_lstore_n (pc := 86) (lv' := [(1, .long x86), (0, rv G 0), (3, .int v3), (4, .int v4)]) hE dX9_digest_86 rfl (by decide) rfl ?_
    obtain ⟨x87, ex87⟩ : ∃ y : Int32, y = v4 + (1 : Int32) := ⟨_, rfl⟩
    have h := h x87 ex87
    refine e_iinc (pc := 87) (k := 3) (v := x87) (lv' := [(4, .int x87), (1, .long x86), (0, rv G 0), (3, .int v3)]) hE dX9_digest_87 rfl (by rw [ex87, ki_1]) (by decide) rfl ?_
    refine e_goto (pc := 90) hE 65 dX9_digest_90 (by decide) ?_
    refine e_sub hE [2, 1, 3, 0] rfl ?_
    exact hKB _ _ _ _ h
set_option maxHeartbeats 4000000 in
set_option maxRecDepth 20000 in
theorem w_lp_B_digest_65 {l : Launch} {G : Gs} {d : Nat} {E : EE}  {Q : Int64 → Mm → Prop} (hE : Mach l G RX9 cX9_digest 5 (d + 3) E) (hR : RtL cX9_digest E Q)   {K93 : Int64 → Int32 → Mm → Prop} {n : Nat} {v1 : Int64} {v3 : Int32} {v4 : Int32} {M : Mm} (h : lp_B_digest_65 Q K93 n v1 v3 v4 M) (hK93 : ∀ (v1 : Int64) (v3 : Int32)  (M : Mm), K93 v1 v3 M → E 93 [(0, rv G 0), (1, .long v1), (3, .int v3)] [] M) : E 65 [(0, rv G 0), (1, .long v1), (3, .int v3), (4, .int v4)] [] M := by
  have key : ∀ (n : Nat) (v1 : Int64) (v3 : Int32) (v4 : Int32) (M : Mm), lp_B_digest_65 Q K93 n v1 v3 v4 M → E 65 [(0, rv G 0), (1, .long v1), (3, .int v3), (4, .int v4)] [] M := by
    intro n
    induction n with
    | zero => intro v1 v3 v4 M h; exact h.elim
    | succ n ih => intro v1 v3 v4 M h; exact w_B_digest_65 hE hR  (show k_B_digest_65  Q (lp_B_digest_65 Q K93 n) K93 v1 v3 v4 M from h) ih hK93
  exact key n _ _ _ _ h
set_option maxHeartbeats 4000000 in
set_option maxRecDepth 20000 in
theorem w_B_digest_51 {l : Launch} {G : Gs} {d : Nat} {E : EE}  {Q : Int64 → Mm → Prop} (hE : Mach l G RX9 cX9_digest 5 (d + 3) E) (hR : RtL cX9_digest E Q)   {KB : Int64 → Int32 → Mm → Prop} {K116 : Int64 → Mm → Prop} {v1 : Int64} {v3 : Int32} {M : Mm} (h : k_B_digest_51 Q KB K116 v1 v3 M) (hKB : ∀ (v1 : Int64) (v3 : Int32)  (M : Mm), KB v1 v3 M → E 51 [(0, rv G 0), (1, .long v1), (3, .int v3)] [] M) (hK116 : ∀ (v1 : Int64)  (M : Mm), K116 v1 M → E 116 [(0, rv G 0), (1, .long v1)] [] M) : E 51 [(0, rv G 0), (1, .long v1), (3, .int v3)] [] M := by
  unfold k_B_digest_51 at h
  refine e_iload_n (pc := 51) hE rfl 2 rfl dX9_digest_51 ?_
  refine e_aload_n (pc := 52) hE rfl 0 rfl dX9_digest_52 ?_
  refine g_RB_chart (pc := 53) hE tw_352 dX9_digest_53 ?_
  refine g_Chart_arms (pc := 56) hE (ch_kd ch20) tw_158 dX9_digest_56 ?_
  refine e_icmp_ge (pc := 59) hE 116 dX9_digest_59 (by decide) (fun c0 => ?_) (fun c0 => ?_)
  · have h := h.1 c0
    refine e_sub hE [0, 1] rfl ?_
    exact hK116 _ _ h
  · have h := h.2 c0
    refine e_iconst (pc := 62) (v := 0) hE ki_0 dX9_digest_62 ?_
    refine e_istore (pc := 63) (lv' := [(4, .int (0 : Int32)), (0, rv G 0), (1, .long v1), (3, .int v3)]) hE dX9_digest_63 (by decide) rfl ?_
    obtain ⟨n, h⟩ := h
    refine e_sub hE [1, 2, 3, 0] rfl ?_
    refine w_lp_B_digest_65 hE hR  h (fun v1 v3 M h => ?_)
    refine e_ldc2 (pc := 93) hE tw_986 dX9_digest_93 ?_
    refine e_lload_n (pc := 96) hE rfl 1 rfl dX9_digest_96 ?_
    refine e_lmul (pc := 97) hE dX9_digest_97 ?_
    refine e_aload_n (pc := 98) hE rfl 0 rfl dX9_digest_98 ?_
    refine g_RB_chart (pc := 99) hE tw_352 dX9_digest_99 ?_
    refine g_Chart_waits (pc := 102) hE (ch_kd ch20) tw_151 dX9_digest_102 ?_
    refine e_iload_n (pc := 105) hE rfl 2 rfl dX9_digest_105 ?_
    refine e_iald (pc := 106) hE ar_26 h.1 dX9_digest_106 ?_
    have h := h.2
    refine e_i2l (pc := 107) hE dX9_digest_107 ?_
    refine e_ladd (pc := 108) hE dX9_digest_108 ?_
    refine e_topl (fun x109 ex109 => ?_)
    have h := h x109 ex109
    refine e_lstore_n (pc := 109) (lv' := [(1, .long x109), (0, rv G 0), (3, .int v3)]) hE dX9_digest_109 rfl (by decide) rfl ?_
    obtain ⟨x110, ex110⟩ : ∃ y : Int32, y = v3 + (1 : Int32) := ⟨_, rfl⟩
    have h := h x110 ex110
    refine e_iinc (pc := 110) (k := 2) (v := x110) (lv' := [(3, .int x110), (1, .long x109), (0, rv G 0)]) hE dX9_digest_110 rfl (by rw [ex110, ki_1]) (by decide) rfl ?_
    refine e_goto (pc := 113) hE 51 dX9_digest_113 (by decide) ?_
    refine e_sub hE [2, 1, 0] rfl ?_
    exact hKB _ _ _ h
set_option maxHeartbeats 4000000 in
set_option maxRecDepth 20000 in
theorem w_lp_B_digest_51 {l : Launch} {G : Gs} {d : Nat} {E : EE}  {Q : Int64 → Mm → Prop} (hE : Mach l G RX9 cX9_digest 5 (d + 3) E) (hR : RtL cX9_digest E Q)   {K116 : Int64 → Mm → Prop} {n : Nat} {v1 : Int64} {v3 : Int32} {M : Mm} (h : lp_B_digest_51 Q K116 n v1 v3 M) (hK116 : ∀ (v1 : Int64)  (M : Mm), K116 v1 M → E 116 [(0, rv G 0), (1, .long v1)] [] M) : E 51 [(0, rv G 0), (1, .long v1), (3, .int v3)] [] M := by
  have key : ∀ (n : Nat) (v1 : Int64) (v3 : Int32) (M : Mm), lp_B_digest_51 Q K116 n v1 v3 M → E 51 [(0, rv G 0), (1, .long v1), (3, .int v3)] [] M := by
    intro n
    induction n with
    | zero => intro v1 v3 M h; exact h.elim
    | succ n ih => intro v1 v3 M h; exact w_B_digest_51 hE hR  (show k_B_digest_51  Q (lp_B_digest_51 Q K116 n) K116 v1 v3 M from h) ih hK116
  exact key n _ _ _ h
set_option maxHeartbeats 4000000 in
set_option maxRecDepth 20000 in
theorem w_B_digest_156 {l : Launch} {G : Gs} {d : Nat} {E : EE}  {Q : Int64 → Mm → Prop} (hE : Mach l G RX9 cX9_digest 5 (d + 3) E) (hR : RtL cX9_digest E Q)   {KB : Int64 → Int32 → Mm → Prop} {K165 : Int64 → Mm → Prop} {v3 : Int32} {s0 : Int32} {s1 : Int64} {M : Mm} (h : k_B_digest_156 Q KB K165 v3 s0 s1 M) (hKB : ∀ (v1 : Int64) (v3 : Int32)  (M : Mm), KB v1 v3 M → E 118 [(0, rv G 0), (1, .long v1), (3, .int v3)] [] M) (hK165 : ∀ (v1 : Int64)  (M : Mm), K165 v1 M → E 165 [(0, rv G 0), (1, .long v1)] [] M) : E 156 [(0, rv G 0), (3, .int v3)] [.int s0, .long s1] M := by
  unfold k_B_digest_156 at h
  refine e_i2l (pc := 156) hE dX9_digest_156 ?_
  refine e_ladd (pc := 157) hE dX9_digest_157 ?_
  refine e_topl (fun x158 ex158 => ?_)
  have h := h x158 ex158
  refine e_lstore_n (pc := 158) (lv' := [(1, .long x158), (0, rv G 0), (3, .int v3)]) hE dX9_digest_158 rfl (by decide) rfl ?_
  obtain ⟨x159, ex159⟩ : ∃ y : Int32, y = v3 + (1 : Int32) := ⟨_, rfl⟩
  have h := h x159 ex159
  refine e_iinc (pc := 159) (k := 2) (v := x159) (lv' := [(3, .int x159), (1, .long x158), (0, rv G 0)]) hE dX9_digest_159 rfl (by rw [ex159, ki_1]) (by decide) rfl ?_
  refine e_goto (pc := 162) hE 118 dX9_digest_162 (by decide) ?_
  refine e_sub hE [2, 1, 0] rfl ?_
  exact hKB _ _ _ h
set_option maxHeartbeats 4000000 in
set_option maxRecDepth 20000 in
theorem w_B_digest_118 {l : Launch} {G : Gs} {d : Nat} {E : EE}  {Q : Int64 → Mm → Prop} (hE : Mach l G RX9 cX9_digest 5 (d + 3) E) (hR : RtL cX9_digest E Q)   {KB : Int64 → Int32 → Mm → Prop} {K165 : Int64 → Mm → Prop} {v1 : Int64} {v3 : Int32} {M : Mm} (h : k_B_digest_118 Q KB K165 v1 v3 M) (hKB : ∀ (v1 : Int64) (v3 : Int32)  (M : Mm), KB v1 v3 M → E 118 [(0, rv G 0), (1, .long v1), (3, .int v3)] [] M) (hK165 : ∀ (v1 : Int64)  (M : Mm), K165 v1 M → E 165 [(0, rv G 0), (1, .long v1)] [] M) : E 118 [(0, rv G 0), (1, .long v1), (3, .int v3)] [] M := by
  unfold k_B_digest_118 at h
  refine e_iload_n (pc := 118) hE rfl 2 rfl dX9_digest_118 ?_
  refine e_iconst (pc := 119) (v := 3) hE ki_3 dX9_digest_119 ?_
  refine e_icmp_ge (pc := 120) hE 165 dX9_digest_120 (by decide) (fun c0 => ?_) (fun c0 => ?_)
  · have h := h.1 c0
    refine e_sub hE [0, 1] rfl ?_
    exact hK165 _ _ h
  · have h := h.2 c0
    refine e_ldc2 (pc := 123) hE tw_986 dX9_digest_123 ?_
    refine e_lload_n (pc := 126) hE rfl 1 rfl dX9_digest_126 ?_
    refine e_lmul (pc := 127) hE dX9_digest_127 ?_
    refine e_aload_n (pc := 128) hE rfl 0 rfl dX9_digest_128 ?_
    refine g_RB_kept (pc := 129) hE tw_356 dX9_digest_129 ?_
    refine e_iload_n (pc := 132) hE rfl 2 rfl dX9_digest_132 ?_
    have hx133 := kp_of h.1
    refine e_kald (pc := 133) hE ar_2 h.1 dX9_digest_133 ?_
    have h := h.2
    refine g_Kept_there (pc := 134) hE (kp_kd hx133) tw_342 dX9_digest_134 ?_
    refine e_if_eq (pc := 137) hE 155 dX9_digest_137 (by decide) (fun c0 => ?_) (fun c0 => ?_)
    · have h := h.1 c0
      refine e_iconst (pc := 155) (v := -1) hE ki_m1 dX9_digest_155 ?_
      refine e_sub hE [0, 2] rfl ?_
      exact w_B_digest_156 hE hR h hKB hK165
    · have h := h.2 c0
      refine e_aload_n (pc := 140) hE rfl 0 rfl dX9_digest_140 ?_
      refine g_RB_kept (pc := 141) hE tw_356 dX9_digest_141 ?_
      refine e_iload_n (pc := 144) hE rfl 2 rfl dX9_digest_144 ?_
      have hx145 := kp_of h.1
      refine e_kald (pc := 145) hE ar_2 h.1 dX9_digest_145 ?_
      have h := h.2
      refine g_Kept_story (pc := 146) hE (kp_kd hx145) tw_339 dX9_digest_146 ?_
      refine g_Story_deeds (pc := 149) hE (st_kd (stOf_st hx145)) tw_250 dX9_digest_149 ?_
      refine e_goto (pc := 152) hE 156 dX9_digest_152 (by decide) ?_
      refine e_sub hE [0, 2] rfl ?_
      exact w_B_digest_156 hE hR h hKB hK165
set_option maxHeartbeats 4000000 in
set_option maxRecDepth 20000 in
theorem w_lp_B_digest_118 {l : Launch} {G : Gs} {d : Nat} {E : EE}  {Q : Int64 → Mm → Prop} (hE : Mach l G RX9 cX9_digest 5 (d + 3) E) (hR : RtL cX9_digest E Q)   {K165 : Int64 → Mm → Prop} {n : Nat} {v1 : Int64} {v3 : Int32} {M : Mm} (h : lp_B_digest_118 Q K165 n v1 v3 M) (hK165 : ∀ (v1 : Int64)  (M : Mm), K165 v1 M → E 165 [(0, rv G 0), (1, .long v1)] [] M) : E 118 [(0, rv G 0), (1, .long v1), (3, .int v3)] [] M := by
  have key : ∀ (n : Nat) (v1 : Int64) (v3 : Int32) (M : Mm), lp_B_digest_118 Q K165 n v1 v3 M → E 118 [(0, rv G 0), (1, .long v1), (3, .int v3)] [] M := by
    intro n
    induction n with
    | zero => intro v1 v3 M h; exact h.elim
    | succ n ih => intro v1 v3 M h; exact w_B_digest_118 hE hR  (show k_B_digest_118  Q (lp_B_digest_118 Q K165 n) K165 v1 v3 M from h) ih hK165
  exact key n _ _ _ h
set_option maxHeartbeats 4000000 in
set_option maxRecDepth 20000 in
theorem t_B_digest {l : Launch} {G : Gs} {d : Nat}  {M : Mm} {Q : Int64 → Mm → Prop}  (h : wp_B_digest  M Q) : CtL l G (d + 3) yX9_digest cX9_digest 5 (some .long) [rv G 0] M Q := by
  refine CtL.mk (by decide) rfl (Nat.le_of_ble_eq_true rfl) (fun E hE hR => ?_)
  show E 0 [(0, rv G 0)] [] M
  unfold wp_B_digest at h
  refine e_ldc2 (pc := 0) hE tw_985 dX9_digest_0 ?_
  refine e_lstore_n (pc := 3) (lv' := [(1, .long (17 : Int64)), (0, rv G 0)]) hE dX9_digest_3 rfl (by decide) rfl ?_
  refine e_iconst (pc := 4) (v := 0) hE ki_0 dX9_digest_4 ?_
  refine e_istore_n (pc := 5) (lv' := [(3, .int (0 : Int32)), (1, .long (17 : Int64)), (0, rv G 0)]) hE dX9_digest_5 rfl (by decide) rfl ?_
  obtain ⟨n, h⟩ := h
  refine e_sub hE [2, 1, 0] rfl ?_
  refine w_lp_B_digest_6 hE hR  h (fun v1 M h => ?_)
  refine e_ldc2 (pc := 31) hE tw_986 dX9_digest_31 ?_
  refine e_lload_n (pc := 34) hE rfl 1 rfl dX9_digest_34 ?_
  refine e_lmul (pc := 35) hE dX9_digest_35 ?_
  refine e_aload_n (pc := 36) hE rfl 0 rfl dX9_digest_36 ?_
  refine g_RB_story (pc := 37) hE tw_355 dX9_digest_37 ?_
  refine g_Story_present (pc := 40) hE (st_kd st60) tw_247 dX9_digest_40 ?_
  refine g_Flow_season (pc := 43) hE kd_61 tw_219 dX9_digest_43 ?_
  refine e_i2l (pc := 46) hE dX9_digest_46 ?_
  refine e_ladd (pc := 47) hE dX9_digest_47 ?_
  refine e_topl (fun x48 ex48 => ?_)
  have h := h x48 ex48
  refine e_lstore_n (pc := 48) (lv' := [(1, .long x48), (0, rv G 0)]) hE dX9_digest_48 rfl (by decide) rfl ?_
  refine e_iconst (pc := 49) (v := 0) hE ki_0 dX9_digest_49 ?_
  refine e_istore_n (pc := 50) (lv' := [(3, .int (0 : Int32)), (1, .long x48), (0, rv G 0)]) hE dX9_digest_50 rfl (by decide) rfl ?_
  obtain ⟨n, h⟩ := h
  refine e_sub hE [2, 1, 0] rfl ?_
  refine w_lp_B_digest_51 hE hR  h (fun v1 M h => ?_)
  refine e_iconst (pc := 116) (v := 0) hE ki_0 dX9_digest_116 ?_
  refine e_istore_n (pc := 117) (lv' := [(3, .int (0 : Int32)), (0, rv G 0), (1, .long v1)]) hE dX9_digest_117 rfl (by decide) rfl ?_
  obtain ⟨n, h⟩ := h
  refine e_sub hE [1, 2, 0] rfl ?_
  refine w_lp_B_digest_118 hE hR  h (fun v1 M h => ?_)
  refine e_aload_n (pc := 165) hE rfl 0 rfl dX9_digest_165 ?_
  refine g_RB_texts (pc := 166) hE tw_351 dX9_digest_166 ?_
  refine e_aload_n (pc := 169) hE rfl 0 rfl dX9_digest_169 ?_
  refine g_RB_rows (pc := 170) hE tw_350 dX9_digest_170 ?_
  refine e_lload_n (pc := 173) hE rfl 1 rfl dX9_digest_173 ?_
  refine c_Sh_digestOnto (pc := 174) (d := d + 2 + 0) hE (t_Sh_digestOnto (d := d + 2) sh4 h) (sh_kd sh4) tw_988 (Nat.le_of_ble_eq_true rfl) dX9_digest_174 (fun r174 M174 h => ?_)
  refine c_Sh_digestOnto (pc := 177) (d := d + 2 + 0) hE (t_Sh_digestOnto (d := d + 2) sh13 h) (sh_kd sh13) tw_988 (Nat.le_of_ble_eq_true rfl) dX9_digest_177 (fun r177 M177 h => ?_)
  exact hR dX9_digest_180 h
