set_option maxHeartbeats 4000000 in
set_option maxRecDepth 20000 in
theorem t_M_finding {l : Launch} {G : Gs} {d : Nat}  {M : Mm} {Q : Int32 → Mm → Prop}  (h : wp_M_finding  M Q) : CtI l G (d + 0) yX10_finding cX10_finding 1 (some .int) [rv G 312] M Q := by
  refine CtI.mk (by decide) rfl (Nat.le_of_ble_eq_true rfl) (fun E hE hR => ?_)
  show E 0 [(0, rv G 312)] [] M
  unfold wp_M_finding at h
  refine e_aload_n (pc := 0) hE rfl 0 rfl dX10_finding_0 ?_
  refine g_Md_latest (pc := 1) hE tw_999 dX10_finding_1 ?_
  exact hR dX10_finding_4 h
set_option maxHeartbeats 4000000 in
set_option maxRecDepth 20000 in
theorem t_M_in {l : Launch} {G : Gs} {d : Nat} {a0 : Int32} {a1 : Int32} {a2 : Int32} {M : Mm} {Q : Int32 → Mm → Prop}  (h : wp_M_in a0 a1 a2 M Q) : CtI l G (d + 0) yX10_in cX10_in 3 (some .boolean) [.int a0, .int a1, .int a2] M Q := by
  refine CtI.mkZ (by decide) rfl (Nat.le_of_ble_eq_true rfl) (fun E hE hR => ?_)
  show E 0 [(0, .int a0), (1, .int a1), (2, .int a2)] [] M
  unfold wp_M_in at h
  refine e_iload_n (pc := 0) hE rfl 0 rfl dX10_in_0 ?_
  refine e_iload_n (pc := 1) hE rfl 1 rfl dX10_in_1 ?_
  refine e_icmp_lt (pc := 2) hE 14 dX10_in_2 (by decide) (fun c0 => ?_) (fun c0 => ?_)
  · have h := h.1 c0
    refine e_iconst (pc := 14) (v := 0) hE ki_0 dX10_in_14 ?_
    exact hR dX10_in_15 (Or.inl rfl) h
  · have h := h.2 c0
    refine e_iload_n (pc := 5) hE rfl 0 rfl dX10_in_5 ?_
    refine e_iload_n (pc := 6) hE rfl 2 rfl dX10_in_6 ?_
    refine e_icmp_gt (pc := 7) hE 14 dX10_in_7 (by decide) (fun c0 => ?_) (fun c0 => ?_)
    · have h := h.1 c0
      refine e_iconst (pc := 14) (v := 0) hE ki_0 dX10_in_14 ?_
      exact hR dX10_in_15 (Or.inl rfl) h
    · have h := h.2 c0
      refine e_iconst (pc := 10) (v := 1) hE ki_1 dX10_in_10 ?_
      refine e_goto (pc := 11) hE 15 dX10_in_11 (by decide) ?_
      exact hR dX10_in_15 (Or.inr rfl) h
set_option maxHeartbeats 4000000 in
set_option maxRecDepth 20000 in
theorem t_M_findings {l : Launch} {G : Gs} {d : Nat} {a1 : Int32} {M : Mm} {Q : Int32 → Mm → Prop}  (h : wp_M_findings a1 M Q) : CtI l G (d + 1) yX10_findings cX10_findings 2 (some .int) [rv G 312, .int a1] M Q := by
  refine CtI.mk (by decide) rfl (Nat.le_of_ble_eq_true rfl) (fun E hE hR => ?_)
  show E 0 [(0, rv G 312), (1, .int a1)] [] M
  unfold wp_M_findings at h
  refine e_iload_n (pc := 0) hE rfl 1 rfl dX10_findings_0 ?_
  refine e_iconst (pc := 1) (v := 1) hE ki_1 dX10_findings_1 ?_
  refine e_iconst (pc := 2) (v := 5) hE ki_5 dX10_findings_2 ?_
  refine c_M_in (pc := 3) (d := d + 0) hE (t_M_in (d := d)  h) tw_1142 (Nat.le_of_ble_eq_true rfl) dX10_findings_3 (fun r3 M3 h => ?_)
  refine e_if_eq (pc := 6) hE 18 dX10_findings_6 (by decide) (fun c0 => ?_) (fun c0 => ?_)
  · have h := h.1 c0
    refine e_iconst (pc := 18) (v := -1) hE ki_m1 dX10_findings_18 ?_
    exact hR dX10_findings_19 h
  · have h := h.2 c0
    refine e_aload_n (pc := 9) hE rfl 0 rfl dX10_findings_9 ?_
    refine g_Md_came (pc := 10) hE tw_1000 dX10_findings_10 ?_
    refine e_iload_n (pc := 13) hE rfl 1 rfl dX10_findings_13 ?_
    refine e_iald (pc := 14) hE ar_313 h.1 dX10_findings_14 ?_
    have h := h.2
    refine e_goto (pc := 15) hE 19 dX10_findings_15 (by decide) ?_
    exact hR dX10_findings_19 h
set_option maxHeartbeats 4000000 in
set_option maxRecDepth 20000 in
theorem t_M_asked {l : Launch} {G : Gs} {d : Nat}  {M : Mm} {Q : Int32 → Mm → Prop}  (h : wp_M_asked  M Q) : CtI l G (d + 0) yX10_asked cX10_asked 1 (some .int) [rv G 312] M Q := by
  refine CtI.mk (by decide) rfl (Nat.le_of_ble_eq_true rfl) (fun E hE hR => ?_)
  show E 0 [(0, rv G 312)] [] M
  unfold wp_M_asked at h
  refine e_aload_n (pc := 0) hE rfl 0 rfl dX10_asked_0 ?_
  refine g_Md_asked (pc := 1) hE tw_1001 dX10_asked_1 ?_
  exact hR dX10_asked_4 h
set_option maxHeartbeats 4000000 in
set_option maxRecDepth 20000 in
theorem t_M_upper {l : Launch} {G : Gs} {d : Nat}  {M : Mm} {Q : Int64 → Mm → Prop}  (h : wp_M_upper  M Q) : CtL l G (d + 0) yX10_upper cX10_upper 1 (some .long) [rv G 312] M Q := by
  refine CtL.mk (by decide) rfl (Nat.le_of_ble_eq_true rfl) (fun E hE hR => ?_)
  show E 0 [(0, rv G 312)] [] M
  unfold wp_M_upper at h
  refine e_aload_n (pc := 0) hE rfl 0 rfl dX10_upper_0 ?_
  refine g_Md_upper (pc := 1) hE tw_1002 dX10_upper_1 ?_
  exact hR dX10_upper_4 h
set_option maxHeartbeats 4000000 in
set_option maxRecDepth 20000 in
theorem t_M_lower {l : Launch} {G : Gs} {d : Nat}  {M : Mm} {Q : Int64 → Mm → Prop}  (h : wp_M_lower  M Q) : CtL l G (d + 0) yX10_lower cX10_lower 1 (some .long) [rv G 312] M Q := by
  refine CtL.mk (by decide) rfl (Nat.le_of_ble_eq_true rfl) (fun E hE hR => ?_)
  show E 0 [(0, rv G 312)] [] M
  unfold wp_M_lower at h
  refine e_aload_n (pc := 0) hE rfl 0 rfl dX10_lower_0 ?_
  refine g_Md_lower (pc := 1) hE tw_1003 dX10_lower_1 ?_
  exact hR dX10_lower_4 h
set_option maxHeartbeats 4000000 in
set_option maxRecDepth 20000 in
theorem t_M_isRow {l : Launch} {G : Gs} {d : Nat} {a0 : Int32} {M : Mm} {Q : Int32 → Mm → Prop}  (h : wp_M_isRow a0 M Q) : CtI l G (d + 1) yX10_isRow cX10_isRow 1 (some .boolean) [.int a0] M Q := by
  refine CtI.mkZ (by decide) rfl (Nat.le_of_ble_eq_true rfl) (fun E hE hR => ?_)
  show E 0 [(0, .int a0)] [] M
  unfold wp_M_isRow at h
  refine e_iload_n (pc := 0) hE rfl 0 rfl dX10_isRow_0 ?_
  refine e_iconst (pc := 1) (v := 0) hE ki_0 dX10_isRow_1 ?_
  refine e_iconst (pc := 2) (v := 5) hE ki_5 dX10_isRow_2 ?_
  refine c_M_in (pc := 3) (d := d + 0) hE (t_M_in (d := d)  h) tw_1142 (Nat.le_of_ble_eq_true rfl) dX10_isRow_3 (fun r3 M3 h => ?_)
  exact hR dX10_isRow_6 h.1 h.2
set_option maxHeartbeats 4000000 in
set_option maxRecDepth 20000 in
theorem t_M_meets {l : Launch} {G : Gs} {d : Nat} {a1 : Int32} {M : Mm} {Q : Int32 → Mm → Prop}  (h : wp_M_meets a1 M Q) : CtI l G (d + 0) yX10_meets cX10_meets 2 (some .int) [rv G 312, .int a1] M Q := by
  refine CtI.mk (by decide) rfl (Nat.le_of_ble_eq_true rfl) (fun E hE hR => ?_)
  show E 0 [(0, rv G 312), (1, .int a1)] [] M
  unfold wp_M_meets at h
  refine e_aload_n (pc := 0) hE rfl 0 rfl dX10_meets_0 ?_
  refine e_iload_n (pc := 1) hE rfl 1 rfl dX10_meets_1 ?_
  refine p_Md_latest (pc := 2) hE tw_999 dX10_meets_2 ?_
  refine e_aload_n (pc := 5) hE rfl 0 rfl dX10_meets_5 ?_
  refine g_Md_came (pc := 6) hE tw_1000 dX10_meets_6 ?_
  refine e_iload_n (pc := 9) hE rfl 1 rfl dX10_meets_9 ?_
  refine e_dup2 (pc := 10) hE rfl rfl dX10_meets_10 ?_
  refine e_iald (pc := 11) hE ar_313 h.1 dX10_meets_11 ?_
  have h := h.2
  refine e_iconst (pc := 12) (v := 1) hE ki_1 dX10_meets_12 ?_
  refine e_iadd (pc := 13) hE dX10_meets_13 ?_
  refine e_topi (fun x14 ex14 => ?_)
  have h := h x14 ex14
  refine e_iast (pc := 14) hE ar_313 h.1 dX10_meets_14 ?_
  have h := h.2
  refine e_bipush (pc := 15) (v := -3) hE kb_m3 dX10_meets_15 ?_
  exact hR dX10_meets_17 h
set_option maxHeartbeats 4000000 in
set_option maxRecDepth 20000 in
theorem w_M_row_34 {l : Launch} {G : Gs} {d : Nat} {E : EE} {a1 : Int32} {a2 : Int32} {Q : Int32 → Mm → Prop} (hE : Mach l G RX10 cX10_row 4 (d + 2) E) (hR : RtI cX10_row E Q)   {KB : Int32 → Mm → Prop} {v3 : Int32} {M : Mm} (h : k_M_row_34 a1 a2 Q KB v3 M) (hKB : ∀ (v3 : Int32)  (M : Mm), KB v3 M → E 34 [(0, rv G 312), (1, .int a1), (2, .int a2), (3, .int v3)] [] M) : E 34 [(0, rv G 312), (1, .int a1), (2, .int a2), (3, .int v3)] [] M := by
  unfold k_M_row_34 at h
  refine e_iload_n (pc := 34) hE rfl 3 rfl dX10_row_34 ?_
  refine e_bipush (pc := 35) (v := 40) hE kb_40 dX10_row_35 ?_
  refine e_icmp_ge (pc := 37) hE 58 dX10_row_37 (by decide) (fun c0 => ?_) (fun c0 => ?_)
  · have h := h.1 c0
    refine e_iload_n (pc := 58) hE rfl 2 rfl dX10_row_58 ?_
    exact hR dX10_row_59 h
  · have h := h.2 c0
    refine e_aload_n (pc := 40) hE rfl 0 rfl dX10_row_40 ?_
    refine g_Md_rows (pc := 41) hE tw_1005 dX10_row_41 ?_
    refine e_bipush (pc := 44) (v := 40) hE kb_40 dX10_row_44 ?_
    refine e_iload_n (pc := 46) hE rfl 1 rfl dX10_row_46 ?_
    refine e_imul (pc := 47) hE dX10_row_47 ?_
    refine e_iload_n (pc := 48) hE rfl 3 rfl dX10_row_48 ?_
    refine e_iadd (pc := 49) hE dX10_row_49 ?_
    refine e_iconst (pc := 50) (v := 0) hE ki_0 dX10_row_50 ?_
    refine e_iast (pc := 51) hE ar_315 h.1 dX10_row_51 ?_
    have h := h.2
    obtain ⟨x52, ex52⟩ : ∃ y : Int32, y = v3 + (1 : Int32) := ⟨_, rfl⟩
    have h := h x52 ex52
    refine e_iinc (pc := 52) (k := 3) (v := x52) (lv' := [(3, .int x52), (0, rv G 312), (1, .int a1), (2, .int a2)]) hE dX10_row_52 rfl (by rw [ex52, ki_1]) (by decide) rfl ?_
    refine e_goto (pc := 55) hE 34 dX10_row_55 (by decide) ?_
    refine e_sub hE [1, 2, 3, 0] rfl ?_
    exact hKB _ _ h
set_option maxHeartbeats 4000000 in
set_option maxRecDepth 20000 in
theorem w_lp_M_row_34 {l : Launch} {G : Gs} {d : Nat} {E : EE} {a1 : Int32} {a2 : Int32} {Q : Int32 → Mm → Prop} (hE : Mach l G RX10 cX10_row 4 (d + 2) E) (hR : RtI cX10_row E Q)    {n : Nat} {v3 : Int32} {M : Mm} (h : lp_M_row_34 a1 a2 Q n v3 M)  : E 34 [(0, rv G 312), (1, .int a1), (2, .int a2), (3, .int v3)] [] M := by
  have key : ∀ (n : Nat) (v3 : Int32) (M : Mm), lp_M_row_34 a1 a2 Q n v3 M → E 34 [(0, rv G 312), (1, .int a1), (2, .int a2), (3, .int v3)] [] M := by
    intro n
    induction n with
    | zero => intro v3 M h; exact h.elim
    | succ n ih => intro v3 M h; exact w_M_row_34 hE hR  (show k_M_row_34 a1 a2 Q (lp_M_row_34 a1 a2 Q n)  v3 M from h) ih 
  exact key n _ _ h
set_option maxHeartbeats 4000000 in
set_option maxRecDepth 20000 in
theorem t_M_row {l : Launch} {G : Gs} {d : Nat} {a1 : Int32} {a2 : Int32} {M : Mm} {Q : Int32 → Mm → Prop}  (h : wp_M_row a1 a2 M Q) : CtI l G (d + 2) yX10_row cX10_row 4 (some .int) [rv G 312, .int a1, .int a2] M Q := by
  refine CtI.mk (by decide) rfl (Nat.le_of_ble_eq_true rfl) (fun E hE hR => ?_)
  show E 0 [(0, rv G 312), (1, .int a1), (2, .int a2)] [] M
  unfold wp_M_row at h
  refine e_iload_n (pc := 0) hE rfl 1 rfl dX10_row_0 ?_
  refine c_M_isRow (pc := 1) (d := d + 1) hE (t_M_isRow (d := d)  h) tw_1161 (Nat.le_of_ble_eq_true rfl) dX10_row_1 (fun r1 M1 h => ?_)
  refine e_if_eq (pc := 4) hE 13 dX10_row_4 (by decide) (fun c0 => ?_) (fun c0 => ?_)
  · have h := h.1 c0
    refine e_iconst (pc := 13) (v := -1) hE ki_m1 dX10_row_13 ?_
    exact hR dX10_row_14 h
  · have h := h.2 c0
    refine e_iload_n (pc := 7) hE rfl 2 rfl dX10_row_7 ?_
    refine e_bipush (pc := 8) (v := 40) hE kb_40 dX10_row_8 ?_
    refine e_icmp_le (pc := 10) hE 15 dX10_row_10 (by decide) (fun c0 => ?_) (fun c0 => ?_)
    · have h := h.1 c0
      refine e_iload_n (pc := 15) hE rfl 2 rfl dX10_row_15 ?_
      refine e_if_ge (pc := 16) hE 25 dX10_row_16 (by decide) (fun c0 => ?_) (fun c0 => ?_)
      · have h := h.1 c0
        refine e_aload_n (pc := 25) hE rfl 0 rfl dX10_row_25 ?_
        refine g_Md_sizes (pc := 26) hE tw_1004 dX10_row_26 ?_
        refine e_iload_n (pc := 29) hE rfl 1 rfl dX10_row_29 ?_
        refine e_iload_n (pc := 30) hE rfl 2 rfl dX10_row_30 ?_
        refine e_iast (pc := 31) hE ar_314 h.1 dX10_row_31 ?_
        have h := h.2
        refine e_iconst (pc := 32) (v := 0) hE ki_0 dX10_row_32 ?_
        refine e_istore_n (pc := 33) (lv' := [(3, .int (0 : Int32)), (0, rv G 312), (1, .int a1), (2, .int a2)]) hE dX10_row_33 rfl (by decide) rfl ?_
        obtain ⟨n, h⟩ := h
        refine e_sub hE [1, 2, 3, 0] rfl ?_
        refine w_lp_M_row_34 hE hR  h 
      · have h := h.2 c0
        refine e_aload_n (pc := 19) hE rfl 0 rfl dX10_row_19 ?_
        refine e_iconst (pc := 20) (v := 5) hE ki_5 dX10_row_20 ?_
        refine c_M_meets (pc := 21) (d := d + 1 + 0) hE (t_M_meets (d := d + 1)  h) tw_1164 (Nat.le_of_ble_eq_true rfl) dX10_row_21 (fun r21 M21 h => ?_)
        exact hR dX10_row_24 h
    · have h := h.2 c0
      refine e_iconst (pc := 13) (v := -1) hE ki_m1 dX10_row_13 ?_
      exact hR dX10_row_14 h
set_option maxHeartbeats 4000000 in
set_option maxRecDepth 20000 in
theorem t_M_rowAt {l : Launch} {G : Gs} {d : Nat} {a1 : Int32} {a2 : Int32} {M : Mm} {Q : Int32 → Mm → Prop}  (h : wp_M_rowAt a1 a2 M Q) : CtI l G (d + 0) yX10_rowAt cX10_rowAt 3 (some .int) [rv G 312, .int a1, .int a2] M Q := by
  refine CtI.mk (by decide) rfl (Nat.le_of_ble_eq_true rfl) (fun E hE hR => ?_)
  show E 0 [(0, rv G 312), (1, .int a1), (2, .int a2)] [] M
  unfold wp_M_rowAt at h
  refine e_aload_n (pc := 0) hE rfl 0 rfl dX10_rowAt_0 ?_
  refine g_Md_rows (pc := 1) hE tw_1005 dX10_rowAt_1 ?_
  refine e_bipush (pc := 4) (v := 40) hE kb_40 dX10_rowAt_4 ?_
  refine e_iload_n (pc := 6) hE rfl 1 rfl dX10_rowAt_6 ?_
  refine e_imul (pc := 7) hE dX10_rowAt_7 ?_
  refine e_iload_n (pc := 8) hE rfl 2 rfl dX10_rowAt_8 ?_
  refine e_iadd (pc := 9) hE dX10_rowAt_9 ?_
  refine e_iald (pc := 10) hE ar_315 h.1 dX10_rowAt_10 ?_
  have h := h.2
  exact hR dX10_rowAt_11 h
set_option maxHeartbeats 4000000 in
set_option maxRecDepth 20000 in
theorem t_M_tells {l : Launch} {G : Gs} {d : Nat} {a1 : Int32} {a2 : Int32} {M : Mm} {Q : Int32 → Mm → Prop}  (h : wp_M_tells a1 a2 M Q) : CtI l G (d + 0) yX10_tells cX10_tells 3 (some .int) [rv G 312, .int a1, .int a2] M Q := by
  refine CtI.mk (by decide) rfl (Nat.le_of_ble_eq_true rfl) (fun E hE hR => ?_)
  show E 0 [(0, rv G 312), (1, .int a1), (2, .int a2)] [] M
  unfold wp_M_tells at h
  refine e_aload_n (pc := 0) hE rfl 0 rfl dX10_tells_0 ?_
  refine e_iload_n (pc := 1) hE rfl 1 rfl dX10_tells_1 ?_
  refine p_Md_asked (pc := 2) hE tw_1001 dX10_tells_2 ?_
  refine e_iload_n (pc := 5) hE rfl 2 rfl dX10_tells_5 ?_
  exact hR dX10_tells_6 h
set_option maxHeartbeats 4000000 in
set_option maxRecDepth 20000 in
theorem t_M_lay {l : Launch} {G : Gs} {d : Nat} {a1 : Int32} {a2 : Int32} {a3 : Int32} {M : Mm} {Q : Int32 → Mm → Prop}  (h : wp_M_lay a1 a2 a3 M Q) : CtI l G (d + 2) yX10_lay cX10_lay 5 (some .int) [rv G 312, .int a1, .int a2, .int a3] M Q := by
  refine CtI.mk (by decide) rfl (Nat.le_of_ble_eq_true rfl) (fun E hE hR => ?_)
  show E 0 [(0, rv G 312), (1, .int a1), (2, .int a2), (3, .int a3)] [] M
  unfold wp_M_lay at h
  refine e_iload_n (pc := 0) hE rfl 1 rfl dX10_lay_0 ?_
  refine c_M_isRow (pc := 1) (d := d + 1) hE (t_M_isRow (d := d)  h) tw_1161 (Nat.le_of_ble_eq_true rfl) dX10_lay_1 (fun r1 M1 h => ?_)
  refine e_if_ne (pc := 4) hE 9 dX10_lay_4 (by decide) (fun c0 => ?_) (fun c0 => ?_)
  · have h := h.1 c0
    refine e_aload_n (pc := 9) hE rfl 0 rfl dX10_lay_9 ?_
    refine g_Md_sizes (pc := 10) hE tw_1004 dX10_lay_10 ?_
    refine e_iload_n (pc := 13) hE rfl 1 rfl dX10_lay_13 ?_
    refine e_iald (pc := 14) hE ar_314 h.1 dX10_lay_14 ?_
    have h := h.2
    refine e_if_ge (pc := 15) hE 24 dX10_lay_15 (by decide) (fun c0 => ?_) (fun c0 => ?_)
    · have h := h.1 c0
      refine e_iload_n (pc := 24) hE rfl 2 rfl dX10_lay_24 ?_
      refine e_iconst (pc := 25) (v := 0) hE ki_0 dX10_lay_25 ?_
      refine e_aload_n (pc := 26) hE rfl 0 rfl dX10_lay_26 ?_
      refine g_Md_sizes (pc := 27) hE tw_1004 dX10_lay_27 ?_
      refine e_iload_n (pc := 30) hE rfl 1 rfl dX10_lay_30 ?_
      refine e_iald (pc := 31) hE ar_314 h.1 dX10_lay_31 ?_
      have h := h.2
      refine e_iconst (pc := 32) (v := 1) hE ki_1 dX10_lay_32 ?_
      refine e_isub (pc := 33) hE dX10_lay_33 ?_
      refine c_M_in (pc := 34) (d := d + 1 + 0) hE (t_M_in (d := d + 1)  h) tw_1142 (Nat.le_of_ble_eq_true rfl) dX10_lay_34 (fun r34 M34 h => ?_)
      refine e_if_ne (pc := 37) hE 46 dX10_lay_37 (by decide) (fun c0 => ?_) (fun c0 => ?_)
      · have h := h.1 c0
        refine e_aload_n (pc := 46) hE rfl 0 rfl dX10_lay_46 ?_
        refine e_iload_n (pc := 47) hE rfl 1 rfl dX10_lay_47 ?_
        refine e_iload_n (pc := 48) hE rfl 2 rfl dX10_lay_48 ?_
        refine c_M_rowAt (pc := 49) (d := d + 1 + 0) hE (t_M_rowAt (d := d + 1)  h) tw_1172 (Nat.le_of_ble_eq_true rfl) dX10_lay_49 (fun r49 M49 h => ?_)
        refine e_istore (pc := 52) (lv' := [(4, .int r49), (0, rv G 312), (1, .int a1), (2, .int a2), (3, .int a3)]) hE dX10_lay_52 (by decide) rfl ?_
        refine e_aload_n (pc := 54) hE rfl 1 rfl dX10_lay_54 ?_
        refine g_Md_rows (pc := 55) hE tw_1005 dX10_lay_55 ?_
        refine e_bipush (pc := 58) (v := 40) hE kb_40 dX10_lay_58 ?_
        refine e_iload_n (pc := 60) hE rfl 2 rfl dX10_lay_60 ?_
        refine e_imul (pc := 61) hE dX10_lay_61 ?_
        refine e_iload_n (pc := 62) hE rfl 3 rfl dX10_lay_62 ?_
        refine e_iadd (pc := 63) hE dX10_lay_63 ?_
        refine e_iload_n (pc := 64) hE rfl 4 rfl dX10_lay_64 ?_
        refine e_iast (pc := 65) hE ar_315 h.1 dX10_lay_65 ?_
        have h := h.2
        refine e_aload_n (pc := 66) hE rfl 1 rfl dX10_lay_66 ?_
        refine e_iload (pc := 67) hE 0 rfl dX10_lay_67 ?_
        refine e_iconst (pc := 69) (v := 1) hE ki_1 dX10_lay_69 ?_
        refine c_M_tells (pc := 70) (d := d + 1 + 0) hE (t_M_tells (d := d + 1)  h) tw_1176 (Nat.le_of_ble_eq_true rfl) dX10_lay_70 (fun r70 M70 h => ?_)
        exact hR dX10_lay_73 h
      · have h := h.2 c0
        refine e_aload_n (pc := 40) hE rfl 0 rfl dX10_lay_40 ?_
        refine e_iconst (pc := 41) (v := 2) hE ki_2 dX10_lay_41 ?_
        refine c_M_meets (pc := 42) (d := d + 1 + 0) hE (t_M_meets (d := d + 1)  h) tw_1164 (Nat.le_of_ble_eq_true rfl) dX10_lay_42 (fun r42 M42 h => ?_)
        exact hR dX10_lay_45 h
    · have h := h.2 c0
      refine e_aload_n (pc := 18) hE rfl 0 rfl dX10_lay_18 ?_
      refine e_iconst (pc := 19) (v := 1) hE ki_1 dX10_lay_19 ?_
      refine c_M_meets (pc := 20) (d := d + 1 + 0) hE (t_M_meets (d := d + 1)  h) tw_1164 (Nat.le_of_ble_eq_true rfl) dX10_lay_20 (fun r20 M20 h => ?_)
      exact hR dX10_lay_23 h
  · have h := h.2 c0
    refine e_iconst (pc := 7) (v := -1) hE ki_m1 dX10_lay_7 ?_
    exact hR dX10_lay_8 h
set_option maxHeartbeats 4000000 in
set_option maxRecDepth 20000 in
theorem t_M_at {l : Launch} {G : Gs} {d : Nat} {a1 : Int32} {a2 : Int32} {M : Mm} {Q : Int32 → Mm → Prop}  (h : wp_M_at a1 a2 M Q) : CtI l G (d + 2) yX10_at cX10_at 3 (some .int) [rv G 312, .int a1, .int a2] M Q := by
  refine CtI.mk (by decide) rfl (Nat.le_of_ble_eq_true rfl) (fun E hE hR => ?_)
  show E 0 [(0, rv G 312), (1, .int a1), (2, .int a2)] [] M
  unfold wp_M_at at h
  refine e_iload_n (pc := 0) hE rfl 1 rfl dX10_at_0 ?_
  refine c_M_isRow (pc := 1) (d := d + 1) hE (t_M_isRow (d := d)  h) tw_1161 (Nat.le_of_ble_eq_true rfl) dX10_at_1 (fun r1 M1 h => ?_)
  refine e_if_ne (pc := 4) hE 9 dX10_at_4 (by decide) (fun c0 => ?_) (fun c0 => ?_)
  · have h := h.1 c0
    refine e_aload_n (pc := 9) hE rfl 0 rfl dX10_at_9 ?_
    refine g_Md_sizes (pc := 10) hE tw_1004 dX10_at_10 ?_
    refine e_iload_n (pc := 13) hE rfl 1 rfl dX10_at_13 ?_
    refine e_iald (pc := 14) hE ar_314 h.1 dX10_at_14 ?_
    have h := h.2
    refine e_if_ge (pc := 15) hE 24 dX10_at_15 (by decide) (fun c0 => ?_) (fun c0 => ?_)
    · have h := h.1 c0
      refine e_iload_n (pc := 24) hE rfl 2 rfl dX10_at_24 ?_
      refine e_iconst (pc := 25) (v := 0) hE ki_0 dX10_at_25 ?_
      refine e_aload_n (pc := 26) hE rfl 0 rfl dX10_at_26 ?_
      refine g_Md_sizes (pc := 27) hE tw_1004 dX10_at_27 ?_
      refine e_iload_n (pc := 30) hE rfl 1 rfl dX10_at_30 ?_
      refine e_iald (pc := 31) hE ar_314 h.1 dX10_at_31 ?_
      have h := h.2
      refine e_iconst (pc := 32) (v := 1) hE ki_1 dX10_at_32 ?_
      refine e_isub (pc := 33) hE dX10_at_33 ?_
      refine c_M_in (pc := 34) (d := d + 1 + 0) hE (t_M_in (d := d + 1)  h) tw_1142 (Nat.le_of_ble_eq_true rfl) dX10_at_34 (fun r34 M34 h => ?_)
      refine e_if_eq (pc := 37) hE 54 dX10_at_37 (by decide) (fun c0 => ?_) (fun c0 => ?_)
      · have h := h.1 c0
        refine e_aload_n (pc := 54) hE rfl 0 rfl dX10_at_54 ?_
        refine e_iconst (pc := 55) (v := 2) hE ki_2 dX10_at_55 ?_
        refine c_M_meets (pc := 56) (d := d + 1 + 0) hE (t_M_meets (d := d + 1)  h) tw_1164 (Nat.le_of_ble_eq_true rfl) dX10_at_56 (fun r56 M56 h => ?_)
        exact hR dX10_at_59 h
      · have h := h.2 c0
        refine e_aload_n (pc := 40) hE rfl 0 rfl dX10_at_40 ?_
        refine e_aload_n (pc := 41) hE rfl 0 rfl dX10_at_41 ?_
        refine e_iload_n (pc := 42) hE rfl 1 rfl dX10_at_42 ?_
        refine e_iload_n (pc := 43) hE rfl 2 rfl dX10_at_43 ?_
        refine c_M_rowAt (pc := 44) (d := d + 1 + 0) hE (t_M_rowAt (d := d + 1)  h) tw_1172 (Nat.le_of_ble_eq_true rfl) dX10_at_44 (fun r44 M44 h => ?_)
        refine e_iconst (pc := 47) (v := 1) hE ki_1 dX10_at_47 ?_
        refine c_M_tells (pc := 48) (d := d + 1 + 0) hE (t_M_tells (d := d + 1)  h) tw_1176 (Nat.le_of_ble_eq_true rfl) dX10_at_48 (fun r48 M48 h => ?_)
        refine e_goto (pc := 51) hE 59 dX10_at_51 (by decide) ?_
        exact hR dX10_at_59 h
    · have h := h.2 c0
      refine e_aload_n (pc := 18) hE rfl 0 rfl dX10_at_18 ?_
      refine e_iconst (pc := 19) (v := 1) hE ki_1 dX10_at_19 ?_
      refine c_M_meets (pc := 20) (d := d + 1 + 0) hE (t_M_meets (d := d + 1)  h) tw_1164 (Nat.le_of_ble_eq_true rfl) dX10_at_20 (fun r20 M20 h => ?_)
      exact hR dX10_at_23 h
  · have h := h.2 c0
    refine e_iconst (pc := 7) (v := -1) hE ki_m1 dX10_at_7 ?_
    exact hR dX10_at_8 h
set_option maxHeartbeats 4000000 in
set_option maxRecDepth 20000 in
theorem t_M_tear {l : Launch} {G : Gs} {d : Nat} {a1 : Int32} {M : Mm} {Q : Int32 → Mm → Prop}  (h : wp_M_tear a1 M Q) : CtI l G (d + 2) yX10_tear cX10_tear 2 (some .int) [rv G 312, .int a1] M Q := by
  refine CtI.mk (by decide) rfl (Nat.le_of_ble_eq_true rfl) (fun E hE hR => ?_)
  show E 0 [(0, rv G 312), (1, .int a1)] [] M
  unfold wp_M_tear at h
  refine e_iload_n (pc := 0) hE rfl 1 rfl dX10_tear_0 ?_
  refine c_M_isRow (pc := 1) (d := d + 1) hE (t_M_isRow (d := d)  h) tw_1161 (Nat.le_of_ble_eq_true rfl) dX10_tear_1 (fun r1 M1 h => ?_)
  refine e_if_ne (pc := 4) hE 9 dX10_tear_4 (by decide) (fun c0 => ?_) (fun c0 => ?_)
  · have h := h.1 c0
    refine e_aload_n (pc := 9) hE rfl 0 rfl dX10_tear_9 ?_
    refine g_Md_sizes (pc := 10) hE tw_1004 dX10_tear_10 ?_
    refine e_iload_n (pc := 13) hE rfl 1 rfl dX10_tear_13 ?_
    refine e_iald (pc := 14) hE ar_314 h.1 dX10_tear_14 ?_
    have h := h.2
    refine e_if_ge (pc := 15) hE 24 dX10_tear_15 (by decide) (fun c0 => ?_) (fun c0 => ?_)
    · have h := h.1 c0
      refine e_aload_n (pc := 24) hE rfl 0 rfl dX10_tear_24 ?_
      refine g_Md_sizes (pc := 25) hE tw_1004 dX10_tear_25 ?_
      refine e_iload_n (pc := 28) hE rfl 1 rfl dX10_tear_28 ?_
      refine e_iconst (pc := 29) (v := -1) hE ki_m1 dX10_tear_29 ?_
      refine e_iast (pc := 30) hE ar_314 h.1 dX10_tear_30 ?_
      have h := h.2
      refine e_iconst (pc := 31) (v := 1) hE ki_1 dX10_tear_31 ?_
      exact hR dX10_tear_32 h
    · have h := h.2 c0
      refine e_aload_n (pc := 18) hE rfl 0 rfl dX10_tear_18 ?_
      refine e_iconst (pc := 19) (v := 1) hE ki_1 dX10_tear_19 ?_
      refine c_M_meets (pc := 20) (d := d + 1 + 0) hE (t_M_meets (d := d + 1)  h) tw_1164 (Nat.le_of_ble_eq_true rfl) dX10_tear_20 (fun r20 M20 h => ?_)
      exact hR dX10_tear_23 h
  · have h := h.2 c0
    refine e_iconst (pc := 7) (v := -1) hE ki_m1 dX10_tear_7 ?_
    exact hR dX10_tear_8 h
set_option maxHeartbeats 4000000 in
set_option maxRecDepth 20000 in
theorem w_M_copy_45 {l : Launch} {G : Gs} {d : Nat} {E : EE} {a1 : Int32} {a2 : Int32} {a3 : Int32} {a4 : Int32} {a5 : Int32} {Q : Int32 → Mm → Prop} (hE : Mach l G RX10 cX10_copy 7 (d + 2) E) (hR : RtI cX10_copy E Q)     {M : Mm} (h : k_M_copy_45 a1 a2 a3 a4 a5 Q M)  : E 45 [(0, rv G 312)] [] M := by
  unfold k_M_copy_45 at h
  refine e_aload_n (pc := 45) hE rfl 0 rfl dX10_copy_45 ?_
  refine e_iconst (pc := 46) (v := 1) hE ki_1 dX10_copy_46 ?_
  refine c_M_meets (pc := 47) (d := d + 1 + 0) hE (t_M_meets (d := d + 1)  h) tw_1164 (Nat.le_of_ble_eq_true rfl) dX10_copy_47 (fun r47 M47 h => ?_)
  exact hR dX10_copy_50 h
set_option maxHeartbeats 4000000 in
set_option maxRecDepth 20000 in
theorem w_M_copy_95 {l : Launch} {G : Gs} {d : Nat} {E : EE} {a1 : Int32} {a2 : Int32} {a3 : Int32} {a4 : Int32} {a5 : Int32} {Q : Int32 → Mm → Prop} (hE : Mach l G RX10 cX10_copy 7 (d + 2) E) (hR : RtI cX10_copy E Q)     {M : Mm} (h : k_M_copy_95 a1 a2 a3 a4 a5 Q M)  : E 95 [(0, rv G 312)] [] M := by
  unfold k_M_copy_95 at h
  refine e_aload_n (pc := 95) hE rfl 0 rfl dX10_copy_95 ?_
  refine e_iconst (pc := 96) (v := 2) hE ki_2 dX10_copy_96 ?_
  refine c_M_meets (pc := 97) (d := d + 1 + 0) hE (t_M_meets (d := d + 1)  h) tw_1164 (Nat.le_of_ble_eq_true rfl) dX10_copy_97 (fun r97 M97 h => ?_)
  exact hR dX10_copy_100 h
set_option maxHeartbeats 4000000 in
set_option maxRecDepth 20000 in
theorem w_M_copy_104 {l : Launch} {G : Gs} {d : Nat} {E : EE} {a1 : Int32} {a2 : Int32} {a3 : Int32} {a4 : Int32} {a5 : Int32} {Q : Int32 → Mm → Prop} (hE : Mach l G RX10 cX10_copy 7 (d + 2) E) (hR : RtI cX10_copy E Q)   {KB : Int32 → Mm → Prop} {K133 : Mm → Prop} {v6 : Int32} {M : Mm} (h : k_M_copy_104 a1 a2 a3 a4 a5 Q KB K133 v6 M) (hKB : ∀ (v6 : Int32)  (M : Mm), KB v6 M → E 104 [(0, rv G 312), (1, .int a1), (2, .int a2), (3, .int a3), (4, .int a4), (5, .int a5), (6, .int v6)] [] M) (hK133 : ∀  (M : Mm), K133 M → E 133 [(0, rv G 312), (3, .int a3), (4, .int a4), (5, .int a5)] [] M) : E 104 [(0, rv G 312), (1, .int a1), (2, .int a2), (3, .int a3), (4, .int a4), (5, .int a5), (6, .int v6)] [] M := by
  unfold k_M_copy_104 at h
  refine e_iload (pc := 104) hE 6 rfl dX10_copy_104 ?_
  refine e_iload (pc := 106) hE 5 rfl dX10_copy_106 ?_
  refine e_icmp_ge (pc := 108) hE 133 dX10_copy_108 (by decide) (fun c0 => ?_) (fun c0 => ?_)
  · have h := h.1 c0
    refine e_sub hE [0, 3, 4, 5] rfl ?_
    exact hK133 _ h
  · have h := h.2 c0
    refine e_aload_n (pc := 111) hE rfl 0 rfl dX10_copy_111 ?_
    refine g_Md_copied (pc := 112) hE tw_1006 dX10_copy_112 ?_
    refine e_iload (pc := 115) hE 6 rfl dX10_copy_115 ?_
    refine e_aload_n (pc := 117) hE rfl 0 rfl dX10_copy_117 ?_
    refine e_iload_n (pc := 118) hE rfl 1 rfl dX10_copy_118 ?_
    refine e_iload_n (pc := 119) hE rfl 2 rfl dX10_copy_119 ?_
    refine e_iload (pc := 120) hE 6 rfl dX10_copy_120 ?_
    refine e_iadd (pc := 122) hE dX10_copy_122 ?_
    refine c_M_rowAt (pc := 123) (d := d + 1 + 0) hE (t_M_rowAt (d := d + 1)  h) tw_1172 (Nat.le_of_ble_eq_true rfl) dX10_copy_123 (fun r123 M123 h => ?_)
    refine e_iast (pc := 126) hE ar_316 h.1 dX10_copy_126 ?_
    have h := h.2
    obtain ⟨x127, ex127⟩ : ∃ y : Int32, y = v6 + (1 : Int32) := ⟨_, rfl⟩
    have h := h x127 ex127
    refine e_iinc (pc := 127) (k := 6) (v := x127) (lv' := [(6, .int x127), (0, rv G 312), (1, .int a1), (2, .int a2), (3, .int a3), (4, .int a4), (5, .int a5)]) hE dX10_copy_127 rfl (by rw [ex127, ki_1]) (by decide) rfl ?_
    refine e_goto (pc := 130) hE 104 dX10_copy_130 (by decide) ?_
    refine e_sub hE [1, 2, 3, 4, 5, 6, 0] rfl ?_
    exact hKB _ _ h
set_option maxHeartbeats 4000000 in
set_option maxRecDepth 20000 in
theorem w_lp_M_copy_104 {l : Launch} {G : Gs} {d : Nat} {E : EE} {a1 : Int32} {a2 : Int32} {a3 : Int32} {a4 : Int32} {a5 : Int32} {Q : Int32 → Mm → Prop} (hE : Mach l G RX10 cX10_copy 7 (d + 2) E) (hR : RtI cX10_copy E Q)   {K133 : Mm → Prop} {n : Nat} {v6 : Int32} {M : Mm} (h : lp_M_copy_104 a1 a2 a3 a4 a5 Q K133 n v6 M) (hK133 : ∀  (M : Mm), K133 M → E 133 [(0, rv G 312), (3, .int a3), (4, .int a4), (5, .int a5)] [] M) : E 104 [(0, rv G 312), (1, .int a1), (2, .int a2), (3, .int a3), (4, .int a4), (5, .int a5), (6, .int v6)] [] M := by
  have key : ∀ (n : Nat) (v6 : Int32) (M : Mm), lp_M_copy_104 a1 a2 a3 a4 a5 Q K133 n v6 M → E 104 [(0, rv G 312), (1, .int a1), (2, .int a2), (3, .int a3), (4, .int a4), (5, .int a5), (6, .int v6)] [] M := by
    intro n
    induction n with
    | zero => intro v6 M h; exact h.elim
    | succ n ih => intro v6 M h; exact w_M_copy_104 hE hR  (show k_M_copy_104 a1 a2 a3 a4 a5 Q (lp_M_copy_104 a1 a2 a3 a4 a5 Q K133 n) K133 v6 M from h) ih hK133
  exact key n _ _ h
set_option maxHeartbeats 4000000 in
set_option maxRecDepth 20000 in
theorem w_M_copy_136 {l : Launch} {G : Gs} {d : Nat} {E : EE} {a1 : Int32} {a2 : Int32} {a3 : Int32} {a4 : Int32} {a5 : Int32} {Q : Int32 → Mm → Prop} (hE : Mach l G RX10 cX10_copy 7 (d + 2) E) (hR : RtI cX10_copy E Q)   {KB : Int32 → Mm → Prop} {v6 : Int32} {M : Mm} (h : k_M_copy_136 a1 a2 a3 a4 a5 Q KB v6 M) (hKB : ∀ (v6 : Int32)  (M : Mm), KB v6 M → E 136 [(0, rv G 312), (3, .int a3), (4, .int a4), (5, .int a5), (6, .int v6)] [] M) : E 136 [(0, rv G 312), (3, .int a3), (4, .int a4), (5, .int a5), (6, .int v6)] [] M := by
  unfold k_M_copy_136 at h
  refine e_iload (pc := 136) hE 4 rfl dX10_copy_136 ?_
  refine e_iload (pc := 138) hE 3 rfl dX10_copy_138 ?_
  refine e_icmp_ge (pc := 140) hE 171 dX10_copy_140 (by decide) (fun c0 => ?_) (fun c0 => ?_)
  · have h := h.1 c0
    refine e_iconst (pc := 171) (v := 1) hE ki_1 dX10_copy_171 ?_
    exact hR dX10_copy_172 h
  · have h := h.2 c0
    refine e_aload_n (pc := 143) hE rfl 0 rfl dX10_copy_143 ?_
    refine g_Md_rows (pc := 144) hE tw_1005 dX10_copy_144 ?_
    refine e_bipush (pc := 147) (v := 40) hE kb_40 dX10_copy_147 ?_
    refine e_iload_n (pc := 149) hE rfl 1 rfl dX10_copy_149 ?_
    refine e_imul (pc := 150) hE dX10_copy_150 ?_
    refine e_iload (pc := 151) hE 2 rfl dX10_copy_151 ?_
    refine e_iadd (pc := 153) hE dX10_copy_153 ?_
    refine e_iload (pc := 154) hE 4 rfl dX10_copy_154 ?_
    refine e_iadd (pc := 156) hE dX10_copy_156 ?_
    refine e_aload_n (pc := 157) hE rfl 0 rfl dX10_copy_157 ?_
    refine g_Md_copied (pc := 158) hE tw_1006 dX10_copy_158 ?_
    refine e_iload (pc := 161) hE 4 rfl dX10_copy_161 ?_
    refine e_iald (pc := 163) hE ar_316 h.1 dX10_copy_163 ?_
    have h := h.2
    refine e_topi (fun x164 ex164 => ?_)
    have h := h x164 ex164
    refine e_iast (pc := 164) hE ar_315 h.1 dX10_copy_164 ?_
    have h := h.2
    obtain ⟨x165, ex165⟩ : ∃ y : Int32, y = v6 + (1 : Int32) := ⟨_, rfl⟩
    have h := h x165 ex165
    refine e_iinc (pc := 165) (k := 4) (v := x165) (lv' := [(6, .int x165), (0, rv G 312), (3, .int a3), (4, .int a4), (5, .int a5)]) hE dX10_copy_165 rfl (by rw [ex165, ki_1]) (by decide) rfl ?_
    refine e_goto (pc := 168) hE 136 dX10_copy_168 (by decide) ?_
    refine e_sub hE [1, 2, 3, 4, 0] rfl ?_
    exact hKB _ _ h
set_option maxHeartbeats 4000000 in
set_option maxRecDepth 20000 in
theorem w_lp_M_copy_136 {l : Launch} {G : Gs} {d : Nat} {E : EE} {a1 : Int32} {a2 : Int32} {a3 : Int32} {a4 : Int32} {a5 : Int32} {Q : Int32 → Mm → Prop} (hE : Mach l G RX10 cX10_copy 7 (d + 2) E) (hR : RtI cX10_copy E Q)    {n : Nat} {v6 : Int32} {M : Mm} (h : lp_M_copy_136 a1 a2 a3 a4 a5 Q n v6 M)  : E 136 [(0, rv G 312), (3, .int a3), (4, .int a4), (5, .int a5), (6, .int v6)] [] M := by
  have key : ∀ (n : Nat) (v6 : Int32) (M : Mm), lp_M_copy_136 a1 a2 a3 a4 a5 Q n v6 M → E 136 [(0, rv G 312), (3, .int a3), (4, .int a4), (5, .int a5), (6, .int v6)] [] M := by
    intro n
    induction n with
    | zero => intro v6 M h; exact h.elim
    | succ n ih => intro v6 M h; exact w_M_copy_136 hE hR  (show k_M_copy_136 a1 a2 a3 a4 a5 Q (lp_M_copy_136 a1 a2 a3 a4 a5 Q n)  v6 M from h) ih 
  exact key n _ _ h
set_option maxHeartbeats 4000000 in
set_option maxRecDepth 20000 in
theorem t_M_copy {l : Launch} {G : Gs} {d : Nat} {a1 : Int32} {a2 : Int32} {a3 : Int32} {a4 : Int32} {a5 : Int32} {M : Mm} {Q : Int32 → Mm → Prop}  (h : wp_M_copy a1 a2 a3 a4 a5 M Q) : CtI l G (d + 2) yX10_copy cX10_copy 7 (some .int) [rv G 312, .int a1, .int a2, .int a3, .int a4, .int a5] M Q := by
  refine CtI.mk (by decide) rfl (Nat.le_of_ble_eq_true rfl) (fun E hE hR => ?_)
  show E 0 [(0, rv G 312), (1, .int a1), (2, .int a2), (3, .int a3), (4, .int a4), (5, .int a5)] [] M
  unfold wp_M_copy at h
  refine e_iload_n (pc := 0) hE rfl 1 rfl dX10_copy_0 ?_
  refine c_M_isRow (pc := 1) (d := d + 1) hE (t_M_isRow (d := d)  h) tw_1161 (Nat.le_of_ble_eq_true rfl) dX10_copy_1 (fun r1 M1 h => ?_)
  refine e_if_eq (pc := 4) hE 14 dX10_copy_4 (by decide) (fun c0 => ?_) (fun c0 => ?_)
  · have h := h.1 c0
    refine e_iconst (pc := 14) (v := -1) hE ki_m1 dX10_copy_14 ?_
    exact hR dX10_copy_15 h
  · have h := h.2 c0
    refine e_iload_n (pc := 7) hE rfl 3 rfl dX10_copy_7 ?_
    refine c_M_isRow (pc := 8) (d := d + 1) hE (t_M_isRow (d := d)  h) tw_1161 (Nat.le_of_ble_eq_true rfl) dX10_copy_8 (fun r8 M8 h => ?_)
    refine e_if_ne (pc := 11) hE 16 dX10_copy_11 (by decide) (fun c0 => ?_) (fun c0 => ?_)
    · have h := h.1 c0
      refine e_iload (pc := 16) hE 5 rfl dX10_copy_16 ?_
      refine e_if_ge (pc := 18) hE 27 dX10_copy_18 (by decide) (fun c0 => ?_) (fun c0 => ?_)
      · have h := h.1 c0
        refine e_aload_n (pc := 27) hE rfl 0 rfl dX10_copy_27 ?_
        refine g_Md_sizes (pc := 28) hE tw_1004 dX10_copy_28 ?_
        refine e_iload_n (pc := 31) hE rfl 1 rfl dX10_copy_31 ?_
        refine e_iald (pc := 32) hE ar_314 h.1 dX10_copy_32 ?_
        have h := h.2
        refine e_if_lt (pc := 33) hE 45 dX10_copy_33 (by decide) (fun c0 => ?_) (fun c0 => ?_)
        · have h := h.1 c0
          refine e_sub hE [0] rfl ?_
          exact w_M_copy_45 hE hR h
        · have h := h.2 c0
          refine e_aload_n (pc := 36) hE rfl 0 rfl dX10_copy_36 ?_
          refine g_Md_sizes (pc := 37) hE tw_1004 dX10_copy_37 ?_
          refine e_iload_n (pc := 40) hE rfl 3 rfl dX10_copy_40 ?_
          refine e_iald (pc := 41) hE ar_314 h.1 dX10_copy_41 ?_
          have h := h.2
          refine e_if_ge (pc := 42) hE 51 dX10_copy_42 (by decide) (fun c0 => ?_) (fun c0 => ?_)
          · have h := h.1 c0
            refine e_iload_n (pc := 51) hE rfl 2 rfl dX10_copy_51 ?_
            refine e_if_lt (pc := 52) hE 95 dX10_copy_52 (by decide) (fun c0 => ?_) (fun c0 => ?_)
            · have h := h.1 c0
              refine e_sub hE [0] rfl ?_
              exact w_M_copy_95 hE hR h
            · have h := h.2 c0
              refine e_iload (pc := 55) hE 4 rfl dX10_copy_55 ?_
              refine e_if_lt (pc := 57) hE 95 dX10_copy_57 (by decide) (fun c0 => ?_) (fun c0 => ?_)
              · have h := h.1 c0
                refine e_sub hE [0] rfl ?_
                exact w_M_copy_95 hE hR h
              · have h := h.2 c0
                refine e_iload_n (pc := 60) hE rfl 2 rfl dX10_copy_60 ?_
                refine e_i2l (pc := 61) hE dX10_copy_61 ?_
                refine e_iload (pc := 62) hE 5 rfl dX10_copy_62 ?_
                refine e_i2l (pc := 64) hE dX10_copy_64 ?_
                refine e_ladd (pc := 65) hE dX10_copy_65 ?_
                refine e_aload_n (pc := 66) hE rfl 0 rfl dX10_copy_66 ?_
                refine g_Md_sizes (pc := 67) hE tw_1004 dX10_copy_67 ?_
                refine e_iload_n (pc := 70) hE rfl 1 rfl dX10_copy_70 ?_
                refine e_iald (pc := 71) hE ar_314 h.1 dX10_copy_71 ?_
                have h := h.2
                refine e_i2l (pc := 72) hE dX10_copy_72 ?_
                refine e_lcmp (pc := 73) hE dX10_copy_73 ?_
                refine e_if_gt (pc := 74) hE 95 dX10_copy_74 (by decide) (fun c0 => ?_) (fun c0 => ?_)
                · have h := h.1 c0
                  refine e_sub hE [0] rfl ?_
                  exact w_M_copy_95 hE hR h
                · have h := h.2 c0
                  refine e_iload (pc := 77) hE 4 rfl dX10_copy_77 ?_
                  refine e_i2l (pc := 79) hE dX10_copy_79 ?_
                  refine e_iload (pc := 80) hE 5 rfl dX10_copy_80 ?_
                  refine e_i2l (pc := 82) hE dX10_copy_82 ?_
                  refine e_ladd (pc := 83) hE dX10_copy_83 ?_
                  refine e_aload_n (pc := 84) hE rfl 0 rfl dX10_copy_84 ?_
                  refine g_Md_sizes (pc := 85) hE tw_1004 dX10_copy_85 ?_
                  refine e_iload_n (pc := 88) hE rfl 3 rfl dX10_copy_88 ?_
                  refine e_iald (pc := 89) hE ar_314 h.1 dX10_copy_89 ?_
                  have h := h.2
                  refine e_i2l (pc := 90) hE dX10_copy_90 ?_
                  refine e_lcmp (pc := 91) hE dX10_copy_91 ?_
                  refine e_if_le (pc := 92) hE 101 dX10_copy_92 (by decide) (fun c0 => ?_) (fun c0 => ?_)
                  · have h := h.1 c0
                    refine e_iconst (pc := 101) (v := 0) hE ki_0 dX10_copy_101 ?_
                    refine e_istore (pc := 102) (lv' := [(6, .int (0 : Int32)), (0, rv G 312), (1, .int a1), (2, .int a2), (3, .int a3), (4, .int a4), (5, .int a5)]) hE dX10_copy_102 (by decide) rfl ?_
                    obtain ⟨n, h⟩ := h
                    refine e_sub hE [1, 2, 3, 4, 5, 6, 0] rfl ?_
                    refine w_lp_M_copy_104 hE hR  h (fun M h => ?_)
                    refine e_iconst (pc := 133) (v := 0) hE ki_0 dX10_copy_133 ?_
                    refine e_istore (pc := 134) (lv' := [(6, .int (0 : Int32)), (0, rv G 312), (3, .int a3), (4, .int a4), (5, .int a5)]) hE dX10_copy_134 (by decide) rfl ?_
                    obtain ⟨n, h⟩ := h
                    refine e_sub hE [1, 2, 3, 4, 0] rfl ?_
                    refine w_lp_M_copy_136 hE hR  h 
                  · have h := h.2 c0
                    refine e_sub hE [0] rfl ?_
                    exact w_M_copy_95 hE hR h
          · have h := h.2 c0
            refine e_sub hE [0] rfl ?_
            exact w_M_copy_45 hE hR h
      · have h := h.2 c0
        refine e_aload_n (pc := 21) hE rfl 0 rfl dX10_copy_21 ?_
        refine e_iconst (pc := 22) (v := 5) hE ki_5 dX10_copy_22 ?_
        refine c_M_meets (pc := 23) (d := d + 1 + 0) hE (t_M_meets (d := d + 1)  h) tw_1164 (Nat.le_of_ble_eq_true rfl) dX10_copy_23 (fun r23 M23 h => ?_)
        exact hR dX10_copy_26 h
    · have h := h.2 c0
      refine e_iconst (pc := 14) (v := -1) hE ki_m1 dX10_copy_14 ?_
      exact hR dX10_copy_15 h
set_option maxHeartbeats 4000000 in
set_option maxRecDepth 20000 in
theorem w_M_mean_44 {l : Launch} {G : Gs} {d : Nat} {E : EE} {a1 : Int32} {Q : Int32 → Mm → Prop} (hE : Mach l G RX10 cX10_mean 5 (d + 2) E) (hR : RtI cX10_mean E Q)   {KB : Int64 → Int32 → Mm → Prop} {K72 : Int64 → Mm → Prop} {v2 : Int64} {v4 : Int32} {M : Mm} (h : k_M_mean_44 a1 Q KB K72 v2 v4 M) (hKB : ∀ (v2 : Int64) (v4 : Int32)  (M : Mm), KB v2 v4 M → E 44 [(0, rv G 312), (1, .int a1), (2, .long v2), (4, .int v4)] [] M) (hK72 : ∀ (v2 : Int64)  (M : Mm), K72 v2 M → E 72 [(0, rv G 312), (1, .int a1), (2, .long v2)] [] M) : E 44 [(0, rv G 312), (1, .int a1), (2, .long v2), (4, .int v4)] [] M := by
  unfold k_M_mean_44 at h
  refine e_iload (pc := 44) hE 3 rfl dX10_mean_44 ?_
  refine e_aload_n (pc := 46) hE rfl 0 rfl dX10_mean_46 ?_
  refine g_Md_sizes (pc := 47) hE tw_1004 dX10_mean_47 ?_
  refine e_iload_n (pc := 50) hE rfl 1 rfl dX10_mean_50 ?_
  refine e_iald (pc := 51) hE ar_314 h.1 dX10_mean_51 ?_
  have h := h.2
  refine e_icmp_ge (pc := 52) hE 72 dX10_mean_52 (by decide) (fun c0 => ?_) (fun c0 => ?_)
  · have h := h.1 c0
    refine e_sub hE [0, 1, 2] rfl ?_
    exact hK72 _ _ h
  · have h := h.2 c0
    refine e_lload_n (pc := 55) hE rfl 2 rfl dX10_mean_55 ?_
    refine e_aload_n (pc := 56) hE rfl 0 rfl dX10_mean_56 ?_
    refine e_iload_n (pc := 57) hE rfl 1 rfl dX10_mean_57 ?_
    refine e_iload (pc := 58) hE 3 rfl dX10_mean_58 ?_
    refine c_M_rowAt (pc := 60) (d := d + 1 + 0) hE (t_M_rowAt (d := d + 1)  h) tw_1172 (Nat.le_of_ble_eq_true rfl) dX10_mean_60 (fun r60 M60 h => ?_)
    refine e_i2l (pc := 63) hE dX10_mean_63 ?_
    refine e_ladd (pc := 64) hE dX10_mean_64 ?_
    refine e_topl (fun x65 ex65 => ?_)
    have h := h x65 ex65
    refine e_lstore_n (pc := 65) (lv' := [(2, .long x65), (0, rv G 312), (1, .int a1), (4, .int v4)]) hE dX10_mean_65 rfl (by decide) rfl ?_
    obtain ⟨x66, ex66⟩ : ∃ y : Int32, y = v4 + (1 : Int32) := ⟨_, rfl⟩
    have h := h x66 ex66
    refine e_iinc (pc := 66) (k := 3) (v := x66) (lv' := [(4, .int x66), (2, .long x65), (0, rv G 312), (1, .int a1)]) hE dX10_mean_66 rfl (by rw [ex66, ki_1]) (by decide) rfl ?_
    refine e_goto (pc := 69) hE 44 dX10_mean_69 (by decide) ?_
    refine e_sub hE [2, 3, 1, 0] rfl ?_
    exact hKB _ _ _ h
set_option maxHeartbeats 4000000 in
set_option maxRecDepth 20000 in
theorem w_lp_M_mean_44 {l : Launch} {G : Gs} {d : Nat} {E : EE} {a1 : Int32} {Q : Int32 → Mm → Prop} (hE : Mach l G RX10 cX10_mean 5 (d + 2) E) (hR : RtI cX10_mean E Q)   {K72 : Int64 → Mm → Prop} {n : Nat} {v2 : Int64} {v4 : Int32} {M : Mm} (h : lp_M_mean_44 a1 Q K72 n v2 v4 M) (hK72 : ∀ (v2 : Int64)  (M : Mm), K72 v2 M → E 72 [(0, rv G 312), (1, .int a1), (2, .long v2)] [] M) : E 44 [(0, rv G 312), (1, .int a1), (2, .long v2), (4, .int v4)] [] M := by
  have key : ∀ (n : Nat) (v2 : Int64) (v4 : Int32) (M : Mm), lp_M_mean_44 a1 Q K72 n v2 v4 M → E 44 [(0, rv G 312), (1, .int a1), (2, .long v2), (4, .int v4)] [] M := by
    intro n
    induction n with
    | zero => intro v2 v4 M h; exact h.elim
    | succ n ih => intro v2 v4 M h; exact w_M_mean_44 hE hR  (show k_M_mean_44 a1 Q (lp_M_mean_44 a1 Q K72 n) K72 v2 v4 M from h) ih hK72
  exact key n _ _ _ h
set_option maxHeartbeats 4000000 in
set_option maxRecDepth 20000 in
theorem t_M_mean {l : Launch} {G : Gs} {d : Nat} {a1 : Int32} {M : Mm} {Q : Int32 → Mm → Prop}  (h : wp_M_mean a1 M Q) : CtI l G (d + 2) yX10_mean cX10_mean 5 (some .int) [rv G 312, .int a1] M Q := by
  refine CtI.mk (by decide) rfl (Nat.le_of_ble_eq_true rfl) (fun E hE hR => ?_)
  show E 0 [(0, rv G 312), (1, .int a1)] [] M
  unfold wp_M_mean at h
  refine e_iload_n (pc := 0) hE rfl 1 rfl dX10_mean_0 ?_
  refine c_M_isRow (pc := 1) (d := d + 1) hE (t_M_isRow (d := d)  h) tw_1161 (Nat.le_of_ble_eq_true rfl) dX10_mean_1 (fun r1 M1 h => ?_)
  refine e_if_ne (pc := 4) hE 9 dX10_mean_4 (by decide) (fun c0 => ?_) (fun c0 => ?_)
  · have h := h.1 c0
    refine e_aload_n (pc := 9) hE rfl 0 rfl dX10_mean_9 ?_
    refine g_Md_sizes (pc := 10) hE tw_1004 dX10_mean_10 ?_
    refine e_iload_n (pc := 13) hE rfl 1 rfl dX10_mean_13 ?_
    refine e_iald (pc := 14) hE ar_314 h.1 dX10_mean_14 ?_
    have h := h.2
    refine e_if_ge (pc := 15) hE 24 dX10_mean_15 (by decide) (fun c0 => ?_) (fun c0 => ?_)
    · have h := h.1 c0
      refine e_aload_n (pc := 24) hE rfl 0 rfl dX10_mean_24 ?_
      refine g_Md_sizes (pc := 25) hE tw_1004 dX10_mean_25 ?_
      refine e_iload_n (pc := 28) hE rfl 1 rfl dX10_mean_28 ?_
      refine e_iald (pc := 29) hE ar_314 h.1 dX10_mean_29 ?_
      have h := h.2
      refine e_if_ne (pc := 30) hE 39 dX10_mean_30 (by decide) (fun c0 => ?_) (fun c0 => ?_)
      · have h := h.1 c0
        refine e_lconst (pc := 39) (v := 0) hE kl_0 dX10_mean_39 ?_
        refine e_lstore_n (pc := 40) (lv' := [(2, .long (0 : Int64)), (0, rv G 312), (1, .int a1)]) hE dX10_mean_40 rfl (by decide) rfl ?_
        refine e_iconst (pc := 41) (v := 0) hE ki_0 dX10_mean_41 ?_
        refine e_istore (pc := 42) (lv' := [(4, .int (0 : Int32)), (2, .long (0 : Int64)), (0, rv G 312), (1, .int a1)]) hE dX10_mean_42 (by decide) rfl ?_
        obtain ⟨n, h⟩ := h
        refine e_sub hE [2, 3, 1, 0] rfl ?_
        refine w_lp_M_mean_44 hE hR  h (fun v2 M h => ?_)
        refine e_aload_n (pc := 72) hE rfl 0 rfl dX10_mean_72 ?_
        refine e_lload_n (pc := 73) hE rfl 2 rfl dX10_mean_73 ?_
        refine e_aload_n (pc := 74) hE rfl 0 rfl dX10_mean_74 ?_
        refine g_Md_sizes (pc := 75) hE tw_1004 dX10_mean_75 ?_
        refine e_iload_n (pc := 78) hE rfl 1 rfl dX10_mean_78 ?_
        refine e_iald (pc := 79) hE ar_314 h.1 dX10_mean_79 ?_
        have h := h.2
        refine e_i2l (pc := 80) hE dX10_mean_80 ?_
        refine e_ldiv (pc := 81) hE h.1 dX10_mean_81 ?_
        have h := h.2
        refine e_l2i (pc := 82) hE dX10_mean_82 ?_
        refine e_iconst (pc := 83) (v := 1) hE ki_1 dX10_mean_83 ?_
        refine c_M_tells (pc := 84) (d := d + 1 + 0) hE (t_M_tells (d := d + 1)  h) tw_1176 (Nat.le_of_ble_eq_true rfl) dX10_mean_84 (fun r84 M84 h => ?_)
        exact hR dX10_mean_87 h
      · have h := h.2 c0
        refine e_aload_n (pc := 33) hE rfl 0 rfl dX10_mean_33 ?_
        refine e_iconst (pc := 34) (v := 4) hE ki_4 dX10_mean_34 ?_
        refine c_M_meets (pc := 35) (d := d + 1 + 0) hE (t_M_meets (d := d + 1)  h) tw_1164 (Nat.le_of_ble_eq_true rfl) dX10_mean_35 (fun r35 M35 h => ?_)
        exact hR dX10_mean_38 h
    · have h := h.2 c0
      refine e_aload_n (pc := 18) hE rfl 0 rfl dX10_mean_18 ?_
      refine e_iconst (pc := 19) (v := 1) hE ki_1 dX10_mean_19 ?_
      refine c_M_meets (pc := 20) (d := d + 1 + 0) hE (t_M_meets (d := d + 1)  h) tw_1164 (Nat.le_of_ble_eq_true rfl) dX10_mean_20 (fun r20 M20 h => ?_)
      exact hR dX10_mean_23 h
  · have h := h.2 c0
    refine e_iconst (pc := 7) (v := -1) hE ki_m1 dX10_mean_7 ?_
    exact hR dX10_mean_8 h
set_option maxHeartbeats 4000000 in
set_option maxRecDepth 20000 in
theorem t_M_isText {l : Launch} {G : Gs} {d : Nat} {a0 : Int32} {M : Mm} {Q : Int32 → Mm → Prop}  (h : wp_M_isText a0 M Q) : CtI l G (d + 1) yX10_isText cX10_isText 1 (some .boolean) [.int a0] M Q := by
  refine CtI.mkZ (by decide) rfl (Nat.le_of_ble_eq_true rfl) (fun E hE hR => ?_)
  show E 0 [(0, .int a0)] [] M
  unfold wp_M_isText at h
  refine e_iload_n (pc := 0) hE rfl 0 rfl dX10_isText_0 ?_
  refine e_iconst (pc := 1) (v := 0) hE ki_0 dX10_isText_1 ?_
  refine e_iconst (pc := 2) (v := 3) hE ki_3 dX10_isText_2 ?_
  refine c_M_in (pc := 3) (d := d + 0) hE (t_M_in (d := d)  h) tw_1142 (Nat.le_of_ble_eq_true rfl) dX10_isText_3 (fun r3 M3 h => ?_)
  exact hR dX10_isText_6 h.1 h.2
set_option maxHeartbeats 4000000 in
set_option maxRecDepth 20000 in
theorem w_M_text_34 {l : Launch} {G : Gs} {d : Nat} {E : EE} {a1 : Int32} {a2 : Int32} {Q : Int32 → Mm → Prop} (hE : Mach l G RX10 cX10_text 4 (d + 2) E) (hR : RtI cX10_text E Q)   {KB : Int32 → Mm → Prop} {v3 : Int32} {M : Mm} (h : k_M_text_34 a1 a2 Q KB v3 M) (hKB : ∀ (v3 : Int32)  (M : Mm), KB v3 M → E 34 [(0, rv G 312), (1, .int a1), (2, .int a2), (3, .int v3)] [] M) : E 34 [(0, rv G 312), (1, .int a1), (2, .int a2), (3, .int v3)] [] M := by
  unfold k_M_text_34 at h
  refine e_iload_n (pc := 34) hE rfl 3 rfl dX10_text_34 ?_
  refine e_bipush (pc := 35) (v := 60) hE kb_60 dX10_text_35 ?_
  refine e_icmp_ge (pc := 37) hE 59 dX10_text_37 (by decide) (fun c0 => ?_) (fun c0 => ?_)
  · have h := h.1 c0
    refine e_iload_n (pc := 59) hE rfl 2 rfl dX10_text_59 ?_
    exact hR dX10_text_60 h
  · have h := h.2 c0
    refine e_aload_n (pc := 40) hE rfl 0 rfl dX10_text_40 ?_
    refine g_Md_bytes (pc := 41) hE tw_1008 dX10_text_41 ?_
    refine e_bipush (pc := 44) (v := 60) hE kb_60 dX10_text_44 ?_
    refine e_iload_n (pc := 46) hE rfl 1 rfl dX10_text_46 ?_
    refine e_imul (pc := 47) hE dX10_text_47 ?_
    refine e_iload_n (pc := 48) hE rfl 3 rfl dX10_text_48 ?_
    refine e_iadd (pc := 49) hE dX10_text_49 ?_
    refine e_bipush (pc := 50) (v := 32) hE kb_32 dX10_text_50 ?_
    refine e_bast (pc := 52) hE ar_318 h.1 dX10_text_52 ?_
    have h := h.2
    obtain ⟨x53, ex53⟩ : ∃ y : Int32, y = v3 + (1 : Int32) := ⟨_, rfl⟩
    have h := h x53 ex53
    refine e_iinc (pc := 53) (k := 3) (v := x53) (lv' := [(3, .int x53), (0, rv G 312), (1, .int a1), (2, .int a2)]) hE dX10_text_53 rfl (by rw [ex53, ki_1]) (by decide) rfl ?_
    refine e_goto (pc := 56) hE 34 dX10_text_56 (by decide) ?_
    refine e_sub hE [1, 2, 3, 0] rfl ?_
    exact hKB _ _ h
set_option maxHeartbeats 4000000 in
set_option maxRecDepth 20000 in
theorem w_lp_M_text_34 {l : Launch} {G : Gs} {d : Nat} {E : EE} {a1 : Int32} {a2 : Int32} {Q : Int32 → Mm → Prop} (hE : Mach l G RX10 cX10_text 4 (d + 2) E) (hR : RtI cX10_text E Q)    {n : Nat} {v3 : Int32} {M : Mm} (h : lp_M_text_34 a1 a2 Q n v3 M)  : E 34 [(0, rv G 312), (1, .int a1), (2, .int a2), (3, .int v3)] [] M := by
  have key : ∀ (n : Nat) (v3 : Int32) (M : Mm), lp_M_text_34 a1 a2 Q n v3 M → E 34 [(0, rv G 312), (1, .int a1), (2, .int a2), (3, .int v3)] [] M := by
    intro n
    induction n with
    | zero => intro v3 M h; exact h.elim
    | succ n ih => intro v3 M h; exact w_M_text_34 hE hR  (show k_M_text_34 a1 a2 Q (lp_M_text_34 a1 a2 Q n)  v3 M from h) ih 
  exact key n _ _ h
set_option maxHeartbeats 4000000 in
set_option maxRecDepth 20000 in
theorem t_M_text {l : Launch} {G : Gs} {d : Nat} {a1 : Int32} {a2 : Int32} {M : Mm} {Q : Int32 → Mm → Prop}  (h : wp_M_text a1 a2 M Q) : CtI l G (d + 2) yX10_text cX10_text 4 (some .int) [rv G 312, .int a1, .int a2] M Q := by
  refine CtI.mk (by decide) rfl (Nat.le_of_ble_eq_true rfl) (fun E hE hR => ?_)
  show E 0 [(0, rv G 312), (1, .int a1), (2, .int a2)] [] M
  unfold wp_M_text at h
  refine e_iload_n (pc := 0) hE rfl 1 rfl dX10_text_0 ?_
  refine c_M_isText (pc := 1) (d := d + 1) hE (t_M_isText (d := d)  h) tw_1200 (Nat.le_of_ble_eq_true rfl) dX10_text_1 (fun r1 M1 h => ?_)
  refine e_if_eq (pc := 4) hE 13 dX10_text_4 (by decide) (fun c0 => ?_) (fun c0 => ?_)
  · have h := h.1 c0
    refine e_iconst (pc := 13) (v := -1) hE ki_m1 dX10_text_13 ?_
    exact hR dX10_text_14 h
  · have h := h.2 c0
    refine e_iload_n (pc := 7) hE rfl 2 rfl dX10_text_7 ?_
    refine e_bipush (pc := 8) (v := 60) hE kb_60 dX10_text_8 ?_
    refine e_icmp_le (pc := 10) hE 15 dX10_text_10 (by decide) (fun c0 => ?_) (fun c0 => ?_)
    · have h := h.1 c0
      refine e_iload_n (pc := 15) hE rfl 2 rfl dX10_text_15 ?_
      refine e_if_ge (pc := 16) hE 25 dX10_text_16 (by decide) (fun c0 => ?_) (fun c0 => ?_)
      · have h := h.1 c0
        refine e_aload_n (pc := 25) hE rfl 0 rfl dX10_text_25 ?_
        refine g_Md_textSizes (pc := 26) hE tw_1007 dX10_text_26 ?_
        refine e_iload_n (pc := 29) hE rfl 1 rfl dX10_text_29 ?_
        refine e_iload_n (pc := 30) hE rfl 2 rfl dX10_text_30 ?_
        refine e_iast (pc := 31) hE ar_317 h.1 dX10_text_31 ?_
        have h := h.2
        refine e_iconst (pc := 32) (v := 0) hE ki_0 dX10_text_32 ?_
        refine e_istore_n (pc := 33) (lv' := [(3, .int (0 : Int32)), (0, rv G 312), (1, .int a1), (2, .int a2)]) hE dX10_text_33 rfl (by decide) rfl ?_
        obtain ⟨n, h⟩ := h
        refine e_sub hE [1, 2, 3, 0] rfl ?_
        refine w_lp_M_text_34 hE hR  h 
      · have h := h.2 c0
        refine e_aload_n (pc := 19) hE rfl 0 rfl dX10_text_19 ?_
        refine e_iconst (pc := 20) (v := 5) hE ki_5 dX10_text_20 ?_
        refine c_M_meets (pc := 21) (d := d + 1 + 0) hE (t_M_meets (d := d + 1)  h) tw_1164 (Nat.le_of_ble_eq_true rfl) dX10_text_21 (fun r21 M21 h => ?_)
        exact hR dX10_text_24 h
    · have h := h.2 c0
      refine e_iconst (pc := 13) (v := -1) hE ki_m1 dX10_text_13 ?_
      exact hR dX10_text_14 h
set_option maxHeartbeats 4000000 in
set_option maxRecDepth 20000 in
theorem t_M_put {l : Launch} {G : Gs} {d : Nat} {a1 : Int32} {a2 : Int32} {a3 : Int32} {M : Mm} {Q : Int32 → Mm → Prop}  (h : wp_M_put a1 a2 a3 M Q) : CtI l G (d + 2) yX10_put cX10_put 5 (some .int) [rv G 312, .int a1, .int a2, .int a3] M Q := by
  refine CtI.mk (by decide) rfl (Nat.le_of_ble_eq_true rfl) (fun E hE hR => ?_)
  show E 0 [(0, rv G 312), (1, .int a1), (2, .int a2), (3, .int a3)] [] M
  unfold wp_M_put at h
  refine e_iload_n (pc := 0) hE rfl 1 rfl dX10_put_0 ?_
  refine c_M_isText (pc := 1) (d := d + 1) hE (t_M_isText (d := d)  h) tw_1200 (Nat.le_of_ble_eq_true rfl) dX10_put_1 (fun r1 M1 h => ?_)
  refine e_if_ne (pc := 4) hE 9 dX10_put_4 (by decide) (fun c0 => ?_) (fun c0 => ?_)
  · have h := h.1 c0
    refine e_aload_n (pc := 9) hE rfl 0 rfl dX10_put_9 ?_
    refine g_Md_textSizes (pc := 10) hE tw_1007 dX10_put_10 ?_
    refine e_iload_n (pc := 13) hE rfl 1 rfl dX10_put_13 ?_
    refine e_iald (pc := 14) hE ar_317 h.1 dX10_put_14 ?_
    have h := h.2
    refine e_if_ge (pc := 15) hE 24 dX10_put_15 (by decide) (fun c0 => ?_) (fun c0 => ?_)
    · have h := h.1 c0
      refine e_iload_n (pc := 24) hE rfl 2 rfl dX10_put_24 ?_
      refine e_iconst (pc := 25) (v := 0) hE ki_0 dX10_put_25 ?_
      refine e_aload_n (pc := 26) hE rfl 0 rfl dX10_put_26 ?_
      refine g_Md_textSizes (pc := 27) hE tw_1007 dX10_put_27 ?_
      refine e_iload_n (pc := 30) hE rfl 1 rfl dX10_put_30 ?_
      refine e_iald (pc := 31) hE ar_317 h.1 dX10_put_31 ?_
      have h := h.2
      refine e_iconst (pc := 32) (v := 1) hE ki_1 dX10_put_32 ?_
      refine e_isub (pc := 33) hE dX10_put_33 ?_
      refine c_M_in (pc := 34) (d := d + 1 + 0) hE (t_M_in (d := d + 1)  h) tw_1142 (Nat.le_of_ble_eq_true rfl) dX10_put_34 (fun r34 M34 h => ?_)
      refine e_if_ne (pc := 37) hE 46 dX10_put_37 (by decide) (fun c0 => ?_) (fun c0 => ?_)
      · have h := h.1 c0
        refine e_aload_n (pc := 46) hE rfl 0 rfl dX10_put_46 ?_
        refine g_Md_bytes (pc := 47) hE tw_1008 dX10_put_47 ?_
        refine e_bipush (pc := 50) (v := 60) hE kb_60 dX10_put_50 ?_
        refine e_iload_n (pc := 52) hE rfl 1 rfl dX10_put_52 ?_
        refine e_imul (pc := 53) hE dX10_put_53 ?_
        refine e_iload_n (pc := 54) hE rfl 2 rfl dX10_put_54 ?_
        refine e_iadd (pc := 55) hE dX10_put_55 ?_
        refine e_bald (pc := 56) hE ar_318 h.1 dX10_put_56 ?_
        have h := h.2
        refine e_topi (fun x57 ex57 => ?_)
        have h := h x57 ex57
        refine e_istore (pc := 57) (lv' := [(4, .int x57), (0, rv G 312), (1, .int a1), (2, .int a2), (3, .int a3)]) hE dX10_put_57 (by decide) rfl ?_
        refine e_aload_n (pc := 59) hE rfl 1 rfl dX10_put_59 ?_
        refine g_Md_bytes (pc := 60) hE tw_1008 dX10_put_60 ?_
        refine e_bipush (pc := 63) (v := 60) hE kb_60 dX10_put_63 ?_
        refine e_iload_n (pc := 65) hE rfl 2 rfl dX10_put_65 ?_
        refine e_imul (pc := 66) hE dX10_put_66 ?_
        refine e_iload_n (pc := 67) hE rfl 3 rfl dX10_put_67 ?_
        refine e_iadd (pc := 68) hE dX10_put_68 ?_
        refine e_iload_n (pc := 69) hE rfl 4 rfl dX10_put_69 ?_
        refine e_i2b (pc := 70) hE dX10_put_70 ?_
        refine e_topi (fun x71 ex71 => ?_)
        have h := h x71 ex71
        refine e_bast (pc := 71) hE ar_318 h.1 dX10_put_71 ?_
        have h := h.2
        refine e_sipush (pc := 72) (v := 1000) hE ks_1000 dX10_put_72 ?_
        refine e_iload (pc := 75) hE 0 rfl dX10_put_75 ?_
        refine e_iadd (pc := 77) hE dX10_put_77 ?_
        exact hR dX10_put_78 h
      · have h := h.2 c0
        refine e_aload_n (pc := 40) hE rfl 0 rfl dX10_put_40 ?_
        refine e_iconst (pc := 41) (v := 2) hE ki_2 dX10_put_41 ?_
        refine c_M_meets (pc := 42) (d := d + 1 + 0) hE (t_M_meets (d := d + 1)  h) tw_1164 (Nat.le_of_ble_eq_true rfl) dX10_put_42 (fun r42 M42 h => ?_)
        exact hR dX10_put_45 h
    · have h := h.2 c0
      refine e_aload_n (pc := 18) hE rfl 0 rfl dX10_put_18 ?_
      refine e_iconst (pc := 19) (v := 1) hE ki_1 dX10_put_19 ?_
      refine c_M_meets (pc := 20) (d := d + 1 + 0) hE (t_M_meets (d := d + 1)  h) tw_1164 (Nat.le_of_ble_eq_true rfl) dX10_put_20 (fun r20 M20 h => ?_)
      exact hR dX10_put_23 h
  · have h := h.2 c0
    refine e_iconst (pc := 7) (v := -1) hE ki_m1 dX10_put_7 ?_
    exact hR dX10_put_8 h
set_option maxHeartbeats 4000000 in
set_option maxRecDepth 20000 in
theorem t_M_byteAt {l : Launch} {G : Gs} {d : Nat} {a1 : Int32} {a2 : Int32} {M : Mm} {Q : Int32 → Mm → Prop}  (h : wp_M_byteAt a1 a2 M Q) : CtI l G (d + 0) yX10_byteAt cX10_byteAt 3 (some .int) [rv G 312, .int a1, .int a2] M Q := by
  refine CtI.mk (by decide) rfl (Nat.le_of_ble_eq_true rfl) (fun E hE hR => ?_)
  show E 0 [(0, rv G 312), (1, .int a1), (2, .int a2)] [] M
  unfold wp_M_byteAt at h
  refine e_iload_n (pc := 0) hE rfl 2 rfl dX10_byteAt_0 ?_
  refine e_aload_n (pc := 1) hE rfl 0 rfl dX10_byteAt_1 ?_
  refine g_Md_textSizes (pc := 2) hE tw_1007 dX10_byteAt_2 ?_
  refine e_iload_n (pc := 5) hE rfl 1 rfl dX10_byteAt_5 ?_
  refine e_iald (pc := 6) hE ar_317 h.1 dX10_byteAt_6 ?_
  have h := h.2
  refine e_icmp_ge (pc := 7) hE 24 dX10_byteAt_7 (by decide) (fun c0 => ?_) (fun c0 => ?_)
  · have h := h.1 c0
    refine e_iconst (pc := 24) (v := 0) hE ki_0 dX10_byteAt_24 ?_
    exact hR dX10_byteAt_25 h
  · have h := h.2 c0
    refine e_aload_n (pc := 10) hE rfl 0 rfl dX10_byteAt_10 ?_
    refine g_Md_bytes (pc := 11) hE tw_1008 dX10_byteAt_11 ?_
    refine e_bipush (pc := 14) (v := 60) hE kb_60 dX10_byteAt_14 ?_
    refine e_iload_n (pc := 16) hE rfl 1 rfl dX10_byteAt_16 ?_
    refine e_imul (pc := 17) hE dX10_byteAt_17 ?_
    refine e_iload_n (pc := 18) hE rfl 2 rfl dX10_byteAt_18 ?_
    refine e_iadd (pc := 19) hE dX10_byteAt_19 ?_
    refine e_bald (pc := 20) hE ar_318 h.1 dX10_byteAt_20 ?_
    have h := h.2
    refine e_goto (pc := 21) hE 25 dX10_byteAt_21 (by decide) ?_
    exact hR dX10_byteAt_25 h
set_option maxHeartbeats 4000000 in
set_option maxRecDepth 20000 in
theorem t_M_figure {l : Launch} {G : Gs} {d : Nat} {a1 : Int32} {a2 : Int32} {a3 : Int32} {M : Mm} {Q : Int32 → Mm → Prop}  (h : wp_M_figure a1 a2 a3 M Q) : CtI l G (d + 1) yX10_figure cX10_figure 5 (some .boolean) [rv G 312, .int a1, .int a2, .int a3] M Q := by
  refine CtI.mkZ (by decide) rfl (Nat.le_of_ble_eq_true rfl) (fun E hE hR => ?_)
  show E 0 [(0, rv G 312), (1, .int a1), (2, .int a2), (3, .int a3)] [] M
  unfold wp_M_figure at h
  refine e_aload_n (pc := 0) hE rfl 0 rfl dX10_figure_0 ?_
  refine e_aload_n (pc := 1) hE rfl 0 rfl dX10_figure_1 ?_
  refine e_iload_n (pc := 2) hE rfl 1 rfl dX10_figure_2 ?_
  refine e_aload_n (pc := 3) hE rfl 0 rfl dX10_figure_3 ?_
  refine g_Md_readAt (pc := 4) hE tw_1017 dX10_figure_4 ?_
  refine c_M_byteAt (pc := 7) (d := d + 0) hE (t_M_byteAt (d := d)  h) tw_1215 (Nat.le_of_ble_eq_true rfl) dX10_figure_7 (fun r7 M7 h => ?_)
  refine e_bipush (pc := 10) (v := 48) hE kb_48 dX10_figure_10 ?_
  refine e_isub (pc := 12) hE dX10_figure_12 ?_
  refine e_topi (fun x13 ex13 => ?_)
  have h := h x13 ex13
  refine p_Md_readNumber (pc := 13) hE tw_1018 dX10_figure_13 ?_
  refine e_aload_n (pc := 16) hE rfl 0 rfl dX10_figure_16 ?_
  refine g_Md_readNumber (pc := 17) hE tw_1018 dX10_figure_17 ?_
  refine e_iload_n (pc := 20) hE rfl 2 rfl dX10_figure_20 ?_
  refine e_iload_n (pc := 21) hE rfl 3 rfl dX10_figure_21 ?_
  refine c_M_in (pc := 22) (d := d + 0) hE (t_M_in (d := d)  h) tw_1142 (Nat.le_of_ble_eq_true rfl) dX10_figure_22 (fun r22 M22 h => ?_)
  refine e_istore (pc := 25) (lv' := [(4, .int r22), (0, rv G 312), (1, .int a1), (2, .int a2), (3, .int a3)]) hE dX10_figure_25 (by decide) rfl ?_
  refine e_aload_n (pc := 27) hE rfl 1 rfl dX10_figure_27 ?_
  refine e_dup (pc := 28) hE rfl dX10_figure_28 ?_
  refine g_Md_readAt (pc := 29) hE tw_1017 dX10_figure_29 ?_
  refine e_iload (pc := 32) hE 0 rfl dX10_figure_32 ?_
  refine e_if_eq (pc := 34) hE 41 dX10_figure_34 (by decide) (fun c0 => ?_) (fun c0 => ?_)
  · have h := h.1 c0
    refine e_iconst (pc := 41) (v := 0) hE ki_0 dX10_figure_41 ?_
    refine e_iadd (pc := 42) hE dX10_figure_42 ?_
    refine e_topi (fun x43 ex43 => ?_)
    have h := h x43 ex43
    refine p_Md_readAt (pc := 43) hE tw_1017 dX10_figure_43 ?_
    refine e_iload (pc := 46) hE 0 rfl dX10_figure_46 ?_
    exact hR dX10_figure_48 h.1 h.2
  · have h := h.2 c0
    refine e_iconst (pc := 37) (v := 1) hE ki_1 dX10_figure_37 ?_
    refine e_goto (pc := 38) hE 42 dX10_figure_38 (by decide) ?_
    refine e_iadd (pc := 42) hE dX10_figure_42 ?_
    refine e_topi (fun x43 ex43 => ?_)
    have h := h x43 ex43
    refine p_Md_readAt (pc := 43) hE tw_1017 dX10_figure_43 ?_
    refine e_iload (pc := 46) hE 0 rfl dX10_figure_46 ?_
    exact hR dX10_figure_48 h.1 h.2
set_option maxHeartbeats 4000000 in
set_option maxRecDepth 20000 in
theorem t_M_readsRiver {l : Launch} {G : Gs} {d : Nat} {a1 : Int32} {M : Mm} {Q : Int32 → Mm → Prop}  (h : wp_M_readsRiver a1 M Q) : CtI l G (d + 2) yX10_readsRiver cX10_readsRiver 2 (some .boolean) [rv G 312, .int a1] M Q := by
  refine CtI.mkZ (by decide) rfl (Nat.le_of_ble_eq_true rfl) (fun E hE hR => ?_)
  show E 0 [(0, rv G 312), (1, .int a1)] [] M
  unfold wp_M_readsRiver at h
  refine e_aload_n (pc := 0) hE rfl 0 rfl dX10_readsRiver_0 ?_
  refine e_iload_n (pc := 1) hE rfl 1 rfl dX10_readsRiver_1 ?_
  refine e_aload_n (pc := 2) hE rfl 0 rfl dX10_readsRiver_2 ?_
  refine g_Md_readAt (pc := 3) hE tw_1017 dX10_readsRiver_3 ?_
  refine c_M_byteAt (pc := 6) (d := d + 1 + 0) hE (t_M_byteAt (d := d + 1)  h) tw_1215 (Nat.le_of_ble_eq_true rfl) dX10_readsRiver_6 (fun r6 M6 h => ?_)
  refine e_bipush (pc := 9) (v := 114) hE kb_114 dX10_readsRiver_9 ?_
  refine e_icmp_eq (pc := 11) hE 16 dX10_readsRiver_11 (by decide) (fun c0 => ?_) (fun c0 => ?_)
  · have h := h.1 c0
    refine e_aload_n (pc := 16) hE rfl 0 rfl dX10_readsRiver_16 ?_
    refine e_dup (pc := 17) hE rfl dX10_readsRiver_17 ?_
    refine g_Md_readAt (pc := 18) hE tw_1017 dX10_readsRiver_18 ?_
    refine e_iconst (pc := 21) (v := 1) hE ki_1 dX10_readsRiver_21 ?_
    refine e_iadd (pc := 22) hE dX10_readsRiver_22 ?_
    refine e_topi (fun x23 ex23 => ?_)
    have h := h x23 ex23
    refine p_Md_readAt (pc := 23) hE tw_1017 dX10_readsRiver_23 ?_
    refine e_aload_n (pc := 26) hE rfl 0 rfl dX10_readsRiver_26 ?_
    refine e_iload_n (pc := 27) hE rfl 1 rfl dX10_readsRiver_27 ?_
    refine e_iconst (pc := 28) (v := 1) hE ki_1 dX10_readsRiver_28 ?_
    refine e_bipush (pc := 29) (v := 9) hE kb_9 dX10_readsRiver_29 ?_
    refine c_M_figure (pc := 31) (d := d + 1) hE (t_M_figure (d := d)  h) tw_1227 (Nat.le_of_ble_eq_true rfl) dX10_readsRiver_31 (fun r31 M31 h => ?_)
    refine e_if_ne (pc := 34) hE 39 dX10_readsRiver_34 (by decide) (fun c0 => ?_) (fun c0 => ?_)
    · have h := h.1 c0
      refine e_aload_n (pc := 39) hE rfl 0 rfl dX10_readsRiver_39 ?_
      refine e_iconst (pc := 40) (v := 3) hE ki_3 dX10_readsRiver_40 ?_
      refine e_aload_n (pc := 41) hE rfl 0 rfl dX10_readsRiver_41 ?_
      refine g_Md_readNumber (pc := 42) hE tw_1018 dX10_readsRiver_42 ?_
      refine e_imul (pc := 45) hE dX10_readsRiver_45 ?_
      refine e_topi (fun x46 ex46 => ?_)
      have h := h x46 ex46
      refine p_Md_readRiver (pc := 46) hE tw_1019 dX10_readsRiver_46 ?_
      refine e_iconst (pc := 49) (v := 1) hE ki_1 dX10_readsRiver_49 ?_
      exact hR dX10_readsRiver_50 (Or.inr rfl) h
    · have h := h.2 c0
      refine e_iconst (pc := 37) (v := 0) hE ki_0 dX10_readsRiver_37 ?_
      exact hR dX10_readsRiver_38 (Or.inl rfl) h
  · have h := h.2 c0
    refine e_iconst (pc := 14) (v := 0) hE ki_0 dX10_readsRiver_14 ?_
    exact hR dX10_readsRiver_15 (Or.inl rfl) h
set_option maxHeartbeats 4000000 in
set_option maxRecDepth 20000 in
theorem t_M_has {l : Launch} {G : Gs} {d : Nat} {a0 : Int32} {a1 : Int32} {M : Mm} {Q : Int32 → Mm → Prop}  (h : wp_M_has a0 a1 M Q) : CtI l G (d + 0) yX10_has cX10_has 2 (some .boolean) [.int a0, .int a1] M Q := by
  refine CtI.mkZ (by decide) rfl (Nat.le_of_ble_eq_true rfl) (fun E hE hR => ?_)
  show E 0 [(0, .int a0), (1, .int a1)] [] M
  unfold wp_M_has at h
  refine e_iload_n (pc := 0) hE rfl 0 rfl dX10_has_0 ?_
  refine e_iload_n (pc := 1) hE rfl 1 rfl dX10_has_1 ?_
  refine e_ishr (pc := 2) hE dX10_has_2 ?_
  refine e_iconst (pc := 3) (v := 1) hE ki_1 dX10_has_3 ?_
  refine e_iand (pc := 4) hE dX10_has_4 ?_
  refine e_iconst (pc := 5) (v := 1) hE ki_1 dX10_has_5 ?_
  refine e_icmp_ne (pc := 6) hE 13 dX10_has_6 (by decide) (fun c0 => ?_) (fun c0 => ?_)
  · have h := h.1 c0
    refine e_iconst (pc := 13) (v := 0) hE ki_0 dX10_has_13 ?_
    exact hR dX10_has_14 (Or.inl rfl) h
  · have h := h.2 c0
    refine e_iconst (pc := 9) (v := 1) hE ki_1 dX10_has_9 ?_
    refine e_goto (pc := 10) hE 14 dX10_has_10 (by decide) ?_
    exact hR dX10_has_14 (Or.inr rfl) h
set_option maxHeartbeats 4000000 in
set_option maxRecDepth 20000 in
theorem t_M_readsWait {l : Launch} {G : Gs} {d : Nat} {a1 : Int32} {M : Mm} {Q : Int32 → Mm → Prop}  (h : wp_M_readsWait a1 M Q) : CtI l G (d + 2) yX10_readsWait cX10_readsWait 4 (some .boolean) [rv G 312, .int a1] M Q := by
  refine CtI.mkZ (by decide) rfl (Nat.le_of_ble_eq_true rfl) (fun E hE hR => ?_)
  show E 0 [(0, rv G 312), (1, .int a1)] [] M
  unfold wp_M_readsWait at h
  refine e_aload_n (pc := 0) hE rfl 0 rfl dX10_readsWait_0 ?_
  refine g_Md_readMany (pc := 1) hE tw_1020 dX10_readsWait_1 ?_
  refine e_if_eq (pc := 4) hE 16 dX10_readsWait_4 (by decide) (fun c0 => ?_) (fun c0 => ?_)
  · have h := h.1 c0
    refine e_iconst (pc := 16) (v := 0) hE ki_0 dX10_readsWait_16 ?_
    exact hR dX10_readsWait_17 (Or.inl rfl) h
  · have h := h.2 c0
    refine e_aload_n (pc := 7) hE rfl 0 rfl dX10_readsWait_7 ?_
    refine g_Md_readWaitMany (pc := 8) hE tw_1021 dX10_readsWait_8 ?_
    refine e_bipush (pc := 11) (v := 8) hE kb_8 dX10_readsWait_11 ?_
    refine e_icmp_ne (pc := 13) hE 18 dX10_readsWait_13 (by decide) (fun c0 => ?_) (fun c0 => ?_)
    · have h := h.1 c0
      refine e_aload_n (pc := 18) hE rfl 0 rfl dX10_readsWait_18 ?_
      refine e_dup (pc := 19) hE rfl dX10_readsWait_19 ?_
      refine g_Md_readAt (pc := 20) hE tw_1017 dX10_readsWait_20 ?_
      refine e_iconst (pc := 23) (v := 1) hE ki_1 dX10_readsWait_23 ?_
      refine e_iadd (pc := 24) hE dX10_readsWait_24 ?_
      refine e_topi (fun x25 ex25 => ?_)
      have h := h x25 ex25
      refine p_Md_readAt (pc := 25) hE tw_1017 dX10_readsWait_25 ?_
      refine e_aload_n (pc := 28) hE rfl 0 rfl dX10_readsWait_28 ?_
      refine e_iload_n (pc := 29) hE rfl 1 rfl dX10_readsWait_29 ?_
      refine e_iconst (pc := 30) (v := 0) hE ki_0 dX10_readsWait_30 ?_
      refine e_aload_n (pc := 31) hE rfl 0 rfl dX10_readsWait_31 ?_
      refine g_Md_readMany (pc := 32) hE tw_1020 dX10_readsWait_32 ?_
      refine e_iconst (pc := 35) (v := 1) hE ki_1 dX10_readsWait_35 ?_
      refine e_isub (pc := 36) hE dX10_readsWait_36 ?_
      refine c_M_figure (pc := 37) (d := d + 1) hE (t_M_figure (d := d)  h) tw_1227 (Nat.le_of_ble_eq_true rfl) dX10_readsWait_37 (fun r37 M37 h => ?_)
      refine e_if_ne (pc := 40) hE 45 dX10_readsWait_40 (by decide) (fun c0 => ?_) (fun c0 => ?_)
      · have h := h.1 c0
        refine e_aload_n (pc := 45) hE rfl 0 rfl dX10_readsWait_45 ?_
        refine g_Md_readNumber (pc := 46) hE tw_1018 dX10_readsWait_46 ?_
        refine e_topi (fun x49 ex49 => ?_)
        have h := h x49 ex49
        refine e_istore_n (pc := 49) (lv' := [(2, .int x49), (0, rv G 312), (1, .int a1)]) hE dX10_readsWait_49 rfl (by decide) rfl ?_
        refine e_aload_n (pc := 50) hE rfl 1 rfl dX10_readsWait_50 ?_
        refine e_iload_n (pc := 51) hE rfl 2 rfl dX10_readsWait_51 ?_
        refine e_aload_n (pc := 52) hE rfl 1 rfl dX10_readsWait_52 ?_
        refine g_Md_readAt (pc := 53) hE tw_1017 dX10_readsWait_53 ?_
        refine c_M_byteAt (pc := 56) (d := d + 1 + 0) hE (t_M_byteAt (d := d + 1)  h) tw_1215 (Nat.le_of_ble_eq_true rfl) dX10_readsWait_56 (fun r56 M56 h => ?_)
        refine e_bipush (pc := 59) (v := 48) hE kb_48 dX10_readsWait_59 ?_
        refine e_isub (pc := 61) hE dX10_readsWait_61 ?_
        refine e_topi (fun x62 ex62 => ?_)
        have h := h x62 ex62
        refine e_istore_n (pc := 62) (lv' := [(3, .int x62), (2, .int x49), (0, rv G 312), (1, .int a1)]) hE dX10_readsWait_62 rfl (by decide) rfl ?_
        refine e_iload_n (pc := 63) hE rfl 0 rfl dX10_readsWait_63 ?_
        refine e_iconst (pc := 64) (v := 0) hE ki_0 dX10_readsWait_64 ?_
        refine e_aload_n (pc := 65) hE rfl 2 rfl dX10_readsWait_65 ?_
        refine g_Md_readMany (pc := 66) hE tw_1020 dX10_readsWait_66 ?_
        refine e_iconst (pc := 69) (v := 1) hE ki_1 dX10_readsWait_69 ?_
        refine e_isub (pc := 70) hE dX10_readsWait_70 ?_
        refine c_M_in (pc := 71) (d := d + 1 + 0) hE (t_M_in (d := d + 1)  h) tw_1142 (Nat.le_of_ble_eq_true rfl) dX10_readsWait_71 (fun r71 M71 h => ?_)
        refine e_if_eq (pc := 74) hE 95 dX10_readsWait_74 (by decide) (fun c0 => ?_) (fun c0 => ?_)
        · have h := h.1 c0
          refine e_iconst (pc := 95) (v := 0) hE ki_0 dX10_readsWait_95 ?_
          exact hR dX10_readsWait_96 (Or.inl rfl) h
        · have h := h.2 c0
          refine e_iload_n (pc := 77) hE rfl 0 rfl dX10_readsWait_77 ?_
          refine e_iload_n (pc := 78) hE rfl 1 rfl dX10_readsWait_78 ?_
          refine e_icmp_eq (pc := 79) hE 95 dX10_readsWait_79 (by decide) (fun c0 => ?_) (fun c0 => ?_)
          · have h := h.1 c0
            refine e_iconst (pc := 95) (v := 0) hE ki_0 dX10_readsWait_95 ?_
            exact hR dX10_readsWait_96 (Or.inl rfl) h
          · have h := h.2 c0
            refine e_aload_n (pc := 82) hE rfl 2 rfl dX10_readsWait_82 ?_
            refine g_Md_readWaits (pc := 83) hE tw_1023 dX10_readsWait_83 ?_
            refine e_iload_n (pc := 86) hE rfl 1 rfl dX10_readsWait_86 ?_
            refine e_iald (pc := 87) hE ar_326 h.1 dX10_readsWait_87 ?_
            have h := h.2
            refine e_iload_n (pc := 88) hE rfl 0 rfl dX10_readsWait_88 ?_
            refine c_M_has (pc := 89) (d := d + 1 + 0) hE (t_M_has (d := d + 1)  h) tw_1235 (Nat.le_of_ble_eq_true rfl) dX10_readsWait_89 (fun r89 M89 h => ?_)
            refine e_if_eq (pc := 92) hE 97 dX10_readsWait_92 (by decide) (fun c0 => ?_) (fun c0 => ?_)
            · have h := h.1 c0
              refine e_aload_n (pc := 97) hE rfl 2 rfl dX10_readsWait_97 ?_
              refine e_dup (pc := 98) hE rfl dX10_readsWait_98 ?_
              refine g_Md_readAt (pc := 99) hE tw_1017 dX10_readsWait_99 ?_
              refine e_iconst (pc := 102) (v := 1) hE ki_1 dX10_readsWait_102 ?_
              refine e_iadd (pc := 103) hE dX10_readsWait_103 ?_
              refine e_topi (fun x104 ex104 => ?_)
              have h := h x104 ex104
              refine p_Md_readAt (pc := 104) hE tw_1017 dX10_readsWait_104 ?_
              refine e_aload_n (pc := 107) hE rfl 2 rfl dX10_readsWait_107 ?_
              refine g_Md_readWaits (pc := 108) hE tw_1023 dX10_readsWait_108 ?_
              refine e_iload_n (pc := 111) hE rfl 1 rfl dX10_readsWait_111 ?_
              refine e_dup2 (pc := 112) hE rfl rfl dX10_readsWait_112 ?_
              refine e_iald (pc := 113) hE ar_326 h.1 dX10_readsWait_113 ?_
              have h := h.2
              refine e_iconst (pc := 114) (v := 1) hE ki_1 dX10_readsWait_114 ?_
              refine e_iload_n (pc := 115) hE rfl 0 rfl dX10_readsWait_115 ?_
              refine e_ishl (pc := 116) hE dX10_readsWait_116 ?_
              refine e_ior (pc := 117) hE dX10_readsWait_117 ?_
              refine e_topi (fun x118 ex118 => ?_)
              have h := h x118 ex118
              refine e_iast (pc := 118) hE ar_326 h.1 dX10_readsWait_118 ?_
              have h := h.2
              refine e_aload_n (pc := 119) hE rfl 2 rfl dX10_readsWait_119 ?_
              refine e_dup (pc := 120) hE rfl dX10_readsWait_120 ?_
              refine g_Md_readWaitMany (pc := 121) hE tw_1021 dX10_readsWait_121 ?_
              refine e_iconst (pc := 124) (v := 1) hE ki_1 dX10_readsWait_124 ?_
              refine e_iadd (pc := 125) hE dX10_readsWait_125 ?_
              refine e_topi (fun x126 ex126 => ?_)
              have h := h x126 ex126
              refine p_Md_readWaitMany (pc := 126) hE tw_1021 dX10_readsWait_126 ?_
              refine e_iconst (pc := 129) (v := 1) hE ki_1 dX10_readsWait_129 ?_
              exact hR dX10_readsWait_130 (Or.inr rfl) h
            · have h := h.2 c0
              refine e_iconst (pc := 95) (v := 0) hE ki_0 dX10_readsWait_95 ?_
              exact hR dX10_readsWait_96 (Or.inl rfl) h
      · have h := h.2 c0
        refine e_iconst (pc := 43) (v := 0) hE ki_0 dX10_readsWait_43 ?_
        exact hR dX10_readsWait_44 (Or.inl rfl) h
    · have h := h.2 c0
      refine e_iconst (pc := 16) (v := 0) hE ki_0 dX10_readsWait_16 ?_
      exact hR dX10_readsWait_17 (Or.inl rfl) h
set_option maxHeartbeats 4000000 in
set_option maxRecDepth 20000 in
theorem t_M_kindOf {l : Launch} {G : Gs} {d : Nat} {a0 : Int32} {M : Mm} {Q : Int32 → Mm → Prop}  (h : wp_M_kindOf a0 M Q) : CtI l G (d + 0) yX10_kindOf cX10_kindOf 1 (some .int) [.int a0] M Q := by
  refine CtI.mk (by decide) rfl (Nat.le_of_ble_eq_true rfl) (fun E hE hR => ?_)
  show E 0 [(0, .int a0)] [] M
  unfold wp_M_kindOf at h
  refine e_iload_n (pc := 0) hE rfl 0 rfl dX10_kindOf_0 ?_
  by_cases c97 : a0 = 97
  · have h := h.1 c97
    refine e_swIn (pc := 1) hE 96 dX10_kindOf_1 (by rw [c97]; decide) (by rw [c97]; decide) (by rw [c97]; rfl) (by decide) ?_
    refine e_iconst (pc := 96) (v := 0) hE ki_0 dX10_kindOf_96 ?_
    exact hR dX10_kindOf_97 h
  have h := h.2
  by_cases c98 : a0 = 98
  · have h := h.1 c98
    refine e_swIn (pc := 1) hE 102 dX10_kindOf_1 (by rw [c98]; decide) (by rw [c98]; decide) (by rw [c98]; rfl) (by decide) ?_
    refine e_iconst (pc := 102) (v := 3) hE ki_3 dX10_kindOf_102 ?_
    exact hR dX10_kindOf_103 h
  have h := h.2
  by_cases c99 : a0 = 99
  · have h := h.1 c99
    refine e_swIn (pc := 1) hE 108 dX10_kindOf_1 (by rw [c99]; decide) (by rw [c99]; decide) (by rw [c99]; rfl) (by decide) ?_
    refine e_bipush (pc := 108) (v := -9) hE kb_m9 dX10_kindOf_108 ?_
    exact hR dX10_kindOf_110 h
  have h := h.2
  by_cases c100 : a0 = 100
  · have h := h.1 c100
    refine e_swIn (pc := 1) hE 108 dX10_kindOf_1 (by rw [c100]; decide) (by rw [c100]; decide) (by rw [c100]; rfl) (by decide) ?_
    refine e_bipush (pc := 108) (v := -9) hE kb_m9 dX10_kindOf_108 ?_
    exact hR dX10_kindOf_110 h
  have h := h.2
  by_cases c101 : a0 = 101
  · have h := h.1 c101
    refine e_swIn (pc := 1) hE 108 dX10_kindOf_1 (by rw [c101]; decide) (by rw [c101]; decide) (by rw [c101]; rfl) (by decide) ?_
    refine e_bipush (pc := 108) (v := -9) hE kb_m9 dX10_kindOf_108 ?_
    exact hR dX10_kindOf_110 h
  have h := h.2
  by_cases c102 : a0 = 102
  · have h := h.1 c102
    refine e_swIn (pc := 1) hE 108 dX10_kindOf_1 (by rw [c102]; decide) (by rw [c102]; decide) (by rw [c102]; rfl) (by decide) ?_
    refine e_bipush (pc := 108) (v := -9) hE kb_m9 dX10_kindOf_108 ?_
    exact hR dX10_kindOf_110 h
  have h := h.2
  by_cases c103 : a0 = 103
  · have h := h.1 c103
    refine e_swIn (pc := 1) hE 108 dX10_kindOf_1 (by rw [c103]; decide) (by rw [c103]; decide) (by rw [c103]; rfl) (by decide) ?_
    refine e_bipush (pc := 108) (v := -9) hE kb_m9 dX10_kindOf_108 ?_
    exact hR dX10_kindOf_110 h
  have h := h.2
  by_cases c104 : a0 = 104
  · have h := h.1 c104
    refine e_swIn (pc := 1) hE 108 dX10_kindOf_1 (by rw [c104]; decide) (by rw [c104]; decide) (by rw [c104]; rfl) (by decide) ?_
    refine e_bipush (pc := 108) (v := -9) hE kb_m9 dX10_kindOf_108 ?_
    exact hR dX10_kindOf_110 h
  have h := h.2
  by_cases c105 : a0 = 105
  · have h := h.1 c105
    refine e_swIn (pc := 1) hE 108 dX10_kindOf_1 (by rw [c105]; decide) (by rw [c105]; decide) (by rw [c105]; rfl) (by decide) ?_
    refine e_bipush (pc := 108) (v := -9) hE kb_m9 dX10_kindOf_108 ?_
    exact hR dX10_kindOf_110 h
  have h := h.2
  by_cases c106 : a0 = 106
  · have h := h.1 c106
    refine e_swIn (pc := 1) hE 108 dX10_kindOf_1 (by rw [c106]; decide) (by rw [c106]; decide) (by rw [c106]; rfl) (by decide) ?_
    refine e_bipush (pc := 108) (v := -9) hE kb_m9 dX10_kindOf_108 ?_
    exact hR dX10_kindOf_110 h
  have h := h.2
  by_cases c107 : a0 = 107
  · have h := h.1 c107
    refine e_swIn (pc := 1) hE 108 dX10_kindOf_1 (by rw [c107]; decide) (by rw [c107]; decide) (by rw [c107]; rfl) (by decide) ?_
    refine e_bipush (pc := 108) (v := -9) hE kb_m9 dX10_kindOf_108 ?_
    exact hR dX10_kindOf_110 h
  have h := h.2
  by_cases c108 : a0 = 108
  · have h := h.1 c108
    refine e_swIn (pc := 1) hE 104 dX10_kindOf_1 (by rw [c108]; decide) (by rw [c108]; decide) (by rw [c108]; rfl) (by decide) ?_
    refine e_iconst (pc := 104) (v := 4) hE ki_4 dX10_kindOf_104 ?_
    exact hR dX10_kindOf_105 h
  have h := h.2
  by_cases c109 : a0 = 109
  · have h := h.1 c109
    refine e_swIn (pc := 1) hE 106 dX10_kindOf_1 (by rw [c109]; decide) (by rw [c109]; decide) (by rw [c109]; rfl) (by decide) ?_
    refine e_iconst (pc := 106) (v := 5) hE ki_5 dX10_kindOf_106 ?_
    exact hR dX10_kindOf_107 h
  have h := h.2
  by_cases c110 : a0 = 110
  · have h := h.1 c110
    refine e_swIn (pc := 1) hE 108 dX10_kindOf_1 (by rw [c110]; decide) (by rw [c110]; decide) (by rw [c110]; rfl) (by decide) ?_
    refine e_bipush (pc := 108) (v := -9) hE kb_m9 dX10_kindOf_108 ?_
    exact hR dX10_kindOf_110 h
  have h := h.2
  by_cases c111 : a0 = 111
  · have h := h.1 c111
    refine e_swIn (pc := 1) hE 108 dX10_kindOf_1 (by rw [c111]; decide) (by rw [c111]; decide) (by rw [c111]; rfl) (by decide) ?_
    refine e_bipush (pc := 108) (v := -9) hE kb_m9 dX10_kindOf_108 ?_
    exact hR dX10_kindOf_110 h
  have h := h.2
  by_cases c112 : a0 = 112
  · have h := h.1 c112
    refine e_swIn (pc := 1) hE 108 dX10_kindOf_1 (by rw [c112]; decide) (by rw [c112]; decide) (by rw [c112]; rfl) (by decide) ?_
    refine e_bipush (pc := 108) (v := -9) hE kb_m9 dX10_kindOf_108 ?_
    exact hR dX10_kindOf_110 h
  have h := h.2
  by_cases c113 : a0 = 113
  · have h := h.1 c113
    refine e_swIn (pc := 1) hE 108 dX10_kindOf_1 (by rw [c113]; decide) (by rw [c113]; decide) (by rw [c113]; rfl) (by decide) ?_
    refine e_bipush (pc := 108) (v := -9) hE kb_m9 dX10_kindOf_108 ?_
    exact hR dX10_kindOf_110 h
  have h := h.2
  by_cases c114 : a0 = 114
  · have h := h.1 c114
    refine e_swIn (pc := 1) hE 108 dX10_kindOf_1 (by rw [c114]; decide) (by rw [c114]; decide) (by rw [c114]; rfl) (by decide) ?_
    refine e_bipush (pc := 108) (v := -9) hE kb_m9 dX10_kindOf_108 ?_
    exact hR dX10_kindOf_110 h
  have h := h.2
  by_cases c115 : a0 = 115
  · have h := h.1 c115
    refine e_swIn (pc := 1) hE 100 dX10_kindOf_1 (by rw [c115]; decide) (by rw [c115]; decide) (by rw [c115]; rfl) (by decide) ?_
    refine e_iconst (pc := 100) (v := 2) hE ki_2 dX10_kindOf_100 ?_
    exact hR dX10_kindOf_101 h
  have h := h.2
  by_cases c116 : a0 = 116
  · have h := h.1 c116
    refine e_swIn (pc := 1) hE 98 dX10_kindOf_1 (by rw [c116]; decide) (by rw [c116]; decide) (by rw [c116]; rfl) (by decide) ?_
    refine e_iconst (pc := 98) (v := 1) hE ki_1 dX10_kindOf_98 ?_
    exact hR dX10_kindOf_99 h
  have h := h.2
  have cd : a0.toInt < 97 ∨ 116 < a0.toInt := by
    have q97 := sw_ne (n := 97) (by decide) c97
    have q98 := sw_ne (n := 98) (by decide) c98
    have q99 := sw_ne (n := 99) (by decide) c99
    have q100 := sw_ne (n := 100) (by decide) c100
    have q101 := sw_ne (n := 101) (by decide) c101
    have q102 := sw_ne (n := 102) (by decide) c102
    have q103 := sw_ne (n := 103) (by decide) c103
    have q104 := sw_ne (n := 104) (by decide) c104
    have q105 := sw_ne (n := 105) (by decide) c105
    have q106 := sw_ne (n := 106) (by decide) c106
    have q107 := sw_ne (n := 107) (by decide) c107
    have q108 := sw_ne (n := 108) (by decide) c108
    have q109 := sw_ne (n := 109) (by decide) c109
    have q110 := sw_ne (n := 110) (by decide) c110
    have q111 := sw_ne (n := 111) (by decide) c111
    have q112 := sw_ne (n := 112) (by decide) c112
    have q113 := sw_ne (n := 113) (by decide) c113
    have q114 := sw_ne (n := 114) (by decide) c114
    have q115 := sw_ne (n := 115) (by decide) c115
    have q116 := sw_ne (n := 116) (by decide) c116
    omega
  have h := h cd
  refine e_swOut (pc := 1) hE 108 dX10_kindOf_1 cd (by decide) ?_
  refine e_bipush (pc := 108) (v := -9) hE kb_m9 dX10_kindOf_108 ?_
  exact hR dX10_kindOf_110 h
set_option maxHeartbeats 4000000 in
set_option maxRecDepth 20000 in
theorem w_M_readsArm_136 {l : Launch} {G : Gs} {d : Nat} {E : EE} {a1 : Int32} {Q : Int32 → Mm → Prop} (hE : Mach l G RX10 cX10_readsArm 6 (d + 2) E) (hR : RtZ cX10_readsArm E Q)   {KB : Int32 → Int32 → Mm → Prop} {K164 : Mm → Prop} {v3 : Int32} {v4 : Int32} {s0 : Int32} {M : Mm} (h : k_M_readsArm_136 a1 Q KB K164 v3 v4 s0 M) (hKB : ∀ (v3 : Int32) (v4 : Int32)  (M : Mm), KB v3 v4 M → E 63 [(0, rv G 312), (1, .int a1), (3, .int v3), (4, .int v4)] [] M) (hK164 : ∀  (M : Mm), K164 M → E 164 [(0, rv G 312)] [] M) : E 136 [(0, rv G 312), (1, .int a1), (3, .int v3), (4, .int v4)] [.int s0] M := by
  unfold k_M_readsArm_136 at h
  refine e_istore (pc := 136) (lv' := [(5, .int s0), (0, rv G 312), (1, .int a1), (3, .int v3), (4, .int v4)]) hE dX10_readsArm_136 (by decide) rfl ?_
  refine e_iload (pc := 138) hE 0 rfl dX10_readsArm_138 ?_
  refine e_if_ne (pc := 140) hE 145 dX10_readsArm_140 (by decide) (fun c0 => ?_) (fun c0 => ?_)
  · have h := h.1 c0
    refine e_aload_n (pc := 145) hE rfl 1 rfl dX10_readsArm_145 ?_
    refine g_Md_readArms (pc := 146) hE tw_1022 dX10_readsArm_146 ?_
    refine e_iload_n (pc := 149) hE rfl 3 rfl dX10_readsArm_149 ?_
    refine e_iload (pc := 150) hE 4 rfl dX10_readsArm_150 ?_
    refine e_iadd (pc := 152) hE dX10_readsArm_152 ?_
    refine e_aload_n (pc := 153) hE rfl 1 rfl dX10_readsArm_153 ?_
    refine g_Md_readNumber (pc := 154) hE tw_1018 dX10_readsArm_154 ?_
    refine e_topi (fun x157 ex157 => ?_)
    have h := h x157 ex157
    refine e_iast (pc := 157) hE ar_325 h.1 dX10_readsArm_157 ?_
    have h := h.2
    obtain ⟨x158, ex158⟩ : ∃ y : Int32, y = v4 + (1 : Int32) := ⟨_, rfl⟩
    have h := h x158 ex158
    refine e_iinc (pc := 158) (k := 4) (v := x158) (lv' := [(4, .int x158), (5, .int s0), (0, rv G 312), (1, .int a1), (3, .int v3)]) hE dX10_readsArm_158 rfl (by rw [ex158, ki_1]) (by decide) rfl ?_
    refine e_goto (pc := 161) hE 63 dX10_readsArm_161 (by decide) ?_
    refine e_sub hE [2, 3, 4, 0] rfl ?_
    exact hKB _ _ _ h
  · have h := h.2 c0
    refine e_iconst (pc := 143) (v := 0) hE ki_0 dX10_readsArm_143 ?_
    exact hR dX10_readsArm_144 (Or.inl rfl) h
set_option maxHeartbeats 4000000 in
set_option maxRecDepth 20000 in
theorem w_M_readsArm_63 {l : Launch} {G : Gs} {d : Nat} {E : EE} {a1 : Int32} {Q : Int32 → Mm → Prop} (hE : Mach l G RX10 cX10_readsArm 6 (d + 2) E) (hR : RtZ cX10_readsArm E Q)   {KB : Int32 → Int32 → Mm → Prop} {K164 : Mm → Prop} {v3 : Int32} {v4 : Int32} {M : Mm} (h : k_M_readsArm_63 a1 Q KB K164 v3 v4 M) (hKB : ∀ (v3 : Int32) (v4 : Int32)  (M : Mm), KB v3 v4 M → E 63 [(0, rv G 312), (1, .int a1), (3, .int v3), (4, .int v4)] [] M) (hK164 : ∀  (M : Mm), K164 M → E 164 [(0, rv G 312)] [] M) : E 63 [(0, rv G 312), (1, .int a1), (3, .int v3), (4, .int v4)] [] M := by
  unfold k_M_readsArm_63 at h
  refine e_iload (pc := 63) hE 3 rfl dX10_readsArm_63 ?_
  refine e_iconst (pc := 65) (v := 5) hE ki_5 dX10_readsArm_65 ?_
  refine e_icmp_ge (pc := 66) hE 164 dX10_readsArm_66 (by decide) (fun c0 => ?_) (fun c0 => ?_)
  · have h := h.1 c0
    refine e_sub hE [0] rfl ?_
    exact hK164 _ h
  · have h := h.2 c0
    refine e_iload (pc := 69) hE 3 rfl dX10_readsArm_69 ?_
    refine e_iconst (pc := 71) (v := 1) hE ki_1 dX10_readsArm_71 ?_
    refine e_icmp_ne (pc := 72) hE 86 dX10_readsArm_72 (by decide) (fun c0 => ?_) (fun c0 => ?_)
    · have h := h.1 c0
      refine e_iload (pc := 86) hE 3 rfl dX10_readsArm_86 ?_
      refine e_iconst (pc := 88) (v := 2) hE ki_2 dX10_readsArm_88 ?_
      refine e_icmp_ne (pc := 89) hE 103 dX10_readsArm_89 (by decide) (fun c0 => ?_) (fun c0 => ?_)
      · have h := h.1 c0
        refine e_iload (pc := 103) hE 3 rfl dX10_readsArm_103 ?_
        refine e_iconst (pc := 105) (v := 3) hE ki_3 dX10_readsArm_105 ?_
        refine e_icmp_ne (pc := 106) hE 120 dX10_readsArm_106 (by decide) (fun c0 => ?_) (fun c0 => ?_)
        · have h := h.1 c0
          refine e_aload_n (pc := 120) hE rfl 0 rfl dX10_readsArm_120 ?_
          refine e_iload_n (pc := 121) hE rfl 1 rfl dX10_readsArm_121 ?_
          refine e_iconst (pc := 122) (v := 0) hE ki_0 dX10_readsArm_122 ?_
          refine e_aload_n (pc := 123) hE rfl 0 rfl dX10_readsArm_123 ?_
          refine g_Md_readArms (pc := 124) hE tw_1022 dX10_readsArm_124 ?_
          refine e_iload_n (pc := 127) hE rfl 2 rfl dX10_readsArm_127 ?_
          refine e_iconst (pc := 128) (v := 3) hE ki_3 dX10_readsArm_128 ?_
          refine e_iadd (pc := 129) hE dX10_readsArm_129 ?_
          refine e_iald (pc := 130) hE ar_325 h.1 dX10_readsArm_130 ?_
          have h := h.2
          refine e_iconst (pc := 131) (v := 1) hE ki_1 dX10_readsArm_131 ?_
          refine e_isub (pc := 132) hE dX10_readsArm_132 ?_
          refine c_M_figure (pc := 133) (d := d + 1) hE (t_M_figure (d := d)  h) tw_1227 (Nat.le_of_ble_eq_true rfl) dX10_readsArm_133 (fun r133 M133 h => ?_)
          exact w_M_readsArm_136 hE hR h hKB hK164
        · have h := h.2 c0
          refine e_aload_n (pc := 109) hE rfl 0 rfl dX10_readsArm_109 ?_
          refine e_iload_n (pc := 110) hE rfl 1 rfl dX10_readsArm_110 ?_
          refine e_iconst (pc := 111) (v := 1) hE ki_1 dX10_readsArm_111 ?_
          refine e_bipush (pc := 112) (v := 6) hE kb_6 dX10_readsArm_112 ?_
          refine c_M_figure (pc := 114) (d := d + 1) hE (t_M_figure (d := d)  h) tw_1227 (Nat.le_of_ble_eq_true rfl) dX10_readsArm_114 (fun r114 M114 h => ?_)
          refine e_goto (pc := 117) hE 136 dX10_readsArm_117 (by decide) ?_
          exact w_M_readsArm_136 hE hR h hKB hK164
      · have h := h.2 c0
        refine e_aload_n (pc := 92) hE rfl 0 rfl dX10_readsArm_92 ?_
        refine e_iload_n (pc := 93) hE rfl 1 rfl dX10_readsArm_93 ?_
        refine e_iconst (pc := 94) (v := 0) hE ki_0 dX10_readsArm_94 ?_
        refine e_bipush (pc := 95) (v := 9) hE kb_9 dX10_readsArm_95 ?_
        refine c_M_figure (pc := 97) (d := d + 1) hE (t_M_figure (d := d)  h) tw_1227 (Nat.le_of_ble_eq_true rfl) dX10_readsArm_97 (fun r97 M97 h => ?_)
        refine e_goto (pc := 100) hE 136 dX10_readsArm_100 (by decide) ?_
        exact w_M_readsArm_136 hE hR h hKB hK164
    · have h := h.2 c0
      refine e_aload_n (pc := 75) hE rfl 0 rfl dX10_readsArm_75 ?_
      refine e_iload_n (pc := 76) hE rfl 1 rfl dX10_readsArm_76 ?_
      refine e_iconst (pc := 77) (v := 1) hE ki_1 dX10_readsArm_77 ?_
      refine e_bipush (pc := 78) (v := 9) hE kb_9 dX10_readsArm_78 ?_
      refine c_M_figure (pc := 80) (d := d + 1) hE (t_M_figure (d := d)  h) tw_1227 (Nat.le_of_ble_eq_true rfl) dX10_readsArm_80 (fun r80 M80 h => ?_)
      refine e_goto (pc := 83) hE 136 dX10_readsArm_83 (by decide) ?_
      exact w_M_readsArm_136 hE hR h hKB hK164
set_option maxHeartbeats 4000000 in
set_option maxRecDepth 20000 in
theorem w_lp_M_readsArm_63 {l : Launch} {G : Gs} {d : Nat} {E : EE} {a1 : Int32} {Q : Int32 → Mm → Prop} (hE : Mach l G RX10 cX10_readsArm 6 (d + 2) E) (hR : RtZ cX10_readsArm E Q)   {K164 : Mm → Prop} {n : Nat} {v3 : Int32} {v4 : Int32} {M : Mm} (h : lp_M_readsArm_63 a1 Q K164 n v3 v4 M) (hK164 : ∀  (M : Mm), K164 M → E 164 [(0, rv G 312)] [] M) : E 63 [(0, rv G 312), (1, .int a1), (3, .int v3), (4, .int v4)] [] M := by
  have key : ∀ (n : Nat) (v3 : Int32) (v4 : Int32) (M : Mm), lp_M_readsArm_63 a1 Q K164 n v3 v4 M → E 63 [(0, rv G 312), (1, .int a1), (3, .int v3), (4, .int v4)] [] M := by
    intro n
    induction n with
    | zero => intro v3 v4 M h; exact h.elim
    | succ n ih => intro v3 v4 M h; exact w_M_readsArm_63 hE hR  (show k_M_readsArm_63 a1 Q (lp_M_readsArm_63 a1 Q K164 n) K164 v3 v4 M from h) ih hK164
  exact key n _ _ _ h
set_option maxHeartbeats 4000000 in
set_option maxRecDepth 20000 in
theorem t_M_readsArm {l : Launch} {G : Gs} {d : Nat} {a1 : Int32} {M : Mm} {Q : Int32 → Mm → Prop}  (h : wp_M_readsArm a1 M Q) : CtI l G (d + 2) yX10_readsArm cX10_readsArm 6 (some .boolean) [rv G 312, .int a1] M Q := by
  refine CtI.mkZ (by decide) rfl (Nat.le_of_ble_eq_true rfl) (fun E hE hR => ?_)
  show E 0 [(0, rv G 312), (1, .int a1)] [] M
  unfold wp_M_readsArm at h
  refine e_aload_n (pc := 0) hE rfl 0 rfl dX10_readsArm_0 ?_
  refine e_iload_n (pc := 1) hE rfl 1 rfl dX10_readsArm_1 ?_
  refine e_aload_n (pc := 2) hE rfl 0 rfl dX10_readsArm_2 ?_
  refine g_Md_readAt (pc := 3) hE tw_1017 dX10_readsArm_3 ?_
  refine c_M_byteAt (pc := 6) (d := d + 1 + 0) hE (t_M_byteAt (d := d + 1)  h) tw_1215 (Nat.le_of_ble_eq_true rfl) dX10_readsArm_6 (fun r6 M6 h => ?_)
  refine c_M_kindOf (pc := 9) (d := d + 1 + 0) hE (t_M_kindOf (d := d + 1)  h) tw_1242 (Nat.le_of_ble_eq_true rfl) dX10_readsArm_9 (fun r9 M9 h => ?_)
  refine e_istore_n (pc := 12) (lv' := [(2, .int r9), (0, rv G 312), (1, .int a1)]) hE dX10_readsArm_12 rfl (by decide) rfl ?_
  refine e_iload_n (pc := 13) hE rfl 0 rfl dX10_readsArm_13 ?_
  refine e_bipush (pc := 14) (v := -9) hE kb_m9 dX10_readsArm_14 ?_
  refine e_icmp_eq (pc := 16) hE 34 dX10_readsArm_16 (by decide) (fun c0 => ?_) (fun c0 => ?_)
  · have h := h.1 c0
    refine e_iconst (pc := 34) (v := 0) hE ki_0 dX10_readsArm_34 ?_
    exact hR dX10_readsArm_35 (Or.inl rfl) h
  · have h := h.2 c0
    refine e_aload_n (pc := 19) hE rfl 1 rfl dX10_readsArm_19 ?_
    refine g_Md_readMany (pc := 20) hE tw_1020 dX10_readsArm_20 ?_
    refine e_iconst (pc := 23) (v := 5) hE ki_5 dX10_readsArm_23 ?_
    refine e_icmp_eq (pc := 24) hE 34 dX10_readsArm_24 (by decide) (fun c0 => ?_) (fun c0 => ?_)
    · have h := h.1 c0
      refine e_iconst (pc := 34) (v := 0) hE ki_0 dX10_readsArm_34 ?_
      exact hR dX10_readsArm_35 (Or.inl rfl) h
    · have h := h.2 c0
      refine e_aload_n (pc := 27) hE rfl 1 rfl dX10_readsArm_27 ?_
      refine g_Md_readWaitMany (pc := 28) hE tw_1021 dX10_readsArm_28 ?_
      refine e_if_le (pc := 31) hE 36 dX10_readsArm_31 (by decide) (fun c0 => ?_) (fun c0 => ?_)
      · have h := h.1 c0
        refine e_iconst (pc := 36) (v := 5) hE ki_5 dX10_readsArm_36 ?_
        refine e_aload_n (pc := 37) hE rfl 1 rfl dX10_readsArm_37 ?_
        refine g_Md_readMany (pc := 38) hE tw_1020 dX10_readsArm_38 ?_
        refine e_imul (pc := 41) hE dX10_readsArm_41 ?_
        refine e_topi (fun x42 ex42 => ?_)
        have h := h x42 ex42
        refine e_istore_n (pc := 42) (lv' := [(3, .int x42), (2, .int r9), (0, rv G 312), (1, .int a1)]) hE dX10_readsArm_42 rfl (by decide) rfl ?_
        refine e_aload_n (pc := 43) hE rfl 2 rfl dX10_readsArm_43 ?_
        refine e_dup (pc := 44) hE rfl dX10_readsArm_44 ?_
        refine g_Md_readAt (pc := 45) hE tw_1017 dX10_readsArm_45 ?_
        refine e_iconst (pc := 48) (v := 1) hE ki_1 dX10_readsArm_48 ?_
        refine e_iadd (pc := 49) hE dX10_readsArm_49 ?_
        refine e_topi (fun x50 ex50 => ?_)
        have h := h x50 ex50
        refine p_Md_readAt (pc := 50) hE tw_1017 dX10_readsArm_50 ?_
        refine e_aload_n (pc := 53) hE rfl 2 rfl dX10_readsArm_53 ?_
        refine g_Md_readArms (pc := 54) hE tw_1022 dX10_readsArm_54 ?_
        refine e_iload_n (pc := 57) hE rfl 0 rfl dX10_readsArm_57 ?_
        refine e_iload_n (pc := 58) hE rfl 1 rfl dX10_readsArm_58 ?_
        refine e_iast (pc := 59) hE ar_325 h.1 dX10_readsArm_59 ?_
        have h := h.2
        refine e_iconst (pc := 60) (v := 1) hE ki_1 dX10_readsArm_60 ?_
        refine e_istore (pc := 61) (lv' := [(4, .int (1 : Int32)), (3, .int x42), (2, .int r9), (0, rv G 312), (1, .int a1)]) hE dX10_readsArm_61 (by decide) rfl ?_
        obtain ⟨n, h⟩ := h
        refine e_sub hE [3, 4, 1, 0] rfl ?_
        refine w_lp_M_readsArm_63 hE hR  h (fun M h => ?_)
        refine e_aload_n (pc := 164) hE rfl 0 rfl dX10_readsArm_164 ?_
        refine e_dup (pc := 165) hE rfl dX10_readsArm_165 ?_
        refine g_Md_readMany (pc := 166) hE tw_1020 dX10_readsArm_166 ?_
        refine e_iconst (pc := 169) (v := 1) hE ki_1 dX10_readsArm_169 ?_
        refine e_iadd (pc := 170) hE dX10_readsArm_170 ?_
        refine e_topi (fun x171 ex171 => ?_)
        have h := h x171 ex171
        refine p_Md_readMany (pc := 171) hE tw_1020 dX10_readsArm_171 ?_
        refine e_iconst (pc := 174) (v := 1) hE ki_1 dX10_readsArm_174 ?_
        exact hR dX10_readsArm_175 (Or.inr rfl) h
      · have h := h.2 c0
        refine e_iconst (pc := 34) (v := 0) hE ki_0 dX10_readsArm_34 ?_
        exact hR dX10_readsArm_35 (Or.inl rfl) h
set_option maxHeartbeats 4000000 in
set_option maxRecDepth 20000 in
theorem t_M_readsItem {l : Launch} {G : Gs} {d : Nat} {a1 : Int32} {M : Mm} {Q : Int32 → Mm → Prop}  (h : wp_M_readsItem a1 M Q) : CtI l G (d + 3) yX10_readsItem cX10_readsItem 2 (some .boolean) [rv G 312, .int a1] M Q := by
  refine CtI.mkZ (by decide) rfl (Nat.le_of_ble_eq_true rfl) (fun E hE hR => ?_)
  show E 0 [(0, rv G 312), (1, .int a1)] [] M
  unfold wp_M_readsItem at h
  refine e_aload_n (pc := 0) hE rfl 0 rfl dX10_readsItem_0 ?_
  refine g_Md_readRiver (pc := 1) hE tw_1019 dX10_readsItem_1 ?_
  refine e_if_ne (pc := 4) hE 13 dX10_readsItem_4 (by decide) (fun c0 => ?_) (fun c0 => ?_)
  · have h := h.1 c0
    refine e_aload_n (pc := 13) hE rfl 0 rfl dX10_readsItem_13 ?_
    refine e_iload_n (pc := 14) hE rfl 1 rfl dX10_readsItem_14 ?_
    refine e_aload_n (pc := 15) hE rfl 0 rfl dX10_readsItem_15 ?_
    refine g_Md_readAt (pc := 16) hE tw_1017 dX10_readsItem_16 ?_
    refine c_M_byteAt (pc := 19) (d := d + 2 + 0) hE (t_M_byteAt (d := d + 2)  h) tw_1215 (Nat.le_of_ble_eq_true rfl) dX10_readsItem_19 (fun r19 M19 h => ?_)
    refine e_bipush (pc := 22) (v := 119) hE kb_119 dX10_readsItem_22 ?_
    refine e_icmp_ne (pc := 24) hE 35 dX10_readsItem_24 (by decide) (fun c0 => ?_) (fun c0 => ?_)
    · have h := h.1 c0
      refine e_aload_n (pc := 35) hE rfl 0 rfl dX10_readsItem_35 ?_
      refine e_iload_n (pc := 36) hE rfl 1 rfl dX10_readsItem_36 ?_
      refine c_M_readsArm (pc := 37) (d := d + 2) hE (t_M_readsArm (d := d)  h) tw_1238 (Nat.le_of_ble_eq_true rfl) dX10_readsItem_37 (fun r37 M37 h => ?_)
      exact hR dX10_readsItem_40 h.1 h.2
    · have h := h.2 c0
      refine e_aload_n (pc := 27) hE rfl 0 rfl dX10_readsItem_27 ?_
      refine e_iload_n (pc := 28) hE rfl 1 rfl dX10_readsItem_28 ?_
      refine c_M_readsWait (pc := 29) (d := d + 2) hE (t_M_readsWait (d := d)  h) tw_1231 (Nat.le_of_ble_eq_true rfl) dX10_readsItem_29 (fun r29 M29 h => ?_)
      refine e_goto (pc := 32) hE 40 dX10_readsItem_32 (by decide) ?_
      exact hR dX10_readsItem_40 h.1 h.2
  · have h := h.2 c0
    refine e_aload_n (pc := 7) hE rfl 0 rfl dX10_readsItem_7 ?_
    refine e_iload_n (pc := 8) hE rfl 1 rfl dX10_readsItem_8 ?_
    refine c_M_readsRiver (pc := 9) (d := d + 2) hE (t_M_readsRiver (d := d)  h) tw_1223 (Nat.le_of_ble_eq_true rfl) dX10_readsItem_9 (fun r9 M9 h => ?_)
    exact hR dX10_readsItem_12 h.1 h.2
set_option maxHeartbeats 4000000 in
set_option maxRecDepth 20000 in
theorem w_M_faultOf_22 {l : Launch} {G : Gs} {d : Nat} {E : EE} {a1 : Int32} {Q : Int32 → Mm → Prop} (hE : Mach l G RX10 cX10_faultOf 3 (d + 4) E) (hR : RtI cX10_faultOf E Q)   {KB : Int32 → Mm → Prop} {K40 : Mm → Prop} {v2 : Int32} {M : Mm} (h : k_M_faultOf_22 a1 Q KB K40 v2 M) (hKB : ∀ (v2 : Int32)  (M : Mm), KB v2 M → E 22 [(0, rv G 312), (1, .int a1), (2, .int v2)] [] M) (hK40 : ∀  (M : Mm), K40 M → E 40 [(0, rv G 312), (1, .int a1)] [] M) : E 22 [(0, rv G 312), (1, .int a1), (2, .int v2)] [] M := by
  unfold k_M_faultOf_22 at h
  refine e_iload_n (pc := 22) hE rfl 2 rfl dX10_faultOf_22 ?_
  refine e_iconst (pc := 23) (v := 5) hE ki_5 dX10_faultOf_23 ?_
  refine e_icmp_ge (pc := 24) hE 40 dX10_faultOf_24 (by decide) (fun c0 => ?_) (fun c0 => ?_)
  · have h := h.1 c0
    refine e_sub hE [0, 1] rfl ?_
    exact hK40 _ h
  · have h := h.2 c0
    refine e_aload_n (pc := 27) hE rfl 0 rfl dX10_faultOf_27 ?_
    refine g_Md_readWaits (pc := 28) hE tw_1023 dX10_faultOf_28 ?_
    refine e_iload_n (pc := 31) hE rfl 2 rfl dX10_faultOf_31 ?_
    refine e_iconst (pc := 32) (v := 0) hE ki_0 dX10_faultOf_32 ?_
    refine e_iast (pc := 33) hE ar_326 h.1 dX10_faultOf_33 ?_
    have h := h.2
    obtain ⟨x34, ex34⟩ : ∃ y : Int32, y = v2 + (1 : Int32) := ⟨_, rfl⟩
    have h := h x34 ex34
    refine e_iinc (pc := 34) (k := 2) (v := x34) (lv' := [(2, .int x34), (0, rv G 312), (1, .int a1)]) hE dX10_faultOf_34 rfl (by rw [ex34, ki_1]) (by decide) rfl ?_
    refine e_goto (pc := 37) hE 22 dX10_faultOf_37 (by decide) ?_
    refine e_sub hE [1, 2, 0] rfl ?_
    exact hKB _ _ h
set_option maxHeartbeats 4000000 in
set_option maxRecDepth 20000 in
theorem w_lp_M_faultOf_22 {l : Launch} {G : Gs} {d : Nat} {E : EE} {a1 : Int32} {Q : Int32 → Mm → Prop} (hE : Mach l G RX10 cX10_faultOf 3 (d + 4) E) (hR : RtI cX10_faultOf E Q)   {K40 : Mm → Prop} {n : Nat} {v2 : Int32} {M : Mm} (h : lp_M_faultOf_22 a1 Q K40 n v2 M) (hK40 : ∀  (M : Mm), K40 M → E 40 [(0, rv G 312), (1, .int a1)] [] M) : E 22 [(0, rv G 312), (1, .int a1), (2, .int v2)] [] M := by
  have key : ∀ (n : Nat) (v2 : Int32) (M : Mm), lp_M_faultOf_22 a1 Q K40 n v2 M → E 22 [(0, rv G 312), (1, .int a1), (2, .int v2)] [] M := by
    intro n
    induction n with
    | zero => intro v2 M h; exact h.elim
    | succ n ih => intro v2 M h; exact w_M_faultOf_22 hE hR  (show k_M_faultOf_22 a1 Q (lp_M_faultOf_22 a1 Q K40 n) K40 v2 M from h) ih hK40
  exact key n _ _ h
set_option maxHeartbeats 4000000 in
set_option maxRecDepth 20000 in
theorem w_M_faultOf_40 {l : Launch} {G : Gs} {d : Nat} {E : EE} {a1 : Int32} {Q : Int32 → Mm → Prop} (hE : Mach l G RX10 cX10_faultOf 3 (d + 4) E) (hR : RtI cX10_faultOf E Q)   {KB : Mm → Prop} {K93 : Mm → Prop}  {M : Mm} (h : k_M_faultOf_40 a1 Q KB K93 M) (hKB : ∀  (M : Mm), KB M → E 40 [(0, rv G 312), (1, .int a1)] [] M) (hK93 : ∀  (M : Mm), K93 M → E 93 [(0, rv G 312), (1, .int a1)] [] M) : E 40 [(0, rv G 312), (1, .int a1)] [] M := by
  unfold k_M_faultOf_40 at h
  refine e_aload_n (pc := 40) hE rfl 0 rfl dX10_faultOf_40 ?_
  refine g_Md_readAt (pc := 41) hE tw_1017 dX10_faultOf_41 ?_
  refine e_aload_n (pc := 44) hE rfl 0 rfl dX10_faultOf_44 ?_
  refine g_Md_textSizes (pc := 45) hE tw_1007 dX10_faultOf_45 ?_
  refine e_iload_n (pc := 48) hE rfl 1 rfl dX10_faultOf_48 ?_
  refine e_iald (pc := 49) hE ar_317 h.1 dX10_faultOf_49 ?_
  have h := h.2
  refine e_icmp_ge (pc := 50) hE 93 dX10_faultOf_50 (by decide) (fun c0 => ?_) (fun c0 => ?_)
  · have h := h.1 c0
    exact hK93 _ h
  · have h := h.2 c0
    refine e_aload_n (pc := 53) hE rfl 0 rfl dX10_faultOf_53 ?_
    refine e_iload_n (pc := 54) hE rfl 1 rfl dX10_faultOf_54 ?_
    refine e_aload_n (pc := 55) hE rfl 0 rfl dX10_faultOf_55 ?_
    refine g_Md_readAt (pc := 56) hE tw_1017 dX10_faultOf_56 ?_
    refine c_M_byteAt (pc := 59) (d := d + 3 + 0) hE (t_M_byteAt (d := d + 3)  h) tw_1215 (Nat.le_of_ble_eq_true rfl) dX10_faultOf_59 (fun r59 M59 h => ?_)
    refine e_bipush (pc := 62) (v := 32) hE kb_32 dX10_faultOf_62 ?_
    refine e_icmp_ne (pc := 64) hE 80 dX10_faultOf_64 (by decide) (fun c0 => ?_) (fun c0 => ?_)
    · have h := h.1 c0
      refine e_aload_n (pc := 80) hE rfl 0 rfl dX10_faultOf_80 ?_
      refine e_iload_n (pc := 81) hE rfl 1 rfl dX10_faultOf_81 ?_
      refine c_M_readsItem (pc := 82) (d := d + 3) hE (t_M_readsItem (d := d)  h) tw_1219 (Nat.le_of_ble_eq_true rfl) dX10_faultOf_82 (fun r82 M82 h => ?_)
      refine e_if_ne (pc := 85) hE 40 dX10_faultOf_85 (by decide) (fun c0 => ?_) (fun c0 => ?_)
      · have h := h.1 c0
        exact hKB _ h
      · have h := h.2 c0
        refine e_aload_n (pc := 88) hE rfl 0 rfl dX10_faultOf_88 ?_
        refine g_Md_readAt (pc := 89) hE tw_1017 dX10_faultOf_89 ?_
        exact hR dX10_faultOf_92 h
    · have h := h.2 c0
      refine e_aload_n (pc := 67) hE rfl 0 rfl dX10_faultOf_67 ?_
      refine e_dup (pc := 68) hE rfl dX10_faultOf_68 ?_
      refine g_Md_readAt (pc := 69) hE tw_1017 dX10_faultOf_69 ?_
      refine e_iconst (pc := 72) (v := 1) hE ki_1 dX10_faultOf_72 ?_
      refine e_iadd (pc := 73) hE dX10_faultOf_73 ?_
      refine e_topi (fun x74 ex74 => ?_)
      have h := h x74 ex74
      refine p_Md_readAt (pc := 74) hE tw_1017 dX10_faultOf_74 ?_
      refine e_goto (pc := 77) hE 40 dX10_faultOf_77 (by decide) ?_
      exact hKB _ h
set_option maxHeartbeats 4000000 in
set_option maxRecDepth 20000 in
theorem w_lp_M_faultOf_40 {l : Launch} {G : Gs} {d : Nat} {E : EE} {a1 : Int32} {Q : Int32 → Mm → Prop} (hE : Mach l G RX10 cX10_faultOf 3 (d + 4) E) (hR : RtI cX10_faultOf E Q)   {K93 : Mm → Prop} {n : Nat}  {M : Mm} (h : lp_M_faultOf_40 a1 Q K93 n M) (hK93 : ∀  (M : Mm), K93 M → E 93 [(0, rv G 312), (1, .int a1)] [] M) : E 40 [(0, rv G 312), (1, .int a1)] [] M := by
  have key : ∀ (n : Nat)  (M : Mm), lp_M_faultOf_40 a1 Q K93 n M → E 40 [(0, rv G 312), (1, .int a1)] [] M := by
    intro n
    induction n with
    | zero => intro M h; exact h.elim
    | succ n ih => intro M h; exact w_M_faultOf_40 hE hR  (show k_M_faultOf_40 a1 Q (lp_M_faultOf_40 a1 Q K93 n) K93 M from h) ih hK93
  exact key n _ h
set_option maxHeartbeats 4000000 in
set_option maxRecDepth 20000 in
theorem t_M_faultOf {l : Launch} {G : Gs} {d : Nat} {a1 : Int32} {M : Mm} {Q : Int32 → Mm → Prop}  (h : wp_M_faultOf a1 M Q) : CtI l G (d + 4) yX10_faultOf cX10_faultOf 3 (some .int) [rv G 312, .int a1] M Q := by
  refine CtI.mk (by decide) rfl (Nat.le_of_ble_eq_true rfl) (fun E hE hR => ?_)
  show E 0 [(0, rv G 312), (1, .int a1)] [] M
  unfold wp_M_faultOf at h
  refine e_aload_n (pc := 0) hE rfl 0 rfl dX10_faultOf_0 ?_
  refine e_iconst (pc := 1) (v := 0) hE ki_0 dX10_faultOf_1 ?_
  refine p_Md_readAt (pc := 2) hE tw_1017 dX10_faultOf_2 ?_
  refine e_aload_n (pc := 5) hE rfl 0 rfl dX10_faultOf_5 ?_
  refine e_iconst (pc := 6) (v := 0) hE ki_0 dX10_faultOf_6 ?_
  refine p_Md_readRiver (pc := 7) hE tw_1019 dX10_faultOf_7 ?_
  refine e_aload_n (pc := 10) hE rfl 0 rfl dX10_faultOf_10 ?_
  refine e_iconst (pc := 11) (v := 0) hE ki_0 dX10_faultOf_11 ?_
  refine p_Md_readMany (pc := 12) hE tw_1020 dX10_faultOf_12 ?_
  refine e_aload_n (pc := 15) hE rfl 0 rfl dX10_faultOf_15 ?_
  refine e_iconst (pc := 16) (v := 0) hE ki_0 dX10_faultOf_16 ?_
  refine p_Md_readWaitMany (pc := 17) hE tw_1021 dX10_faultOf_17 ?_
  refine e_iconst (pc := 20) (v := 0) hE ki_0 dX10_faultOf_20 ?_
  refine e_istore_n (pc := 21) (lv' := [(2, .int (0 : Int32)), (0, rv G 312), (1, .int a1)]) hE dX10_faultOf_21 rfl (by decide) rfl ?_
  obtain ⟨n, h⟩ := h
  refine e_sub hE [1, 2, 0] rfl ?_
  refine w_lp_M_faultOf_22 hE hR  h (fun M h => ?_)
  obtain ⟨n, h⟩ := h
  refine w_lp_M_faultOf_40 hE hR  h (fun M h => ?_)
  refine e_aload_n (pc := 93) hE rfl 0 rfl dX10_faultOf_93 ?_
  refine g_Md_readMany (pc := 94) hE tw_1020 dX10_faultOf_94 ?_
  refine e_if_ne (pc := 97) hE 109 dX10_faultOf_97 (by decide) (fun c0 => ?_) (fun c0 => ?_)
  · have h := h.1 c0
    refine e_bipush (pc := 109) (v := -9) hE kb_m9 dX10_faultOf_109 ?_
    exact hR dX10_faultOf_111 h
  · have h := h.2 c0
    refine e_aload_n (pc := 100) hE rfl 0 rfl dX10_faultOf_100 ?_
    refine g_Md_textSizes (pc := 101) hE tw_1007 dX10_faultOf_101 ?_
    refine e_iload_n (pc := 104) hE rfl 1 rfl dX10_faultOf_104 ?_
    refine e_iald (pc := 105) hE ar_317 h.1 dX10_faultOf_105 ?_
    have h := h.2
    refine e_goto (pc := 106) hE 111 dX10_faultOf_106 (by decide) ?_
    exact hR dX10_faultOf_111 h
set_option maxHeartbeats 4000000 in
set_option maxRecDepth 20000 in
theorem t_M_fault {l : Launch} {G : Gs} {d : Nat} {a1 : Int32} {M : Mm} {Q : Int32 → Mm → Prop}  (h : wp_M_fault a1 M Q) : CtI l G (d + 5) yX10_fault cX10_fault 2 (some .int) [rv G 312, .int a1] M Q := by
  refine CtI.mk (by decide) rfl (Nat.le_of_ble_eq_true rfl) (fun E hE hR => ?_)
  show E 0 [(0, rv G 312), (1, .int a1)] [] M
  unfold wp_M_fault at h
  refine e_iload_n (pc := 0) hE rfl 1 rfl dX10_fault_0 ?_
  refine c_M_isText (pc := 1) (d := d + 3 + 1) hE (t_M_isText (d := d + 3)  h) tw_1200 (Nat.le_of_ble_eq_true rfl) dX10_fault_1 (fun r1 M1 h => ?_)
  refine e_if_ne (pc := 4) hE 9 dX10_fault_4 (by decide) (fun c0 => ?_) (fun c0 => ?_)
  · have h := h.1 c0
    refine e_aload_n (pc := 9) hE rfl 0 rfl dX10_fault_9 ?_
    refine g_Md_textSizes (pc := 10) hE tw_1007 dX10_fault_10 ?_
    refine e_iload_n (pc := 13) hE rfl 1 rfl dX10_fault_13 ?_
    refine e_iald (pc := 14) hE ar_317 h.1 dX10_fault_14 ?_
    have h := h.2
    refine e_if_ge (pc := 15) hE 26 dX10_fault_15 (by decide) (fun c0 => ?_) (fun c0 => ?_)
    · have h := h.1 c0
      refine e_aload_n (pc := 26) hE rfl 0 rfl dX10_fault_26 ?_
      refine e_iload_n (pc := 27) hE rfl 1 rfl dX10_fault_27 ?_
      refine c_M_faultOf (pc := 28) (d := d + 4) hE (t_M_faultOf (d := d)  h) tw_1211 (Nat.le_of_ble_eq_true rfl) dX10_fault_28 (fun r28 M28 h => ?_)
      exact hR dX10_fault_31 h
    · have h := h.2 c0
      refine e_aload_n (pc := 18) hE rfl 0 rfl dX10_fault_18 ?_
      refine e_iconst (pc := 19) (v := 1) hE ki_1 dX10_fault_19 ?_
      refine c_M_meets (pc := 20) (d := d + 4 + 0) hE (t_M_meets (d := d + 4)  h) tw_1164 (Nat.le_of_ble_eq_true rfl) dX10_fault_20 (fun r20 M20 h => ?_)
      refine e_goto (pc := 23) hE 31 dX10_fault_23 (by decide) ?_
      exact hR dX10_fault_31 h
  · have h := h.2 c0
    refine e_iconst (pc := 7) (v := -1) hE ki_m1 dX10_fault_7 ?_
    exact hR dX10_fault_8 h
set_option maxHeartbeats 4000000 in
set_option maxRecDepth 20000 in
theorem w_M_delta_55 {l : Launch} {G : Gs} {d : Nat} {E : EE} {a1 : Int32} {Q : Int32 → Mm → Prop} (hE : Mach l G RX10 cX10_delta 4 (d + 5) E) (hR : RtI cX10_delta E Q)   {KB : Int32 → Mm → Prop} {K74 : Mm → Prop} {v2 : Int32} {M : Mm} (h : k_M_delta_55 a1 Q KB K74 v2 M) (hKB : ∀ (v2 : Int32)  (M : Mm), KB v2 M → E 55 [(0, rv G 312), (2, .int v2)] [] M) (hK74 : ∀  (M : Mm), K74 M → E 74 [(0, rv G 312)] [] M) : E 55 [(0, rv G 312), (2, .int v2)] [] M := by
  unfold k_M_delta_55 at h
  refine e_iload_n (pc := 55) hE rfl 1 rfl dX10_delta_55 ?_
  refine e_bipush (pc := 56) (v := 31) hE kb_31 dX10_delta_56 ?_
  refine e_icmp_ge (pc := 58) hE 74 dX10_delta_58 (by decide) (fun c0 => ?_) (fun c0 => ?_)
  · have h := h.1 c0
    refine e_sub hE [0] rfl ?_
    exact hK74 _ h
  · have h := h.2 c0
    refine e_aload_n (pc := 61) hE rfl 0 rfl dX10_delta_61 ?_
    refine g_Md_all (pc := 62) hE tw_1024 dX10_delta_62 ?_
    refine e_iload_n (pc := 65) hE rfl 1 rfl dX10_delta_65 ?_
    refine e_iconst (pc := 66) (v := 0) hE ki_0 dX10_delta_66 ?_
    refine e_iast (pc := 67) hE ar_327 h.1 dX10_delta_67 ?_
    have h := h.2
    obtain ⟨x68, ex68⟩ : ∃ y : Int32, y = v2 + (1 : Int32) := ⟨_, rfl⟩
    have h := h x68 ex68
    refine e_iinc (pc := 68) (k := 1) (v := x68) (lv' := [(2, .int x68), (0, rv G 312)]) hE dX10_delta_68 rfl (by rw [ex68, ki_1]) (by decide) rfl ?_
    refine e_goto (pc := 71) hE 55 dX10_delta_71 (by decide) ?_
    refine e_sub hE [1, 0] rfl ?_
    exact hKB _ _ h
set_option maxHeartbeats 4000000 in
set_option maxRecDepth 20000 in
theorem w_lp_M_delta_55 {l : Launch} {G : Gs} {d : Nat} {E : EE} {a1 : Int32} {Q : Int32 → Mm → Prop} (hE : Mach l G RX10 cX10_delta 4 (d + 5) E) (hR : RtI cX10_delta E Q)   {K74 : Mm → Prop} {n : Nat} {v2 : Int32} {M : Mm} (h : lp_M_delta_55 a1 Q K74 n v2 M) (hK74 : ∀  (M : Mm), K74 M → E 74 [(0, rv G 312)] [] M) : E 55 [(0, rv G 312), (2, .int v2)] [] M := by
  have key : ∀ (n : Nat) (v2 : Int32) (M : Mm), lp_M_delta_55 a1 Q K74 n v2 M → E 55 [(0, rv G 312), (2, .int v2)] [] M := by
    intro n
    induction n with
    | zero => intro v2 M h; exact h.elim
    | succ n ih => intro v2 M h; exact w_M_delta_55 hE hR  (show k_M_delta_55 a1 Q (lp_M_delta_55 a1 Q K74 n) K74 v2 M from h) ih hK74
  exact key n _ _ h
set_option maxHeartbeats 4000000 in
set_option maxRecDepth 20000 in
theorem w_M_delta_232 {l : Launch} {G : Gs} {d : Nat} {E : EE} {a1 : Int32} {Q : Int32 → Mm → Prop} (hE : Mach l G RX10 cX10_delta 4 (d + 5) E) (hR : RtI cX10_delta E Q)   {KB : Int32 → Mm → Prop} {K239 : Mm → Prop} {v2 : Int32} {s0 : Int32} {s1 : Int32} {M : Mm} (h : k_M_delta_232 a1 Q KB K239 v2 s0 s1 M) (hKB : ∀ (v2 : Int32)  (M : Mm), KB v2 M → E 76 [(0, rv G 312), (2, .int v2)] [] M) (hK239 : ∀  (M : Mm), K239 M → E 239 [(0, rv G 312)] [] M) : E 232 [(0, rv G 312), (2, .int v2)] [.int s0, .int s1, rv G 327] M := by
  unfold k_M_delta_232 at h
  refine e_iast (pc := 232) hE ar_327 h.1 dX10_delta_232 ?_
  have h := h.2
  obtain ⟨x233, ex233⟩ : ∃ y : Int32, y = v2 + (1 : Int32) := ⟨_, rfl⟩
  have h := h x233 ex233
  refine e_iinc (pc := 233) (k := 1) (v := x233) (lv' := [(2, .int x233), (0, rv G 312)]) hE dX10_delta_233 rfl (by rw [ex233, ki_1]) (by decide) rfl ?_
  refine e_goto (pc := 236) hE 76 dX10_delta_236 (by decide) ?_
  refine e_sub hE [1, 0] rfl ?_
  exact hKB _ _ h
set_option maxHeartbeats 4000000 in
set_option maxRecDepth 20000 in
theorem w_M_delta_214 {l : Launch} {G : Gs} {d : Nat} {E : EE} {a1 : Int32} {Q : Int32 → Mm → Prop} (hE : Mach l G RX10 cX10_delta 4 (d + 5) E) (hR : RtI cX10_delta E Q)   {KB : Int32 → Mm → Prop} {K239 : Mm → Prop} {v2 : Int32} {v3 : Int32} {s0 : Int32} {s1 : Int32} {M : Mm} (h : k_M_delta_214 a1 Q KB K239 v2 v3 s0 s1 M) (hKB : ∀ (v2 : Int32)  (M : Mm), KB v2 M → E 76 [(0, rv G 312), (2, .int v2)] [] M) (hK239 : ∀  (M : Mm), K239 M → E 239 [(0, rv G 312)] [] M) : E 214 [(0, rv G 312), (2, .int v2), (3, .int v3)] [.int s0, .int s1, rv G 327] M := by
  unfold k_M_delta_214 at h
  refine e_iast (pc := 214) hE ar_327 h.1 dX10_delta_214 ?_
  have h := h.2
  refine e_aload_n (pc := 215) hE rfl 0 rfl dX10_delta_215 ?_
  refine g_Md_all (pc := 216) hE tw_1024 dX10_delta_216 ?_
  refine e_bipush (pc := 219) (v := 20) hE kb_20 dX10_delta_219 ?_
  refine e_iload_n (pc := 221) hE rfl 1 rfl dX10_delta_221 ?_
  refine e_iadd (pc := 222) hE dX10_delta_222 ?_
  refine e_iload_n (pc := 223) hE rfl 2 rfl dX10_delta_223 ?_
  refine e_if_eq (pc := 224) hE 231 dX10_delta_224 (by decide) (fun c0 => ?_) (fun c0 => ?_)
  · have h := h.1 c0
    refine e_iconst (pc := 231) (v := 0) hE ki_0 dX10_delta_231 ?_
    refine e_sub hE [0, 1] rfl ?_
    exact w_M_delta_232 hE hR h hKB hK239
  · have h := h.2 c0
    refine e_iconst (pc := 227) (v := 1) hE ki_1 dX10_delta_227 ?_
    refine e_goto (pc := 228) hE 232 dX10_delta_228 (by decide) ?_
    refine e_sub hE [0, 1] rfl ?_
    exact w_M_delta_232 hE hR h hKB hK239
set_option maxHeartbeats 4000000 in
set_option maxRecDepth 20000 in
theorem w_M_delta_199 {l : Launch} {G : Gs} {d : Nat} {E : EE} {a1 : Int32} {Q : Int32 → Mm → Prop} (hE : Mach l G RX10 cX10_delta 4 (d + 5) E) (hR : RtI cX10_delta E Q)   {KB : Int32 → Mm → Prop} {K239 : Mm → Prop} {v2 : Int32} {s0 : Int32} {M : Mm} (h : k_M_delta_199 a1 Q KB K239 v2 s0 M) (hKB : ∀ (v2 : Int32)  (M : Mm), KB v2 M → E 76 [(0, rv G 312), (2, .int v2)] [] M) (hK239 : ∀  (M : Mm), K239 M → E 239 [(0, rv G 312)] [] M) : E 199 [(0, rv G 312), (2, .int v2)] [.int s0] M := by
  unfold k_M_delta_199 at h
  refine e_istore_n (pc := 199) (lv' := [(3, .int s0), (0, rv G 312), (2, .int v2)]) hE dX10_delta_199 rfl (by decide) rfl ?_
  refine e_aload_n (pc := 200) hE rfl 1 rfl dX10_delta_200 ?_
  refine g_Md_all (pc := 201) hE tw_1024 dX10_delta_201 ?_
  refine e_iload_n (pc := 204) hE rfl 2 rfl dX10_delta_204 ?_
  refine e_iload_n (pc := 205) hE rfl 0 rfl dX10_delta_205 ?_
  refine e_if_eq (pc := 206) hE 213 dX10_delta_206 (by decide) (fun c0 => ?_) (fun c0 => ?_)
  · have h := h.1 c0
    refine e_iconst (pc := 213) (v := 0) hE ki_0 dX10_delta_213 ?_
    refine e_sub hE [1, 2, 0] rfl ?_
    exact w_M_delta_214 hE hR h hKB hK239
  · have h := h.2 c0
    refine e_iconst (pc := 209) (v := 1) hE ki_1 dX10_delta_209 ?_
    refine e_goto (pc := 210) hE 214 dX10_delta_210 (by decide) ?_
    refine e_sub hE [1, 2, 0] rfl ?_
    exact w_M_delta_214 hE hR h hKB hK239
set_option maxHeartbeats 4000000 in
set_option maxRecDepth 20000 in
theorem w_M_delta_194 {l : Launch} {G : Gs} {d : Nat} {E : EE} {a1 : Int32} {Q : Int32 → Mm → Prop} (hE : Mach l G RX10 cX10_delta 4 (d + 5) E) (hR : RtI cX10_delta E Q)   {KB : Int32 → Mm → Prop} {K239 : Mm → Prop} {v2 : Int32} {M : Mm} (h : k_M_delta_194 a1 Q KB K239 v2 M) (hKB : ∀ (v2 : Int32)  (M : Mm), KB v2 M → E 76 [(0, rv G 312), (2, .int v2)] [] M) (hK239 : ∀  (M : Mm), K239 M → E 239 [(0, rv G 312)] [] M) : E 194 [(0, rv G 312), (2, .int v2)] [] M := by
  unfold k_M_delta_194 at h
  refine e_iconst (pc := 194) (v := 1) hE ki_1 dX10_delta_194 ?_
  refine e_goto (pc := 195) hE 199 dX10_delta_195 (by decide) ?_
  exact w_M_delta_199 hE hR h hKB hK239
set_option maxHeartbeats 4000000 in
set_option maxRecDepth 20000 in
theorem w_M_delta_76 {l : Launch} {G : Gs} {d : Nat} {E : EE} {a1 : Int32} {Q : Int32 → Mm → Prop} (hE : Mach l G RX10 cX10_delta 4 (d + 5) E) (hR : RtI cX10_delta E Q)   {KB : Int32 → Mm → Prop} {K239 : Mm → Prop} {v2 : Int32} {M : Mm} (h : k_M_delta_76 a1 Q KB K239 v2 M) (hKB : ∀ (v2 : Int32)  (M : Mm), KB v2 M → E 76 [(0, rv G 312), (2, .int v2)] [] M) (hK239 : ∀  (M : Mm), K239 M → E 239 [(0, rv G 312)] [] M) : E 76 [(0, rv G 312), (2, .int v2)] [] M := by
  unfold k_M_delta_76 at h
  refine e_iload_n (pc := 76) hE rfl 1 rfl dX10_delta_76 ?_
  refine e_aload_n (pc := 77) hE rfl 0 rfl dX10_delta_77 ?_
  refine g_Md_n (pc := 78) hE tw_1009 dX10_delta_78 ?_
  refine e_icmp_ge (pc := 81) hE 239 dX10_delta_81 (by decide) (fun c0 => ?_) (fun c0 => ?_)
  · have h := h.1 c0
    refine e_sub hE [0] rfl ?_
    exact hK239 _ h
  · have h := h.2 c0
    refine e_aload_n (pc := 84) hE rfl 0 rfl dX10_delta_84 ?_
    refine g_Md_kinds (pc := 85) hE tw_1011 dX10_delta_85 ?_
    refine e_iload_n (pc := 88) hE rfl 1 rfl dX10_delta_88 ?_
    refine e_aload_n (pc := 89) hE rfl 0 rfl dX10_delta_89 ?_
    refine g_Md_readArms (pc := 90) hE tw_1022 dX10_delta_90 ?_
    refine e_iconst (pc := 93) (v := 5) hE ki_5 dX10_delta_93 ?_
    refine e_iload_n (pc := 94) hE rfl 1 rfl dX10_delta_94 ?_
    refine e_imul (pc := 95) hE dX10_delta_95 ?_
    refine e_iald (pc := 96) hE ar_325 h.1 dX10_delta_96 ?_
    have h := h.2
    refine e_topi (fun x97 ex97 => ?_)
    have h := h x97 ex97
    refine e_iast (pc := 97) hE ar_319 h.1 dX10_delta_97 ?_
    have h := h.2
    refine e_aload_n (pc := 98) hE rfl 0 rfl dX10_delta_98 ?_
    refine g_Md_widths (pc := 99) hE tw_1012 dX10_delta_99 ?_
    refine e_iload_n (pc := 102) hE rfl 1 rfl dX10_delta_102 ?_
    refine e_aload_n (pc := 103) hE rfl 0 rfl dX10_delta_103 ?_
    refine g_Md_readArms (pc := 104) hE tw_1022 dX10_delta_104 ?_
    refine e_iconst (pc := 107) (v := 5) hE ki_5 dX10_delta_107 ?_
    refine e_iload_n (pc := 108) hE rfl 1 rfl dX10_delta_108 ?_
    refine e_imul (pc := 109) hE dX10_delta_109 ?_
    refine e_iconst (pc := 110) (v := 1) hE ki_1 dX10_delta_110 ?_
    refine e_iadd (pc := 111) hE dX10_delta_111 ?_
    refine e_iald (pc := 112) hE ar_325 h.1 dX10_delta_112 ?_
    have h := h.2
    refine e_topi (fun x113 ex113 => ?_)
    have h := h x113 ex113
    refine e_iast (pc := 113) hE ar_320 h.1 dX10_delta_113 ?_
    have h := h.2
    refine e_aload_n (pc := 114) hE rfl 0 rfl dX10_delta_114 ?_
    refine g_Md_needs (pc := 115) hE tw_1013 dX10_delta_115 ?_
    refine e_iload_n (pc := 118) hE rfl 1 rfl dX10_delta_118 ?_
    refine e_aload_n (pc := 119) hE rfl 0 rfl dX10_delta_119 ?_
    refine g_Md_readArms (pc := 120) hE tw_1022 dX10_delta_120 ?_
    refine e_iconst (pc := 123) (v := 5) hE ki_5 dX10_delta_123 ?_
    refine e_iload_n (pc := 124) hE rfl 1 rfl dX10_delta_124 ?_
    refine e_imul (pc := 125) hE dX10_delta_125 ?_
    refine e_iconst (pc := 126) (v := 2) hE ki_2 dX10_delta_126 ?_
    refine e_iadd (pc := 127) hE dX10_delta_127 ?_
    refine e_iald (pc := 128) hE ar_325 h.1 dX10_delta_128 ?_
    have h := h.2
    refine e_topi (fun x129 ex129 => ?_)
    have h := h x129 ex129
    refine e_iast (pc := 129) hE ar_321 h.1 dX10_delta_129 ?_
    have h := h.2
    refine e_aload_n (pc := 130) hE rfl 0 rfl dX10_delta_130 ?_
    refine g_Md_years (pc := 131) hE tw_1014 dX10_delta_131 ?_
    refine e_iload_n (pc := 134) hE rfl 1 rfl dX10_delta_134 ?_
    refine e_aload_n (pc := 135) hE rfl 0 rfl dX10_delta_135 ?_
    refine g_Md_readArms (pc := 136) hE tw_1022 dX10_delta_136 ?_
    refine e_iconst (pc := 139) (v := 5) hE ki_5 dX10_delta_139 ?_
    refine e_iload_n (pc := 140) hE rfl 1 rfl dX10_delta_140 ?_
    refine e_imul (pc := 141) hE dX10_delta_141 ?_
    refine e_iconst (pc := 142) (v := 3) hE ki_3 dX10_delta_142 ?_
    refine e_iadd (pc := 143) hE dX10_delta_143 ?_
    refine e_iald (pc := 144) hE ar_325 h.1 dX10_delta_144 ?_
    have h := h.2
    refine e_topi (fun x145 ex145 => ?_)
    have h := h x145 ex145
    refine e_iast (pc := 145) hE ar_322 h.1 dX10_delta_145 ?_
    have h := h.2
    refine e_aload_n (pc := 146) hE rfl 0 rfl dX10_delta_146 ?_
    refine g_Md_days (pc := 147) hE tw_1015 dX10_delta_147 ?_
    refine e_iload_n (pc := 150) hE rfl 1 rfl dX10_delta_150 ?_
    refine e_aload_n (pc := 151) hE rfl 0 rfl dX10_delta_151 ?_
    refine g_Md_readArms (pc := 152) hE tw_1022 dX10_delta_152 ?_
    refine e_iconst (pc := 155) (v := 5) hE ki_5 dX10_delta_155 ?_
    refine e_iload_n (pc := 156) hE rfl 1 rfl dX10_delta_156 ?_
    refine e_imul (pc := 157) hE dX10_delta_157 ?_
    refine e_iconst (pc := 158) (v := 4) hE ki_4 dX10_delta_158 ?_
    refine e_iadd (pc := 159) hE dX10_delta_159 ?_
    refine e_iald (pc := 160) hE ar_325 h.1 dX10_delta_160 ?_
    have h := h.2
    refine e_topi (fun x161 ex161 => ?_)
    have h := h x161 ex161
    refine e_iast (pc := 161) hE ar_323 h.1 dX10_delta_161 ?_
    have h := h.2
    refine e_aload_n (pc := 162) hE rfl 0 rfl dX10_delta_162 ?_
    refine g_Md_waits (pc := 163) hE tw_1016 dX10_delta_163 ?_
    refine e_iload_n (pc := 166) hE rfl 1 rfl dX10_delta_166 ?_
    refine e_aload_n (pc := 167) hE rfl 0 rfl dX10_delta_167 ?_
    refine g_Md_readWaits (pc := 168) hE tw_1023 dX10_delta_168 ?_
    refine e_iload_n (pc := 171) hE rfl 1 rfl dX10_delta_171 ?_
    refine e_iald (pc := 172) hE ar_326 h.1 dX10_delta_172 ?_
    have h := h.2
    refine e_topi (fun x173 ex173 => ?_)
    have h := h x173 ex173
    refine e_iast (pc := 173) hE ar_324 h.1 dX10_delta_173 ?_
    have h := h.2
    refine e_aload_n (pc := 174) hE rfl 0 rfl dX10_delta_174 ?_
    refine g_Md_kinds (pc := 175) hE tw_1011 dX10_delta_175 ?_
    refine e_iload_n (pc := 178) hE rfl 1 rfl dX10_delta_178 ?_
    refine e_iald (pc := 179) hE ar_319 h.1 dX10_delta_179 ?_
    have h := h.2
    refine e_iconst (pc := 180) (v := 3) hE ki_3 dX10_delta_180 ?_
    refine e_icmp_eq (pc := 181) hE 194 dX10_delta_181 (by decide) (fun c0 => ?_) (fun c0 => ?_)
    · have h := h.1 c0
      exact w_M_delta_194 hE hR h hKB hK239
    · have h := h.2 c0
      refine e_aload_n (pc := 184) hE rfl 0 rfl dX10_delta_184 ?_
      refine g_Md_kinds (pc := 185) hE tw_1011 dX10_delta_185 ?_
      refine e_iload_n (pc := 188) hE rfl 1 rfl dX10_delta_188 ?_
      refine e_iald (pc := 189) hE ar_319 h.1 dX10_delta_189 ?_
      have h := h.2
      refine e_iconst (pc := 190) (v := 5) hE ki_5 dX10_delta_190 ?_
      refine e_icmp_ne (pc := 191) hE 198 dX10_delta_191 (by decide) (fun c0 => ?_) (fun c0 => ?_)
      · have h := h.1 c0
        refine e_iconst (pc := 198) (v := 0) hE ki_0 dX10_delta_198 ?_
        exact w_M_delta_199 hE hR h hKB hK239
      · have h := h.2 c0
        exact w_M_delta_194 hE hR h hKB hK239
set_option maxHeartbeats 4000000 in
set_option maxRecDepth 20000 in
theorem w_lp_M_delta_76 {l : Launch} {G : Gs} {d : Nat} {E : EE} {a1 : Int32} {Q : Int32 → Mm → Prop} (hE : Mach l G RX10 cX10_delta 4 (d + 5) E) (hR : RtI cX10_delta E Q)   {K239 : Mm → Prop} {n : Nat} {v2 : Int32} {M : Mm} (h : lp_M_delta_76 a1 Q K239 n v2 M) (hK239 : ∀  (M : Mm), K239 M → E 239 [(0, rv G 312)] [] M) : E 76 [(0, rv G 312), (2, .int v2)] [] M := by
  have key : ∀ (n : Nat) (v2 : Int32) (M : Mm), lp_M_delta_76 a1 Q K239 n v2 M → E 76 [(0, rv G 312), (2, .int v2)] [] M := by
    intro n
    induction n with
    | zero => intro v2 M h; exact h.elim
    | succ n ih => intro v2 M h; exact w_M_delta_76 hE hR  (show k_M_delta_76 a1 Q (lp_M_delta_76 a1 Q K239 n) K239 v2 M from h) ih hK239
  exact key n _ _ h
set_option maxHeartbeats 4000000 in
set_option maxRecDepth 20000 in
theorem w_M_delta_246 {l : Launch} {G : Gs} {d : Nat} {E : EE} {a1 : Int32} {Q : Int32 → Mm → Prop} (hE : Mach l G RX10 cX10_delta 4 (d + 5) E) (hR : RtI cX10_delta E Q)   {KB : Int32 → Mm → Prop} {v2 : Int32} {M : Mm} (h : k_M_delta_246 a1 Q KB v2 M) (hKB : ∀ (v2 : Int32)  (M : Mm), KB v2 M → E 246 [(0, rv G 312), (2, .int v2)] [] M) : E 246 [(0, rv G 312), (2, .int v2)] [] M := by
  unfold k_M_delta_246 at h
  refine e_iload_n (pc := 246) hE rfl 1 rfl dX10_delta_246 ?_
  refine e_iconst (pc := 247) (v := 3) hE ki_3 dX10_delta_247 ?_
  refine e_icmp_ge (pc := 248) hE 264 dX10_delta_248 (by decide) (fun c0 => ?_) (fun c0 => ?_)
  · have h := h.1 c0
    refine e_aload_n (pc := 264) hE rfl 0 rfl dX10_delta_264 ?_
    refine g_Md_n (pc := 265) hE tw_1009 dX10_delta_265 ?_
    exact hR dX10_delta_268 h
  · have h := h.2 c0
    refine e_aload_n (pc := 251) hE rfl 0 rfl dX10_delta_251 ?_
    refine g_Md_isKept (pc := 252) hE tw_1029 dX10_delta_252 ?_
    refine e_iload_n (pc := 255) hE rfl 1 rfl dX10_delta_255 ?_
    refine e_iconst (pc := 256) (v := 0) hE ki_0 dX10_delta_256 ?_
    refine e_zast (pc := 257) hE ar_330 h.1 dX10_delta_257 ?_
    have h := h.2
    obtain ⟨x258, ex258⟩ : ∃ y : Int32, y = v2 + (1 : Int32) := ⟨_, rfl⟩
    have h := h x258 ex258
    refine e_iinc (pc := 258) (k := 1) (v := x258) (lv' := [(2, .int x258), (0, rv G 312)]) hE dX10_delta_258 rfl (by rw [ex258, ki_1]) (by decide) rfl ?_
    refine e_goto (pc := 261) hE 246 dX10_delta_261 (by decide) ?_
    refine e_sub hE [1, 0] rfl ?_
    exact hKB _ _ h
set_option maxHeartbeats 4000000 in
set_option maxRecDepth 20000 in
theorem w_lp_M_delta_246 {l : Launch} {G : Gs} {d : Nat} {E : EE} {a1 : Int32} {Q : Int32 → Mm → Prop} (hE : Mach l G RX10 cX10_delta 4 (d + 5) E) (hR : RtI cX10_delta E Q)    {n : Nat} {v2 : Int32} {M : Mm} (h : lp_M_delta_246 a1 Q n v2 M)  : E 246 [(0, rv G 312), (2, .int v2)] [] M := by
  have key : ∀ (n : Nat) (v2 : Int32) (M : Mm), lp_M_delta_246 a1 Q n v2 M → E 246 [(0, rv G 312), (2, .int v2)] [] M := by
    intro n
    induction n with
    | zero => intro v2 M h; exact h.elim
    | succ n ih => intro v2 M h; exact w_M_delta_246 hE hR  (show k_M_delta_246 a1 Q (lp_M_delta_246 a1 Q n)  v2 M from h) ih 
  exact key n _ _ h
set_option maxHeartbeats 4000000 in
set_option maxRecDepth 20000 in
theorem t_M_delta {l : Launch} {G : Gs} {d : Nat} {a1 : Int32} {M : Mm} {Q : Int32 → Mm → Prop}  (h : wp_M_delta a1 M Q) : CtI l G (d + 5) yX10_delta cX10_delta 4 (some .int) [rv G 312, .int a1] M Q := by
  refine CtI.mk (by decide) rfl (Nat.le_of_ble_eq_true rfl) (fun E hE hR => ?_)
  show E 0 [(0, rv G 312), (1, .int a1)] [] M
  unfold wp_M_delta at h
  refine e_iload_n (pc := 0) hE rfl 1 rfl dX10_delta_0 ?_
  refine c_M_isText (pc := 1) (d := d + 3 + 1) hE (t_M_isText (d := d + 3)  h) tw_1200 (Nat.le_of_ble_eq_true rfl) dX10_delta_1 (fun r1 M1 h => ?_)
  refine e_if_ne (pc := 4) hE 9 dX10_delta_4 (by decide) (fun c0 => ?_) (fun c0 => ?_)
  · have h := h.1 c0
    refine e_aload_n (pc := 9) hE rfl 0 rfl dX10_delta_9 ?_
    refine g_Md_textSizes (pc := 10) hE tw_1007 dX10_delta_10 ?_
    refine e_iload_n (pc := 13) hE rfl 1 rfl dX10_delta_13 ?_
    refine e_iald (pc := 14) hE ar_317 h.1 dX10_delta_14 ?_
    have h := h.2
    refine e_if_ge (pc := 15) hE 24 dX10_delta_15 (by decide) (fun c0 => ?_) (fun c0 => ?_)
    · have h := h.1 c0
      refine e_aload_n (pc := 24) hE rfl 0 rfl dX10_delta_24 ?_
      refine e_iload_n (pc := 25) hE rfl 1 rfl dX10_delta_25 ?_
      refine c_M_faultOf (pc := 26) (d := d + 4) hE (t_M_faultOf (d := d)  h) tw_1211 (Nat.le_of_ble_eq_true rfl) dX10_delta_26 (fun r26 M26 h => ?_)
      refine e_bipush (pc := 29) (v := -9) hE kb_m9 dX10_delta_29 ?_
      refine e_icmp_eq (pc := 31) hE 37 dX10_delta_31 (by decide) (fun c0 => ?_) (fun c0 => ?_)
      · have h := h.1 c0
        refine e_aload_n (pc := 37) hE rfl 0 rfl dX10_delta_37 ?_
        refine e_aload_n (pc := 38) hE rfl 0 rfl dX10_delta_38 ?_
        refine g_Md_readMany (pc := 39) hE tw_1020 dX10_delta_39 ?_
        refine e_topi (fun x42 ex42 => ?_)
        have h := h x42 ex42
        refine p_Md_n (pc := 42) hE tw_1009 dX10_delta_42 ?_
        refine e_aload_n (pc := 45) hE rfl 0 rfl dX10_delta_45 ?_
        refine e_aload_n (pc := 46) hE rfl 0 rfl dX10_delta_46 ?_
        refine g_Md_readRiver (pc := 47) hE tw_1019 dX10_delta_47 ?_
        refine e_topi (fun x50 ex50 => ?_)
        have h := h x50 ex50
        refine p_Md_river (pc := 50) hE tw_1010 dX10_delta_50 ?_
        refine e_iconst (pc := 53) (v := 0) hE ki_0 dX10_delta_53 ?_
        refine e_istore_n (pc := 54) (lv' := [(2, .int (0 : Int32)), (0, rv G 312), (1, .int a1)]) hE dX10_delta_54 rfl (by decide) rfl ?_
        obtain ⟨n, h⟩ := h
        refine e_sub hE [1, 0] rfl ?_
        refine w_lp_M_delta_55 hE hR  h (fun M h => ?_)
        refine e_iconst (pc := 74) (v := 0) hE ki_0 dX10_delta_74 ?_
        refine e_istore_n (pc := 75) (lv' := [(2, .int (0 : Int32)), (0, rv G 312)]) hE dX10_delta_75 rfl (by decide) rfl ?_
        obtain ⟨n, h⟩ := h
        refine e_sub hE [1, 0] rfl ?_
        refine w_lp_M_delta_76 hE hR  h (fun M h => ?_)
        refine e_aload_n (pc := 239) hE rfl 0 rfl dX10_delta_239 ?_
        refine e_iconst (pc := 240) (v := 0) hE ki_0 dX10_delta_240 ?_
        refine p_Md_deedMany (pc := 241) hE tw_1027 dX10_delta_241 ?_
        refine e_iconst (pc := 244) (v := 0) hE ki_0 dX10_delta_244 ?_
        refine e_istore_n (pc := 245) (lv' := [(2, .int (0 : Int32)), (0, rv G 312)]) hE dX10_delta_245 rfl (by decide) rfl ?_
        obtain ⟨n, h⟩ := h
        refine e_sub hE [1, 0] rfl ?_
        refine w_lp_M_delta_246 hE hR  h 
      · have h := h.2 c0
        refine e_bipush (pc := 34) (v := -4) hE kb_m4 dX10_delta_34 ?_
        exact hR dX10_delta_36 h
    · have h := h.2 c0
      refine e_aload_n (pc := 18) hE rfl 0 rfl dX10_delta_18 ?_
      refine e_iconst (pc := 19) (v := 1) hE ki_1 dX10_delta_19 ?_
      refine c_M_meets (pc := 20) (d := d + 4 + 0) hE (t_M_meets (d := d + 4)  h) tw_1164 (Nat.le_of_ble_eq_true rfl) dX10_delta_20 (fun r20 M20 h => ?_)
      exact hR dX10_delta_23 h
  · have h := h.2 c0
    refine e_iconst (pc := 7) (v := -1) hE ki_m1 dX10_delta_7 ?_
    exact hR dX10_delta_8 h
set_option maxHeartbeats 4000000 in
set_option maxRecDepth 20000 in
theorem t_M_isArm {l : Launch} {G : Gs} {d : Nat} {a1 : Int32} {M : Mm} {Q : Int32 → Mm → Prop}  (h : wp_M_isArm a1 M Q) : CtI l G (d + 1) yX10_isArm cX10_isArm 2 (some .boolean) [rv G 312, .int a1] M Q := by
  refine CtI.mkZ (by decide) rfl (Nat.le_of_ble_eq_true rfl) (fun E hE hR => ?_)
  show E 0 [(0, rv G 312), (1, .int a1)] [] M
  unfold wp_M_isArm at h
  refine e_iload_n (pc := 0) hE rfl 1 rfl dX10_isArm_0 ?_
  refine e_iconst (pc := 1) (v := 0) hE ki_0 dX10_isArm_1 ?_
  refine e_aload_n (pc := 2) hE rfl 0 rfl dX10_isArm_2 ?_
  refine g_Md_n (pc := 3) hE tw_1009 dX10_isArm_3 ?_
  refine e_iconst (pc := 6) (v := 1) hE ki_1 dX10_isArm_6 ?_
  refine e_isub (pc := 7) hE dX10_isArm_7 ?_
  refine c_M_in (pc := 8) (d := d + 0) hE (t_M_in (d := d)  h) tw_1142 (Nat.le_of_ble_eq_true rfl) dX10_isArm_8 (fun r8 M8 h => ?_)
  exact hR dX10_isArm_11 h.1 h.2
set_option maxHeartbeats 4000000 in
set_option maxRecDepth 20000 in
theorem t_M_isDead {l : Launch} {G : Gs} {d : Nat} {a1 : Int32} {a2 : Int32} {M : Mm} {Q : Int32 → Mm → Prop}  (h : wp_M_isDead a1 a2 M Q) : CtI l G (d + 0) yX10_isDead cX10_isDead 3 (some .boolean) [rv G 312, .int a1, .int a2] M Q := by
  refine CtI.mkZ (by decide) rfl (Nat.le_of_ble_eq_true rfl) (fun E hE hR => ?_)
  show E 0 [(0, rv G 312), (1, .int a1), (2, .int a2)] [] M
  unfold wp_M_isDead at h
  refine e_aload_n (pc := 0) hE rfl 0 rfl dX10_isDead_0 ?_
  refine g_Md_all (pc := 1) hE tw_1024 dX10_isDead_1 ?_
  refine e_bipush (pc := 4) (v := 31) hE kb_31 dX10_isDead_4 ?_
  refine e_iload_n (pc := 6) hE rfl 1 rfl dX10_isDead_6 ?_
  refine e_imul (pc := 7) hE dX10_isDead_7 ?_
  refine e_bipush (pc := 8) (v := 25) hE kb_25 dX10_isDead_8 ?_
  refine e_iadd (pc := 10) hE dX10_isDead_10 ?_
  refine e_iload_n (pc := 11) hE rfl 2 rfl dX10_isDead_11 ?_
  refine e_iadd (pc := 12) hE dX10_isDead_12 ?_
  refine e_iald (pc := 13) hE ar_327 h.1 dX10_isDead_13 ?_
  have h := h.2
  refine e_iconst (pc := 14) (v := 1) hE ki_1 dX10_isDead_14 ?_
  refine e_icmp_ne (pc := 15) hE 22 dX10_isDead_15 (by decide) (fun c0 => ?_) (fun c0 => ?_)
  · have h := h.1 c0
    refine e_iconst (pc := 22) (v := 0) hE ki_0 dX10_isDead_22 ?_
    exact hR dX10_isDead_23 (Or.inl rfl) h
  · have h := h.2 c0
    refine e_iconst (pc := 18) (v := 1) hE ki_1 dX10_isDead_18 ?_
    refine e_goto (pc := 19) hE 23 dX10_isDead_19 (by decide) ?_
    exact hR dX10_isDead_23 (Or.inr rfl) h
set_option maxHeartbeats 4000000 in
set_option maxRecDepth 20000 in
theorem t_M_isOpen {l : Launch} {G : Gs} {d : Nat} {a1 : Int32} {a2 : Int32} {M : Mm} {Q : Int32 → Mm → Prop}  (h : wp_M_isOpen a1 a2 M Q) : CtI l G (d + 0) yX10_isOpen cX10_isOpen 3 (some .boolean) [rv G 312, .int a1, .int a2] M Q := by
  refine CtI.mkZ (by decide) rfl (Nat.le_of_ble_eq_true rfl) (fun E hE hR => ?_)
  show E 0 [(0, rv G 312), (1, .int a1), (2, .int a2)] [] M
  unfold wp_M_isOpen at h
  refine e_aload_n (pc := 0) hE rfl 0 rfl dX10_isOpen_0 ?_
  refine g_Md_all (pc := 1) hE tw_1024 dX10_isOpen_1 ?_
  refine e_bipush (pc := 4) (v := 31) hE kb_31 dX10_isOpen_4 ?_
  refine e_iload_n (pc := 6) hE rfl 1 rfl dX10_isOpen_6 ?_
  refine e_imul (pc := 7) hE dX10_isOpen_7 ?_
  refine e_iload_n (pc := 8) hE rfl 2 rfl dX10_isOpen_8 ?_
  refine e_iadd (pc := 9) hE dX10_isOpen_9 ?_
  refine e_iald (pc := 10) hE ar_327 h.1 dX10_isOpen_10 ?_
  have h := h.2
  refine e_iconst (pc := 11) (v := 1) hE ki_1 dX10_isOpen_11 ?_
  refine e_icmp_ne (pc := 12) hE 19 dX10_isOpen_12 (by decide) (fun c0 => ?_) (fun c0 => ?_)
  · have h := h.1 c0
    refine e_iconst (pc := 19) (v := 0) hE ki_0 dX10_isOpen_19 ?_
    exact hR dX10_isOpen_20 (Or.inl rfl) h
  · have h := h.2 c0
    refine e_iconst (pc := 15) (v := 1) hE ki_1 dX10_isOpen_15 ?_
    refine e_goto (pc := 16) hE 20 dX10_isOpen_16 (by decide) ?_
    exact hR dX10_isOpen_20 (Or.inr rfl) h
set_option maxHeartbeats 4000000 in
set_option maxRecDepth 20000 in
theorem t_M_isBarge {l : Launch} {G : Gs} {d : Nat} {a1 : Int32} {a2 : Int32} {M : Mm} {Q : Int32 → Mm → Prop}  (h : wp_M_isBarge a1 a2 M Q) : CtI l G (d + 0) yX10_isBarge cX10_isBarge 3 (some .boolean) [rv G 312, .int a1, .int a2] M Q := by
  refine CtI.mkZ (by decide) rfl (Nat.le_of_ble_eq_true rfl) (fun E hE hR => ?_)
  show E 0 [(0, rv G 312), (1, .int a1), (2, .int a2)] [] M
  unfold wp_M_isBarge at h
  refine e_aload_n (pc := 0) hE rfl 0 rfl dX10_isBarge_0 ?_
  refine g_Md_all (pc := 1) hE tw_1024 dX10_isBarge_1 ?_
  refine e_bipush (pc := 4) (v := 31) hE kb_31 dX10_isBarge_4 ?_
  refine e_iload_n (pc := 6) hE rfl 1 rfl dX10_isBarge_6 ?_
  refine e_imul (pc := 7) hE dX10_isBarge_7 ?_
  refine e_bipush (pc := 8) (v := 20) hE kb_20 dX10_isBarge_8 ?_
  refine e_iadd (pc := 10) hE dX10_isBarge_10 ?_
  refine e_iload_n (pc := 11) hE rfl 2 rfl dX10_isBarge_11 ?_
  refine e_iadd (pc := 12) hE dX10_isBarge_12 ?_
  refine e_iald (pc := 13) hE ar_327 h.1 dX10_isBarge_13 ?_
  have h := h.2
  refine e_iconst (pc := 14) (v := 1) hE ki_1 dX10_isBarge_14 ?_
  refine e_icmp_ne (pc := 15) hE 22 dX10_isBarge_15 (by decide) (fun c0 => ?_) (fun c0 => ?_)
  · have h := h.1 c0
    refine e_iconst (pc := 22) (v := 0) hE ki_0 dX10_isBarge_22 ?_
    exact hR dX10_isBarge_23 (Or.inl rfl) h
  · have h := h.2 c0
    refine e_iconst (pc := 18) (v := 1) hE ki_1 dX10_isBarge_18 ?_
    refine e_goto (pc := 19) hE 23 dX10_isBarge_19 (by decide) ?_
    exact hR dX10_isBarge_23 (Or.inr rfl) h
set_option maxHeartbeats 4000000 in
set_option maxRecDepth 20000 in
theorem w_M_openSet_29 {l : Launch} {G : Gs} {d : Nat} {E : EE} {a1 : Int32} {Q : Int32 → Mm → Prop} (hE : Mach l G RX10 cX10_openSet 4 (d + 1) E) (hR : RtI cX10_openSet E Q)   {KB : Int32 → Int32 → Mm → Prop} {v3 : Int32} {s0 : Int32} {s1 : Int32} {M : Mm} (h : k_M_openSet_29 a1 Q KB v3 s0 s1 M) (hKB : ∀ (v2 : Int32) (v3 : Int32)  (M : Mm), KB v2 v3 M → E 4 [(0, rv G 312), (1, .int a1), (2, .int v2), (3, .int v3)] [] M) : E 29 [(0, rv G 312), (1, .int a1), (3, .int v3)] [.int s0, .int s1] M := by
  unfold k_M_openSet_29 at h
  refine e_ior (pc := 29) hE dX10_openSet_29 ?_
  refine e_topi (fun x30 ex30 => ?_)
  have h := h x30 ex30
  refine e_istore_n (pc := 30) (lv' := [(2, .int x30), (0, rv G 312), (1, .int a1), (3, .int v3)]) hE dX10_openSet_30 rfl (by decide) rfl ?_
  obtain ⟨x31, ex31⟩ : ∃ y : Int32, y = v3 + (1 : Int32) := ⟨_, rfl⟩
  have h := h x31 ex31
  refine e_iinc (pc := 31) (k := 3) (v := x31) (lv' := [(3, .int x31), (2, .int x30), (0, rv G 312), (1, .int a1)]) hE dX10_openSet_31 rfl (by rw [ex31, ki_1]) (by decide) rfl ?_
  refine e_goto (pc := 34) hE 4 dX10_openSet_34 (by decide) ?_
  refine e_sub hE [2, 3, 1, 0] rfl ?_
  exact hKB _ _ _ h
set_option maxHeartbeats 4000000 in
set_option maxRecDepth 20000 in
theorem w_M_openSet_4 {l : Launch} {G : Gs} {d : Nat} {E : EE} {a1 : Int32} {Q : Int32 → Mm → Prop} (hE : Mach l G RX10 cX10_openSet 4 (d + 1) E) (hR : RtI cX10_openSet E Q)   {KB : Int32 → Int32 → Mm → Prop} {v2 : Int32} {v3 : Int32} {M : Mm} (h : k_M_openSet_4 a1 Q KB v2 v3 M) (hKB : ∀ (v2 : Int32) (v3 : Int32)  (M : Mm), KB v2 v3 M → E 4 [(0, rv G 312), (1, .int a1), (2, .int v2), (3, .int v3)] [] M) : E 4 [(0, rv G 312), (1, .int a1), (2, .int v2), (3, .int v3)] [] M := by
  unfold k_M_openSet_4 at h
  refine e_iload_n (pc := 4) hE rfl 3 rfl dX10_openSet_4 ?_
  refine e_aload_n (pc := 5) hE rfl 0 rfl dX10_openSet_5 ?_
  refine g_Md_n (pc := 6) hE tw_1009 dX10_openSet_6 ?_
  refine e_icmp_ge (pc := 9) hE 37 dX10_openSet_9 (by decide) (fun c0 => ?_) (fun c0 => ?_)
  · have h := h.1 c0
    refine e_iload_n (pc := 37) hE rfl 2 rfl dX10_openSet_37 ?_
    exact hR dX10_openSet_38 h
  · have h := h.2 c0
    refine e_iload_n (pc := 12) hE rfl 2 rfl dX10_openSet_12 ?_
    refine e_aload_n (pc := 13) hE rfl 0 rfl dX10_openSet_13 ?_
    refine e_iload_n (pc := 14) hE rfl 1 rfl dX10_openSet_14 ?_
    refine e_iload_n (pc := 15) hE rfl 3 rfl dX10_openSet_15 ?_
    refine c_M_isOpen (pc := 16) (d := d + 0) hE (t_M_isOpen (d := d)  h) tw_1269 (Nat.le_of_ble_eq_true rfl) dX10_openSet_16 (fun r16 M16 h => ?_)
    refine e_if_eq (pc := 19) hE 28 dX10_openSet_19 (by decide) (fun c0 => ?_) (fun c0 => ?_)
    · have h := h.1 c0
      refine e_iconst (pc := 28) (v := 0) hE ki_0 dX10_openSet_28 ?_
      refine e_sub hE [0, 1, 3] rfl ?_
      exact w_M_openSet_29 hE hR h hKB
    · have h := h.2 c0
      refine e_iconst (pc := 22) (v := 1) hE ki_1 dX10_openSet_22 ?_
      refine e_iload_n (pc := 23) hE rfl 3 rfl dX10_openSet_23 ?_
      refine e_ishl (pc := 24) hE dX10_openSet_24 ?_
      refine e_goto (pc := 25) hE 29 dX10_openSet_25 (by decide) ?_
      refine e_sub hE [0, 1, 3] rfl ?_
      exact w_M_openSet_29 hE hR h hKB
set_option maxHeartbeats 4000000 in
set_option maxRecDepth 20000 in
theorem w_lp_M_openSet_4 {l : Launch} {G : Gs} {d : Nat} {E : EE} {a1 : Int32} {Q : Int32 → Mm → Prop} (hE : Mach l G RX10 cX10_openSet 4 (d + 1) E) (hR : RtI cX10_openSet E Q)    {n : Nat} {v2 : Int32} {v3 : Int32} {M : Mm} (h : lp_M_openSet_4 a1 Q n v2 v3 M)  : E 4 [(0, rv G 312), (1, .int a1), (2, .int v2), (3, .int v3)] [] M := by
  have key : ∀ (n : Nat) (v2 : Int32) (v3 : Int32) (M : Mm), lp_M_openSet_4 a1 Q n v2 v3 M → E 4 [(0, rv G 312), (1, .int a1), (2, .int v2), (3, .int v3)] [] M := by
    intro n
    induction n with
    | zero => intro v2 v3 M h; exact h.elim
    | succ n ih => intro v2 v3 M h; exact w_M_openSet_4 hE hR  (show k_M_openSet_4 a1 Q (lp_M_openSet_4 a1 Q n)  v2 v3 M from h) ih 
  exact key n _ _ _ h
set_option maxHeartbeats 4000000 in
set_option maxRecDepth 20000 in
theorem t_M_openSet {l : Launch} {G : Gs} {d : Nat} {a1 : Int32} {M : Mm} {Q : Int32 → Mm → Prop}  (h : wp_M_openSet a1 M Q) : CtI l G (d + 1) yX10_openSet cX10_openSet 4 (some .int) [rv G 312, .int a1] M Q := by
  refine CtI.mk (by decide) rfl (Nat.le_of_ble_eq_true rfl) (fun E hE hR => ?_)
  show E 0 [(0, rv G 312), (1, .int a1)] [] M
  unfold wp_M_openSet at h
  refine e_iconst (pc := 0) (v := 0) hE ki_0 dX10_openSet_0 ?_
  refine e_istore_n (pc := 1) (lv' := [(2, .int (0 : Int32)), (0, rv G 312), (1, .int a1)]) hE dX10_openSet_1 rfl (by decide) rfl ?_
  refine e_iconst (pc := 2) (v := 0) hE ki_0 dX10_openSet_2 ?_
  refine e_istore_n (pc := 3) (lv' := [(3, .int (0 : Int32)), (2, .int (0 : Int32)), (0, rv G 312), (1, .int a1)]) hE dX10_openSet_3 rfl (by decide) rfl ?_
  obtain ⟨n, h⟩ := h
  refine e_sub hE [2, 3, 1, 0] rfl ?_
  refine w_lp_M_openSet_4 hE hR  h 
set_option maxHeartbeats 4000000 in
set_option maxRecDepth 20000 in
theorem w_M_mayBe_55 {l : Launch} {G : Gs} {d : Nat} {E : EE} {a1 : Int32} {a2 : Int32} {Q : Int32 → Mm → Prop} (hE : Mach l G RX10 cX10_mayBe 3 (d + 2) E) (hR : RtZ cX10_mayBe E Q)     {M : Mm} (h : k_M_mayBe_55 a1 a2 Q M)  : E 55 [(0, rv G 312), (1, .int a1), (2, .int a2)] [] M := by
  unfold k_M_mayBe_55 at h
  refine e_aload_n (pc := 55) hE rfl 0 rfl dX10_mayBe_55 ?_
  refine g_Md_waits (pc := 56) hE tw_1016 dX10_mayBe_56 ?_
  refine e_iload_n (pc := 59) hE rfl 2 rfl dX10_mayBe_59 ?_
  refine e_iald (pc := 60) hE ar_324 h.1 dX10_mayBe_60 ?_
  have h := h.2
  refine e_aload_n (pc := 61) hE rfl 0 rfl dX10_mayBe_61 ?_
  refine e_iload_n (pc := 62) hE rfl 1 rfl dX10_mayBe_62 ?_
  refine c_M_openSet (pc := 63) (d := d + 1) hE (t_M_openSet (d := d)  h) tw_1277 (Nat.le_of_ble_eq_true rfl) dX10_mayBe_63 (fun r63 M63 h => ?_)
  refine e_iconst (pc := 66) (v := -1) hE ki_m1 dX10_mayBe_66 ?_
  refine e_ixor (pc := 67) hE dX10_mayBe_67 ?_
  refine e_iand (pc := 68) hE dX10_mayBe_68 ?_
  refine e_if_ne (pc := 69) hE 76 dX10_mayBe_69 (by decide) (fun c0 => ?_) (fun c0 => ?_)
  · have h := h.1 c0
    refine e_iconst (pc := 76) (v := 0) hE ki_0 dX10_mayBe_76 ?_
    exact hR dX10_mayBe_77 (Or.inl rfl) h
  · have h := h.2 c0
    refine e_iconst (pc := 72) (v := 1) hE ki_1 dX10_mayBe_72 ?_
    refine e_goto (pc := 73) hE 77 dX10_mayBe_73 (by decide) ?_
    exact hR dX10_mayBe_77 (Or.inr rfl) h
set_option maxHeartbeats 4000000 in
set_option maxRecDepth 20000 in
theorem t_M_mayBe {l : Launch} {G : Gs} {d : Nat} {a1 : Int32} {a2 : Int32} {M : Mm} {Q : Int32 → Mm → Prop}  (h : wp_M_mayBe a1 a2 M Q) : CtI l G (d + 2) yX10_mayBe cX10_mayBe 3 (some .boolean) [rv G 312, .int a1, .int a2] M Q := by
  refine CtI.mkZ (by decide) rfl (Nat.le_of_ble_eq_true rfl) (fun E hE hR => ?_)
  show E 0 [(0, rv G 312), (1, .int a1), (2, .int a2)] [] M
  unfold wp_M_mayBe at h
  refine e_aload_n (pc := 0) hE rfl 0 rfl dX10_mayBe_0 ?_
  refine g_Md_all (pc := 1) hE tw_1024 dX10_mayBe_1 ?_
  refine e_bipush (pc := 4) (v := 31) hE kb_31 dX10_mayBe_4 ?_
  refine e_iload_n (pc := 6) hE rfl 1 rfl dX10_mayBe_6 ?_
  refine e_imul (pc := 7) hE dX10_mayBe_7 ?_
  refine e_bipush (pc := 8) (v := 30) hE kb_30 dX10_mayBe_8 ?_
  refine e_iadd (pc := 10) hE dX10_mayBe_10 ?_
  refine e_iald (pc := 11) hE ar_327 h.1 dX10_mayBe_11 ?_
  have h := h.2
  refine e_aload_n (pc := 12) hE rfl 0 rfl dX10_mayBe_12 ?_
  refine g_Md_years (pc := 13) hE tw_1014 dX10_mayBe_13 ?_
  refine e_iload_n (pc := 16) hE rfl 2 rfl dX10_mayBe_16 ?_
  refine e_iald (pc := 17) hE ar_322 h.1 dX10_mayBe_17 ?_
  have h := h.2
  refine e_irem (pc := 18) hE h.1 dX10_mayBe_18 ?_
  have h := h.2
  refine e_aload_n (pc := 19) hE rfl 0 rfl dX10_mayBe_19 ?_
  refine g_Md_days (pc := 20) hE tw_1015 dX10_mayBe_20 ?_
  refine e_iload_n (pc := 23) hE rfl 2 rfl dX10_mayBe_23 ?_
  refine e_iald (pc := 24) hE ar_323 h.1 dX10_mayBe_24 ?_
  have h := h.2
  refine e_icmp_ne (pc := 25) hE 76 dX10_mayBe_25 (by decide) (fun c0 => ?_) (fun c0 => ?_)
  · have h := h.1 c0
    refine e_iconst (pc := 76) (v := 0) hE ki_0 dX10_mayBe_76 ?_
    exact hR dX10_mayBe_77 (Or.inl rfl) h
  · have h := h.2 c0
    refine e_aload_n (pc := 28) hE rfl 0 rfl dX10_mayBe_28 ?_
    refine e_iload_n (pc := 29) hE rfl 1 rfl dX10_mayBe_29 ?_
    refine e_iload_n (pc := 30) hE rfl 2 rfl dX10_mayBe_30 ?_
    refine c_M_isDead (pc := 31) (d := d + 1 + 0) hE (t_M_isDead (d := d + 1)  h) tw_1265 (Nat.le_of_ble_eq_true rfl) dX10_mayBe_31 (fun r31 M31 h => ?_)
    refine e_if_ne (pc := 34) hE 76 dX10_mayBe_34 (by decide) (fun c0 => ?_) (fun c0 => ?_)
    · have h := h.1 c0
      refine e_iconst (pc := 76) (v := 0) hE ki_0 dX10_mayBe_76 ?_
      exact hR dX10_mayBe_77 (Or.inl rfl) h
    · have h := h.2 c0
      refine e_aload_n (pc := 37) hE rfl 0 rfl dX10_mayBe_37 ?_
      refine e_iload_n (pc := 38) hE rfl 1 rfl dX10_mayBe_38 ?_
      refine e_iload_n (pc := 39) hE rfl 2 rfl dX10_mayBe_39 ?_
      refine c_M_isOpen (pc := 40) (d := d + 1 + 0) hE (t_M_isOpen (d := d + 1)  h) tw_1269 (Nat.le_of_ble_eq_true rfl) dX10_mayBe_40 (fun r40 M40 h => ?_)
      refine e_if_eq (pc := 43) hE 55 dX10_mayBe_43 (by decide) (fun c0 => ?_) (fun c0 => ?_)
      · have h := h.1 c0
        exact w_M_mayBe_55 hE hR h
      · have h := h.2 c0
        refine e_aload_n (pc := 46) hE rfl 0 rfl dX10_mayBe_46 ?_
        refine e_iload_n (pc := 47) hE rfl 1 rfl dX10_mayBe_47 ?_
        refine e_iload_n (pc := 48) hE rfl 2 rfl dX10_mayBe_48 ?_
        refine c_M_isBarge (pc := 49) (d := d + 1 + 0) hE (t_M_isBarge (d := d + 1)  h) tw_1273 (Nat.le_of_ble_eq_true rfl) dX10_mayBe_49 (fun r49 M49 h => ?_)
        refine e_if_ne (pc := 52) hE 76 dX10_mayBe_52 (by decide) (fun c0 => ?_) (fun c0 => ?_)
        · have h := h.1 c0
          refine e_iconst (pc := 76) (v := 0) hE ki_0 dX10_mayBe_76 ?_
          exact hR dX10_mayBe_77 (Or.inl rfl) h
        · have h := h.2 c0
          exact w_M_mayBe_55 hE hR h
set_option maxHeartbeats 4000000 in
set_option maxRecDepth 20000 in
theorem t_M_armTells {l : Launch} {G : Gs} {d : Nat} {a1 : Int32} {a2 : Int32} {M : Mm} {Q : Int32 → Mm → Prop}  (h : wp_M_armTells a1 a2 M Q) : CtI l G (d + 3) yX10_armTells cX10_armTells 3 (some .int) [rv G 312, .int a1, .int a2] M Q := by
  refine CtI.mk (by decide) rfl (Nat.le_of_ble_eq_true rfl) (fun E hE hR => ?_)
  show E 0 [(0, rv G 312), (1, .int a1), (2, .int a2)] [] M
  unfold wp_M_armTells at h
  refine e_iload_n (pc := 0) hE rfl 2 rfl dX10_armTells_0 ?_
  by_cases c0 : a2 = 0
  · have h := h.1 c0
    refine e_swIn (pc := 1) hE 44 dX10_armTells_1 (by rw [c0]; decide) (by rw [c0]; decide) (by rw [c0]; rfl) (by decide) ?_
    refine e_aload_n (pc := 44) hE rfl 0 rfl dX10_armTells_44 ?_
    refine g_Md_kinds (pc := 45) hE tw_1011 dX10_armTells_45 ?_
    refine e_iload_n (pc := 48) hE rfl 1 rfl dX10_armTells_48 ?_
    refine e_iald (pc := 49) hE ar_319 h.1 dX10_armTells_49 ?_
    have h := h.2
    exact hR dX10_armTells_50 h
  have h := h.2
  by_cases c1 : a2 = 1
  · have h := h.1 c1
    refine e_swIn (pc := 1) hE 51 dX10_armTells_1 (by rw [c1]; decide) (by rw [c1]; decide) (by rw [c1]; rfl) (by decide) ?_
    refine e_aload_n (pc := 51) hE rfl 0 rfl dX10_armTells_51 ?_
    refine g_Md_widths (pc := 52) hE tw_1012 dX10_armTells_52 ?_
    refine e_iload_n (pc := 55) hE rfl 1 rfl dX10_armTells_55 ?_
    refine e_iald (pc := 56) hE ar_320 h.1 dX10_armTells_56 ?_
    have h := h.2
    exact hR dX10_armTells_57 h
  have h := h.2
  by_cases c2 : a2 = 2
  · have h := h.1 c2
    refine e_swIn (pc := 1) hE 58 dX10_armTells_1 (by rw [c2]; decide) (by rw [c2]; decide) (by rw [c2]; rfl) (by decide) ?_
    refine e_aload_n (pc := 58) hE rfl 0 rfl dX10_armTells_58 ?_
    refine g_Md_needs (pc := 59) hE tw_1013 dX10_armTells_59 ?_
    refine e_iload_n (pc := 62) hE rfl 1 rfl dX10_armTells_62 ?_
    refine e_iald (pc := 63) hE ar_321 h.1 dX10_armTells_63 ?_
    have h := h.2
    exact hR dX10_armTells_64 h
  have h := h.2
  by_cases c3 : a2 = 3
  · have h := h.1 c3
    refine e_swIn (pc := 1) hE 65 dX10_armTells_1 (by rw [c3]; decide) (by rw [c3]; decide) (by rw [c3]; rfl) (by decide) ?_
    refine e_aload_n (pc := 65) hE rfl 0 rfl dX10_armTells_65 ?_
    refine g_Md_all (pc := 66) hE tw_1024 dX10_armTells_66 ?_
    refine e_iload_n (pc := 69) hE rfl 1 rfl dX10_armTells_69 ?_
    refine e_iald (pc := 70) hE ar_327 h.1 dX10_armTells_70 ?_
    have h := h.2
    exact hR dX10_armTells_71 h
  have h := h.2
  by_cases c4 : a2 = 4
  · have h := h.1 c4
    refine e_swIn (pc := 1) hE 72 dX10_armTells_1 (by rw [c4]; decide) (by rw [c4]; decide) (by rw [c4]; rfl) (by decide) ?_
    refine e_aload_n (pc := 72) hE rfl 0 rfl dX10_armTells_72 ?_
    refine g_Md_all (pc := 73) hE tw_1024 dX10_armTells_73 ?_
    refine e_iconst (pc := 76) (v := 5) hE ki_5 dX10_armTells_76 ?_
    refine e_iload_n (pc := 77) hE rfl 1 rfl dX10_armTells_77 ?_
    refine e_iadd (pc := 78) hE dX10_armTells_78 ?_
    refine e_iald (pc := 79) hE ar_327 h.1 dX10_armTells_79 ?_
    have h := h.2
    exact hR dX10_armTells_80 h
  have h := h.2
  by_cases c5 : a2 = 5
  · have h := h.1 c5
    refine e_swIn (pc := 1) hE 81 dX10_armTells_1 (by rw [c5]; decide) (by rw [c5]; decide) (by rw [c5]; rfl) (by decide) ?_
    refine e_aload_n (pc := 81) hE rfl 0 rfl dX10_armTells_81 ?_
    refine g_Md_all (pc := 82) hE tw_1024 dX10_armTells_82 ?_
    refine e_bipush (pc := 85) (v := 10) hE kb_10 dX10_armTells_85 ?_
    refine e_iload_n (pc := 87) hE rfl 1 rfl dX10_armTells_87 ?_
    refine e_iadd (pc := 88) hE dX10_armTells_88 ?_
    refine e_iald (pc := 89) hE ar_327 h.1 dX10_armTells_89 ?_
    have h := h.2
    exact hR dX10_armTells_90 h
  have h := h.2
  by_cases c6 : a2 = 6
  · have h := h.1 c6
    refine e_swIn (pc := 1) hE 91 dX10_armTells_1 (by rw [c6]; decide) (by rw [c6]; decide) (by rw [c6]; rfl) (by decide) ?_
    refine e_aload_n (pc := 91) hE rfl 0 rfl dX10_armTells_91 ?_
    refine g_Md_all (pc := 92) hE tw_1024 dX10_armTells_92 ?_
    refine e_bipush (pc := 95) (v := 15) hE kb_15 dX10_armTells_95 ?_
    refine e_iload_n (pc := 97) hE rfl 1 rfl dX10_armTells_97 ?_
    refine e_iadd (pc := 98) hE dX10_armTells_98 ?_
    refine e_iald (pc := 99) hE ar_327 h.1 dX10_armTells_99 ?_
    have h := h.2
    exact hR dX10_armTells_100 h
  have h := h.2
  have cd : a2.toInt < 0 ∨ 6 < a2.toInt := by
    have q0 := sw_ne (n := 0) (by decide) c0
    have q1 := sw_ne (n := 1) (by decide) c1
    have q2 := sw_ne (n := 2) (by decide) c2
    have q3 := sw_ne (n := 3) (by decide) c3
    have q4 := sw_ne (n := 4) (by decide) c4
    have q5 := sw_ne (n := 5) (by decide) c5
    have q6 := sw_ne (n := 6) (by decide) c6
    omega
  have h := h cd
  refine e_swOut (pc := 1) hE 101 dX10_armTells_1 cd (by decide) ?_
  refine e_aload_n (pc := 101) hE rfl 0 rfl dX10_armTells_101 ?_
  refine e_iconst (pc := 102) (v := 0) hE ki_0 dX10_armTells_102 ?_
  refine e_iload_n (pc := 103) hE rfl 1 rfl dX10_armTells_103 ?_
  refine c_M_mayBe (pc := 104) (d := d + 2) hE (t_M_mayBe (d := d)  h) tw_1261 (Nat.le_of_ble_eq_true rfl) dX10_armTells_104 (fun r104 M104 h => ?_)
  refine e_if_eq (pc := 107) hE 114 dX10_armTells_107 (by decide) (fun c0 => ?_) (fun c0 => ?_)
  · have h := h.1 c0
    refine e_iconst (pc := 114) (v := 0) hE ki_0 dX10_armTells_114 ?_
    exact hR dX10_armTells_115 h
  · have h := h.2 c0
    refine e_iconst (pc := 110) (v := 1) hE ki_1 dX10_armTells_110 ?_
    refine e_goto (pc := 111) hE 115 dX10_armTells_111 (by decide) ?_
    exact hR dX10_armTells_115 h
set_option maxHeartbeats 4000000 in
set_option maxRecDepth 20000 in
theorem t_M_arm {l : Launch} {G : Gs} {d : Nat} {a1 : Int32} {a2 : Int32} {M : Mm} {Q : Int32 → Mm → Prop}  (h : wp_M_arm a1 a2 M Q) : CtI l G (d + 4) yX10_arm cX10_arm 3 (some .int) [rv G 312, .int a1, .int a2] M Q := by
  refine CtI.mk (by decide) rfl (Nat.le_of_ble_eq_true rfl) (fun E hE hR => ?_)
  show E 0 [(0, rv G 312), (1, .int a1), (2, .int a2)] [] M
  unfold wp_M_arm at h
  refine e_aload_n (pc := 0) hE rfl 0 rfl dX10_arm_0 ?_
  refine e_iload_n (pc := 1) hE rfl 1 rfl dX10_arm_1 ?_
  refine c_M_isArm (pc := 2) (d := d + 2 + 1) hE (t_M_isArm (d := d + 2)  h) tw_1253 (Nat.le_of_ble_eq_true rfl) dX10_arm_2 (fun r2 M2 h => ?_)
  refine e_if_eq (pc := 5) hE 32 dX10_arm_5 (by decide) (fun c0 => ?_) (fun c0 => ?_)
  · have h := h.1 c0
    refine e_iconst (pc := 32) (v := -1) hE ki_m1 dX10_arm_32 ?_
    exact hR dX10_arm_33 h
  · have h := h.2 c0
    refine e_iload_n (pc := 8) hE rfl 2 rfl dX10_arm_8 ?_
    refine e_iconst (pc := 9) (v := 0) hE ki_0 dX10_arm_9 ?_
    refine e_bipush (pc := 10) (v := 7) hE kb_7 dX10_arm_10 ?_
    refine c_M_in (pc := 12) (d := d + 3 + 0) hE (t_M_in (d := d + 3)  h) tw_1142 (Nat.le_of_ble_eq_true rfl) dX10_arm_12 (fun r12 M12 h => ?_)
    refine e_if_eq (pc := 15) hE 32 dX10_arm_15 (by decide) (fun c0 => ?_) (fun c0 => ?_)
    · have h := h.1 c0
      refine e_iconst (pc := 32) (v := -1) hE ki_m1 dX10_arm_32 ?_
      exact hR dX10_arm_33 h
    · have h := h.2 c0
      refine e_aload_n (pc := 18) hE rfl 0 rfl dX10_arm_18 ?_
      refine e_aload_n (pc := 19) hE rfl 0 rfl dX10_arm_19 ?_
      refine e_iload_n (pc := 20) hE rfl 1 rfl dX10_arm_20 ?_
      refine e_iload_n (pc := 21) hE rfl 2 rfl dX10_arm_21 ?_
      refine c_M_armTells (pc := 22) (d := d + 3) hE (t_M_armTells (d := d)  h) tw_1257 (Nat.le_of_ble_eq_true rfl) dX10_arm_22 (fun r22 M22 h => ?_)
      refine e_iconst (pc := 25) (v := 1) hE ki_1 dX10_arm_25 ?_
      refine c_M_tells (pc := 26) (d := d + 3 + 0) hE (t_M_tells (d := d + 3)  h) tw_1176 (Nat.le_of_ble_eq_true rfl) dX10_arm_26 (fun r26 M26 h => ?_)
      refine e_goto (pc := 29) hE 33 dX10_arm_29 (by decide) ?_
      exact hR dX10_arm_33 h
set_option maxHeartbeats 4000000 in
set_option maxRecDepth 20000 in
theorem t_M_greater {l : Launch} {G : Gs} {d : Nat} {a0 : Int32} {a1 : Int32} {M : Mm} {Q : Int32 → Mm → Prop}  (h : wp_M_greater a0 a1 M Q) : CtI l G (d + 0) yX10_greater cX10_greater 2 (some .int) [.int a0, .int a1] M Q := by
  refine CtI.mk (by decide) rfl (Nat.le_of_ble_eq_true rfl) (fun E hE hR => ?_)
  show E 0 [(0, .int a0), (1, .int a1)] [] M
  unfold wp_M_greater at h
  refine e_iload_n (pc := 0) hE rfl 0 rfl dX10_greater_0 ?_
  refine e_iload_n (pc := 1) hE rfl 1 rfl dX10_greater_1 ?_
  refine e_icmp_le (pc := 2) hE 9 dX10_greater_2 (by decide) (fun c0 => ?_) (fun c0 => ?_)
  · have h := h.1 c0
    refine e_iload_n (pc := 9) hE rfl 1 rfl dX10_greater_9 ?_
    exact hR dX10_greater_10 h
  · have h := h.2 c0
    refine e_iload_n (pc := 5) hE rfl 0 rfl dX10_greater_5 ?_
    refine e_goto (pc := 6) hE 10 dX10_greater_6 (by decide) ?_
    exact hR dX10_greater_10 h
set_option maxHeartbeats 4000000 in
set_option maxRecDepth 20000 in
theorem w_M_wideOpen_32 {l : Launch} {G : Gs} {d : Nat} {E : EE} {a1 : Int32} {Q : Int32 → Mm → Prop} (hE : Mach l G RX10 cX10_wideOpen 4 (d + 1) E) (hR : RtI cX10_wideOpen E Q)   {KB : Int32 → Int32 → Mm → Prop} {v3 : Int32} {s0 : Int32} {s1 : Int32} {M : Mm} (h : k_M_wideOpen_32 a1 Q KB v3 s0 s1 M) (hKB : ∀ (v2 : Int32) (v3 : Int32)  (M : Mm), KB v2 v3 M → E 4 [(0, rv G 312), (1, .int a1), (2, .int v2), (3, .int v3)] [] M) : E 32 [(0, rv G 312), (1, .int a1), (3, .int v3)] [.int s0, .int s1] M := by
  unfold k_M_wideOpen_32 at h
  refine e_iadd (pc := 32) hE dX10_wideOpen_32 ?_
  refine e_topi (fun x33 ex33 => ?_)
  have h := h x33 ex33
  refine e_istore_n (pc := 33) (lv' := [(2, .int x33), (0, rv G 312), (1, .int a1), (3, .int v3)]) hE dX10_wideOpen_33 rfl (by decide) rfl ?_
  obtain ⟨x34, ex34⟩ : ∃ y : Int32, y = v3 + (1 : Int32) := ⟨_, rfl⟩
  have h := h x34 ex34
  refine e_iinc (pc := 34) (k := 3) (v := x34) (lv' := [(3, .int x34), (2, .int x33), (0, rv G 312), (1, .int a1)]) hE dX10_wideOpen_34 rfl (by rw [ex34, ki_1]) (by decide) rfl ?_
  refine e_goto (pc := 37) hE 4 dX10_wideOpen_37 (by decide) ?_
  refine e_sub hE [2, 3, 1, 0] rfl ?_
  exact hKB _ _ _ h
set_option maxHeartbeats 4000000 in
set_option maxRecDepth 20000 in
theorem w_M_wideOpen_4 {l : Launch} {G : Gs} {d : Nat} {E : EE} {a1 : Int32} {Q : Int32 → Mm → Prop} (hE : Mach l G RX10 cX10_wideOpen 4 (d + 1) E) (hR : RtI cX10_wideOpen E Q)   {KB : Int32 → Int32 → Mm → Prop} {v2 : Int32} {v3 : Int32} {M : Mm} (h : k_M_wideOpen_4 a1 Q KB v2 v3 M) (hKB : ∀ (v2 : Int32) (v3 : Int32)  (M : Mm), KB v2 v3 M → E 4 [(0, rv G 312), (1, .int a1), (2, .int v2), (3, .int v3)] [] M) : E 4 [(0, rv G 312), (1, .int a1), (2, .int v2), (3, .int v3)] [] M := by
  unfold k_M_wideOpen_4 at h
  refine e_iload_n (pc := 4) hE rfl 3 rfl dX10_wideOpen_4 ?_
  refine e_aload_n (pc := 5) hE rfl 0 rfl dX10_wideOpen_5 ?_
  refine g_Md_n (pc := 6) hE tw_1009 dX10_wideOpen_6 ?_
  refine e_icmp_ge (pc := 9) hE 40 dX10_wideOpen_9 (by decide) (fun c0 => ?_) (fun c0 => ?_)
  · have h := h.1 c0
    refine e_iload_n (pc := 40) hE rfl 2 rfl dX10_wideOpen_40 ?_
    exact hR dX10_wideOpen_41 h
  · have h := h.2 c0
    refine e_iload_n (pc := 12) hE rfl 2 rfl dX10_wideOpen_12 ?_
    refine e_aload_n (pc := 13) hE rfl 0 rfl dX10_wideOpen_13 ?_
    refine e_iload_n (pc := 14) hE rfl 1 rfl dX10_wideOpen_14 ?_
    refine e_iload_n (pc := 15) hE rfl 3 rfl dX10_wideOpen_15 ?_
    refine c_M_isOpen (pc := 16) (d := d + 0) hE (t_M_isOpen (d := d)  h) tw_1269 (Nat.le_of_ble_eq_true rfl) dX10_wideOpen_16 (fun r16 M16 h => ?_)
    refine e_if_eq (pc := 19) hE 31 dX10_wideOpen_19 (by decide) (fun c0 => ?_) (fun c0 => ?_)
    · have h := h.1 c0
      refine e_iconst (pc := 31) (v := 0) hE ki_0 dX10_wideOpen_31 ?_
      refine e_sub hE [0, 1, 3] rfl ?_
      exact w_M_wideOpen_32 hE hR h hKB
    · have h := h.2 c0
      refine e_aload_n (pc := 22) hE rfl 0 rfl dX10_wideOpen_22 ?_
      refine g_Md_widths (pc := 23) hE tw_1012 dX10_wideOpen_23 ?_
      refine e_iload_n (pc := 26) hE rfl 3 rfl dX10_wideOpen_26 ?_
      refine e_iald (pc := 27) hE ar_320 h.1 dX10_wideOpen_27 ?_
      have h := h.2
      refine e_goto (pc := 28) hE 32 dX10_wideOpen_28 (by decide) ?_
      refine e_sub hE [0, 1, 3] rfl ?_
      exact w_M_wideOpen_32 hE hR h hKB
set_option maxHeartbeats 4000000 in
set_option maxRecDepth 20000 in
theorem w_lp_M_wideOpen_4 {l : Launch} {G : Gs} {d : Nat} {E : EE} {a1 : Int32} {Q : Int32 → Mm → Prop} (hE : Mach l G RX10 cX10_wideOpen 4 (d + 1) E) (hR : RtI cX10_wideOpen E Q)    {n : Nat} {v2 : Int32} {v3 : Int32} {M : Mm} (h : lp_M_wideOpen_4 a1 Q n v2 v3 M)  : E 4 [(0, rv G 312), (1, .int a1), (2, .int v2), (3, .int v3)] [] M := by
  have key : ∀ (n : Nat) (v2 : Int32) (v3 : Int32) (M : Mm), lp_M_wideOpen_4 a1 Q n v2 v3 M → E 4 [(0, rv G 312), (1, .int a1), (2, .int v2), (3, .int v3)] [] M := by
    intro n
    induction n with
    | zero => intro v2 v3 M h; exact h.elim
    | succ n ih => intro v2 v3 M h; exact w_M_wideOpen_4 hE hR  (show k_M_wideOpen_4 a1 Q (lp_M_wideOpen_4 a1 Q n)  v2 v3 M from h) ih 
  exact key n _ _ _ h
set_option maxHeartbeats 4000000 in
set_option maxRecDepth 20000 in
theorem t_M_wideOpen {l : Launch} {G : Gs} {d : Nat} {a1 : Int32} {M : Mm} {Q : Int32 → Mm → Prop}  (h : wp_M_wideOpen a1 M Q) : CtI l G (d + 1) yX10_wideOpen cX10_wideOpen 4 (some .int) [rv G 312, .int a1] M Q := by
  refine CtI.mk (by decide) rfl (Nat.le_of_ble_eq_true rfl) (fun E hE hR => ?_)
  show E 0 [(0, rv G 312), (1, .int a1)] [] M
  unfold wp_M_wideOpen at h
  refine e_iconst (pc := 0) (v := 0) hE ki_0 dX10_wideOpen_0 ?_
  refine e_istore_n (pc := 1) (lv' := [(2, .int (0 : Int32)), (0, rv G 312), (1, .int a1)]) hE dX10_wideOpen_1 rfl (by decide) rfl ?_
  refine e_iconst (pc := 2) (v := 0) hE ki_0 dX10_wideOpen_2 ?_
  refine e_istore_n (pc := 3) (lv' := [(3, .int (0 : Int32)), (2, .int (0 : Int32)), (0, rv G 312), (1, .int a1)]) hE dX10_wideOpen_3 rfl (by decide) rfl ?_
  obtain ⟨n, h⟩ := h
  refine e_sub hE [2, 3, 1, 0] rfl ?_
  refine w_lp_M_wideOpen_4 hE hR  h 
set_option maxHeartbeats 4000000 in
set_option maxRecDepth 20000 in
theorem w_M_waterOf_108 {l : Launch} {G : Gs} {d : Nat} {E : EE} {a1 : Int32} {a2 : Int32} {Q : Int32 → Mm → Prop} (hE : Mach l G RX10 cX10_waterOf 7 (d + 2) E) (hR : RtI cX10_waterOf E Q)   {KB : Int32 → Int32 → Int32 → Int32 → Mm → Prop} {K117 : Int32 → Int32 → Int32 → Mm → Prop} {v3 : Int32} {v4 : Int32} {v6 : Int32} {s0 : Int32} {s1 : Int32} {M : Mm} (h : k_M_waterOf_108 a1 a2 Q KB K117 v3 v4 v6 s0 s1 M) (hKB : ∀ (v3 : Int32) (v4 : Int32) (v5 : Int32) (v6 : Int32)  (M : Mm), KB v3 v4 v5 v6 M → E 43 [(0, rv G 312), (1, .int a1), (2, .int a2), (3, .int v3), (4, .int v4), (5, .int v5), (6, .int v6)] [] M) (hK117 : ∀ (v3 : Int32) (v4 : Int32) (v5 : Int32)  (M : Mm), K117 v3 v4 v5 M → E 117 [(0, rv G 312), (2, .int a2), (3, .int v3), (4, .int v4), (5, .int v5)] [] M) : E 108 [(0, rv G 312), (1, .int a1), (2, .int a2), (3, .int v3), (4, .int v4), (6, .int v6)] [.int s0, .int s1] M := by
  unfold k_M_waterOf_108 at h
  refine e_iadd (pc := 108) hE dX10_waterOf_108 ?_
  refine e_topi (fun x109 ex109 => ?_)
  have h := h x109 ex109
  refine e_istore (pc := 109) (lv' := [(5, .int x109), (0, rv G 312), (1, .int a1), (2, .int a2), (3, .int v3), (4, .int v4), (6, .int v6)]) hE dX10_waterOf_109 (by decide) rfl ?_
  obtain ⟨x111, ex111⟩ : ∃ y : Int32, y = v6 + (1 : Int32) := ⟨_, rfl⟩
  have h := h x111 ex111
  refine e_iinc (pc := 111) (k := 6) (v := x111) (lv' := [(6, .int x111), (5, .int x109), (0, rv G 312), (1, .int a1), (2, .int a2), (3, .int v3), (4, .int v4)]) hE dX10_waterOf_111 rfl (by rw [ex111, ki_1]) (by decide) rfl ?_
  refine e_goto (pc := 114) hE 43 dX10_waterOf_114 (by decide) ?_
  refine e_sub hE [2, 3, 4, 5, 6, 1, 0] rfl ?_
  exact hKB _ _ _ _ _ h
set_option maxHeartbeats 4000000 in
set_option maxRecDepth 20000 in
theorem w_M_waterOf_107 {l : Launch} {G : Gs} {d : Nat} {E : EE} {a1 : Int32} {a2 : Int32} {Q : Int32 → Mm → Prop} (hE : Mach l G RX10 cX10_waterOf 7 (d + 2) E) (hR : RtI cX10_waterOf E Q)   {KB : Int32 → Int32 → Int32 → Int32 → Mm → Prop} {K117 : Int32 → Int32 → Int32 → Mm → Prop} {v3 : Int32} {v4 : Int32} {v6 : Int32} {s0 : Int32} {M : Mm} (h : k_M_waterOf_107 a1 a2 Q KB K117 v3 v4 v6 s0 M) (hKB : ∀ (v3 : Int32) (v4 : Int32) (v5 : Int32) (v6 : Int32)  (M : Mm), KB v3 v4 v5 v6 M → E 43 [(0, rv G 312), (1, .int a1), (2, .int a2), (3, .int v3), (4, .int v4), (5, .int v5), (6, .int v6)] [] M) (hK117 : ∀ (v3 : Int32) (v4 : Int32) (v5 : Int32)  (M : Mm), K117 v3 v4 v5 M → E 117 [(0, rv G 312), (2, .int a2), (3, .int v3), (4, .int v4), (5, .int v5)] [] M) : E 107 [(0, rv G 312), (1, .int a1), (2, .int a2), (3, .int v3), (4, .int v4), (6, .int v6)] [.int s0] M := by
  unfold k_M_waterOf_107 at h
  refine e_iconst (pc := 107) (v := 0) hE ki_0 dX10_waterOf_107 ?_
  exact w_M_waterOf_108 hE hR h hKB hK117
set_option maxHeartbeats 4000000 in
set_option maxRecDepth 20000 in
theorem w_M_waterOf_82 {l : Launch} {G : Gs} {d : Nat} {E : EE} {a1 : Int32} {a2 : Int32} {Q : Int32 → Mm → Prop} (hE : Mach l G RX10 cX10_waterOf 7 (d + 2) E) (hR : RtI cX10_waterOf E Q)   {KB : Int32 → Int32 → Int32 → Int32 → Mm → Prop} {K117 : Int32 → Int32 → Int32 → Mm → Prop} {v3 : Int32} {v5 : Int32} {v6 : Int32} {s0 : Int32} {s1 : Int32} {M : Mm} (h : k_M_waterOf_82 a1 a2 Q KB K117 v3 v5 v6 s0 s1 M) (hKB : ∀ (v3 : Int32) (v4 : Int32) (v5 : Int32) (v6 : Int32)  (M : Mm), KB v3 v4 v5 v6 M → E 43 [(0, rv G 312), (1, .int a1), (2, .int a2), (3, .int v3), (4, .int v4), (5, .int v5), (6, .int v6)] [] M) (hK117 : ∀ (v3 : Int32) (v4 : Int32) (v5 : Int32)  (M : Mm), K117 v3 v4 v5 M → E 117 [(0, rv G 312), (2, .int a2), (3, .int v3), (4, .int v4), (5, .int v5)] [] M) : E 82 [(0, rv G 312), (1, .int a1), (2, .int a2), (3, .int v3), (5, .int v5), (6, .int v6)] [.int s0, .int s1] M := by
  unfold k_M_waterOf_82 at h
  refine e_isub (pc := 82) hE dX10_waterOf_82 ?_
  refine e_topi (fun x83 ex83 => ?_)
  have h := h x83 ex83
  refine e_istore (pc := 83) (lv' := [(4, .int x83), (0, rv G 312), (1, .int a1), (2, .int a2), (3, .int v3), (5, .int v5), (6, .int v6)]) hE dX10_waterOf_83 (by decide) rfl ?_
  refine e_iload (pc := 85) hE 5 rfl dX10_waterOf_85 ?_
  refine e_iload (pc := 87) hE 6 rfl dX10_waterOf_87 ?_
  refine e_iload_n (pc := 89) hE rfl 3 rfl dX10_waterOf_89 ?_
  refine e_icmp_ge (pc := 90) hE 107 dX10_waterOf_90 (by decide) (fun c0 => ?_) (fun c0 => ?_)
  · have h := h.1 c0
    refine e_sub hE [1, 2, 3, 4, 0, 6] rfl ?_
    exact w_M_waterOf_107 hE hR h hKB hK117
  · have h := h.2 c0
    refine e_aload_n (pc := 93) hE rfl 1 rfl dX10_waterOf_93 ?_
    refine e_iload_n (pc := 94) hE rfl 2 rfl dX10_waterOf_94 ?_
    refine e_iload (pc := 95) hE 6 rfl dX10_waterOf_95 ?_
    refine c_M_isOpen (pc := 97) (d := d + 1 + 0) hE (t_M_isOpen (d := d + 1)  h) tw_1269 (Nat.le_of_ble_eq_true rfl) dX10_waterOf_97 (fun r97 M97 h => ?_)
    refine e_if_eq (pc := 100) hE 107 dX10_waterOf_100 (by decide) (fun c0 => ?_) (fun c0 => ?_)
    · have h := h.1 c0
      refine e_sub hE [1, 2, 3, 4, 0, 6] rfl ?_
      exact w_M_waterOf_107 hE hR h hKB hK117
    · have h := h.2 c0
      refine e_iconst (pc := 103) (v := 1) hE ki_1 dX10_waterOf_103 ?_
      refine e_goto (pc := 104) hE 108 dX10_waterOf_104 (by decide) ?_
      refine e_sub hE [1, 2, 3, 4, 0, 6] rfl ?_
      exact w_M_waterOf_108 hE hR h hKB hK117
set_option maxHeartbeats 4000000 in
set_option maxRecDepth 20000 in
theorem w_M_waterOf_43 {l : Launch} {G : Gs} {d : Nat} {E : EE} {a1 : Int32} {a2 : Int32} {Q : Int32 → Mm → Prop} (hE : Mach l G RX10 cX10_waterOf 7 (d + 2) E) (hR : RtI cX10_waterOf E Q)   {KB : Int32 → Int32 → Int32 → Int32 → Mm → Prop} {K117 : Int32 → Int32 → Int32 → Mm → Prop} {v3 : Int32} {v4 : Int32} {v5 : Int32} {v6 : Int32} {M : Mm} (h : k_M_waterOf_43 a1 a2 Q KB K117 v3 v4 v5 v6 M) (hKB : ∀ (v3 : Int32) (v4 : Int32) (v5 : Int32) (v6 : Int32)  (M : Mm), KB v3 v4 v5 v6 M → E 43 [(0, rv G 312), (1, .int a1), (2, .int a2), (3, .int v3), (4, .int v4), (5, .int v5), (6, .int v6)] [] M) (hK117 : ∀ (v3 : Int32) (v4 : Int32) (v5 : Int32)  (M : Mm), K117 v3 v4 v5 M → E 117 [(0, rv G 312), (2, .int a2), (3, .int v3), (4, .int v4), (5, .int v5)] [] M) : E 43 [(0, rv G 312), (1, .int a1), (2, .int a2), (3, .int v3), (4, .int v4), (5, .int v5), (6, .int v6)] [] M := by
  unfold k_M_waterOf_43 at h
  refine e_iload (pc := 43) hE 6 rfl dX10_waterOf_43 ?_
  refine e_aload_n (pc := 45) hE rfl 0 rfl dX10_waterOf_45 ?_
  refine g_Md_n (pc := 46) hE tw_1009 dX10_waterOf_46 ?_
  refine e_icmp_ge (pc := 49) hE 117 dX10_waterOf_49 (by decide) (fun c0 => ?_) (fun c0 => ?_)
  · have h := h.1 c0
    refine e_sub hE [0, 2, 3, 4, 5] rfl ?_
    exact hK117 _ _ _ _ h
  · have h := h.2 c0
    refine e_iload (pc := 52) hE 4 rfl dX10_waterOf_52 ?_
    refine e_aload_n (pc := 54) hE rfl 0 rfl dX10_waterOf_54 ?_
    refine e_iload_n (pc := 55) hE rfl 1 rfl dX10_waterOf_55 ?_
    refine e_iload (pc := 56) hE 6 rfl dX10_waterOf_56 ?_
    refine c_M_isOpen (pc := 58) (d := d + 1 + 0) hE (t_M_isOpen (d := d + 1)  h) tw_1269 (Nat.le_of_ble_eq_true rfl) dX10_waterOf_58 (fun r58 M58 h => ?_)
    refine e_if_eq (pc := 61) hE 81 dX10_waterOf_61 (by decide) (fun c0 => ?_) (fun c0 => ?_)
    · have h := h.1 c0
      refine e_iconst (pc := 81) (v := 0) hE ki_0 dX10_waterOf_81 ?_
      refine e_sub hE [0, 1, 2, 3, 5, 6] rfl ?_
      exact w_M_waterOf_82 hE hR h hKB hK117
    · have h := h.2 c0
      refine e_aload_n (pc := 64) hE rfl 0 rfl dX10_waterOf_64 ?_
      refine g_Md_river (pc := 65) hE tw_1010 dX10_waterOf_65 ?_
      refine e_aload_n (pc := 68) hE rfl 0 rfl dX10_waterOf_68 ?_
      refine g_Md_widths (pc := 69) hE tw_1012 dX10_waterOf_69 ?_
      refine e_iload (pc := 72) hE 6 rfl dX10_waterOf_72 ?_
      refine e_iald (pc := 74) hE ar_320 h.1 dX10_waterOf_74 ?_
      have h := h.2
      refine e_imul (pc := 75) hE dX10_waterOf_75 ?_
      refine e_iload_n (pc := 76) hE rfl 3 rfl dX10_waterOf_76 ?_
      refine e_idiv (pc := 77) hE h.1 dX10_waterOf_77 ?_
      have h := h.2
      refine e_goto (pc := 78) hE 82 dX10_waterOf_78 (by decide) ?_
      refine e_sub hE [0, 1, 2, 3, 5, 6] rfl ?_
      exact w_M_waterOf_82 hE hR h hKB hK117
set_option maxHeartbeats 4000000 in
set_option maxRecDepth 20000 in
theorem w_lp_M_waterOf_43 {l : Launch} {G : Gs} {d : Nat} {E : EE} {a1 : Int32} {a2 : Int32} {Q : Int32 → Mm → Prop} (hE : Mach l G RX10 cX10_waterOf 7 (d + 2) E) (hR : RtI cX10_waterOf E Q)   {K117 : Int32 → Int32 → Int32 → Mm → Prop} {n : Nat} {v3 : Int32} {v4 : Int32} {v5 : Int32} {v6 : Int32} {M : Mm} (h : lp_M_waterOf_43 a1 a2 Q K117 n v3 v4 v5 v6 M) (hK117 : ∀ (v3 : Int32) (v4 : Int32) (v5 : Int32)  (M : Mm), K117 v3 v4 v5 M → E 117 [(0, rv G 312), (2, .int a2), (3, .int v3), (4, .int v4), (5, .int v5)] [] M) : E 43 [(0, rv G 312), (1, .int a1), (2, .int a2), (3, .int v3), (4, .int v4), (5, .int v5), (6, .int v6)] [] M := by
  have key : ∀ (n : Nat) (v3 : Int32) (v4 : Int32) (v5 : Int32) (v6 : Int32) (M : Mm), lp_M_waterOf_43 a1 a2 Q K117 n v3 v4 v5 v6 M → E 43 [(0, rv G 312), (1, .int a1), (2, .int a2), (3, .int v3), (4, .int v4), (5, .int v5), (6, .int v6)] [] M := by
    intro n
    induction n with
    | zero => intro v3 v4 v5 v6 M h; exact h.elim
    | succ n ih => intro v3 v4 v5 v6 M h; exact w_M_waterOf_43 hE hR  (show k_M_waterOf_43 a1 a2 Q (lp_M_waterOf_43 a1 a2 Q K117 n) K117 v3 v4 v5 v6 M from h) ih hK117
  exact key n _ _ _ _ _ h
set_option maxHeartbeats 4000000 in
set_option maxRecDepth 20000 in
theorem t_M_waterOf {l : Launch} {G : Gs} {d : Nat} {a1 : Int32} {a2 : Int32} {M : Mm} {Q : Int32 → Mm → Prop}  (h : wp_M_waterOf a1 a2 M Q) : CtI l G (d + 2) yX10_waterOf cX10_waterOf 7 (some .int) [rv G 312, .int a1, .int a2] M Q := by
  refine CtI.mk (by decide) rfl (Nat.le_of_ble_eq_true rfl) (fun E hE hR => ?_)
  show E 0 [(0, rv G 312), (1, .int a1), (2, .int a2)] [] M
  unfold wp_M_waterOf at h
  refine e_aload_n (pc := 0) hE rfl 0 rfl dX10_waterOf_0 ?_
  refine e_iload_n (pc := 1) hE rfl 1 rfl dX10_waterOf_1 ?_
  refine e_iload_n (pc := 2) hE rfl 2 rfl dX10_waterOf_2 ?_
  refine c_M_isOpen (pc := 3) (d := d + 1 + 0) hE (t_M_isOpen (d := d + 1)  h) tw_1269 (Nat.le_of_ble_eq_true rfl) dX10_waterOf_3 (fun r3 M3 h => ?_)
  refine e_if_ne (pc := 6) hE 25 dX10_waterOf_6 (by decide) (fun c0 => ?_) (fun c0 => ?_)
  · have h := h.1 c0
    refine e_aload_n (pc := 25) hE rfl 0 rfl dX10_waterOf_25 ?_
    refine e_iload_n (pc := 26) hE rfl 1 rfl dX10_waterOf_26 ?_
    refine c_M_wideOpen (pc := 27) (d := d + 1) hE (t_M_wideOpen (d := d)  h) tw_1292 (Nat.le_of_ble_eq_true rfl) dX10_waterOf_27 (fun r27 M27 h => ?_)
    refine e_istore_n (pc := 30) (lv' := [(3, .int r27), (0, rv G 312), (1, .int a1), (2, .int a2)]) hE dX10_waterOf_30 rfl (by decide) rfl ?_
    refine e_aload_n (pc := 31) hE rfl 1 rfl dX10_waterOf_31 ?_
    refine g_Md_river (pc := 32) hE tw_1010 dX10_waterOf_32 ?_
    refine e_topi (fun x35 ex35 => ?_)
    have h := h x35 ex35
    refine e_istore (pc := 35) (lv' := [(4, .int x35), (3, .int r27), (0, rv G 312), (1, .int a1), (2, .int a2)]) hE dX10_waterOf_35 (by decide) rfl ?_
    refine e_iconst (pc := 37) (v := 0) hE ki_0 dX10_waterOf_37 ?_
    refine e_istore (pc := 38) (lv' := [(5, .int (0 : Int32)), (4, .int x35), (3, .int r27), (0, rv G 312), (1, .int a1), (2, .int a2)]) hE dX10_waterOf_38 (by decide) rfl ?_
    refine e_iconst (pc := 40) (v := 0) hE ki_0 dX10_waterOf_40 ?_
    refine e_istore (pc := 41) (lv' := [(6, .int (0 : Int32)), (5, .int (0 : Int32)), (4, .int x35), (3, .int r27), (0, rv G 312), (1, .int a1), (2, .int a2)]) hE dX10_waterOf_41 (by decide) rfl ?_
    obtain ⟨n, h⟩ := h
    refine e_sub hE [4, 5, 6, 3, 2, 1, 0] rfl ?_
    refine w_lp_M_waterOf_43 hE hR  h (fun v3 v4 v5 M h => ?_)
    refine e_aload_n (pc := 117) hE rfl 0 rfl dX10_waterOf_117 ?_
    refine g_Md_river (pc := 118) hE tw_1010 dX10_waterOf_118 ?_
    refine e_aload_n (pc := 121) hE rfl 0 rfl dX10_waterOf_121 ?_
    refine g_Md_widths (pc := 122) hE tw_1012 dX10_waterOf_122 ?_
    refine e_iload_n (pc := 125) hE rfl 1 rfl dX10_waterOf_125 ?_
    refine e_iald (pc := 126) hE ar_320 h.1 dX10_waterOf_126 ?_
    have h := h.2
    refine e_imul (pc := 127) hE dX10_waterOf_127 ?_
    refine e_iload_n (pc := 128) hE rfl 2 rfl dX10_waterOf_128 ?_
    refine e_idiv (pc := 129) hE h.1 dX10_waterOf_129 ?_
    have h := h.2
    refine e_iload (pc := 130) hE 4 rfl dX10_waterOf_130 ?_
    refine e_iload (pc := 132) hE 3 rfl dX10_waterOf_132 ?_
    refine e_icmp_ge (pc := 134) hE 141 dX10_waterOf_134 (by decide) (fun c0 => ?_) (fun c0 => ?_)
    · have h := h.1 c0
      refine e_iconst (pc := 141) (v := 0) hE ki_0 dX10_waterOf_141 ?_
      refine e_iadd (pc := 142) hE dX10_waterOf_142 ?_
      exact hR dX10_waterOf_143 h
    · have h := h.2 c0
      refine e_iconst (pc := 137) (v := 1) hE ki_1 dX10_waterOf_137 ?_
      refine e_goto (pc := 138) hE 142 dX10_waterOf_138 (by decide) ?_
      refine e_iadd (pc := 142) hE dX10_waterOf_142 ?_
      exact hR dX10_waterOf_143 h
  · have h := h.2 c0
    refine e_aload_n (pc := 9) hE rfl 0 rfl dX10_waterOf_9 ?_
    refine g_Md_kinds (pc := 10) hE tw_1011 dX10_waterOf_10 ?_
    refine e_iload_n (pc := 13) hE rfl 2 rfl dX10_waterOf_13 ?_
    refine e_iald (pc := 14) hE ar_319 h.1 dX10_waterOf_14 ?_
    have h := h.2
    refine e_iconst (pc := 15) (v := 4) hE ki_4 dX10_waterOf_15 ?_
    refine e_icmp_ne (pc := 16) hE 23 dX10_waterOf_16 (by decide) (fun c0 => ?_) (fun c0 => ?_)
    · have h := h.1 c0
      refine e_iconst (pc := 23) (v := 0) hE ki_0 dX10_waterOf_23 ?_
      exact hR dX10_waterOf_24 h
    · have h := h.2 c0
      refine e_iconst (pc := 19) (v := 1) hE ki_1 dX10_waterOf_19 ?_
      refine e_goto (pc := 20) hE 24 dX10_waterOf_20 (by decide) ?_
      exact hR dX10_waterOf_24 h
set_option maxHeartbeats 4000000 in
set_option maxRecDepth 20000 in
theorem w_M_married_47 {l : Launch} {G : Gs} {d : Nat} {E : EE} {a1 : Int32} {a2 : Int32} {Q : Int32 → Mm → Prop} (hE : Mach l G RX10 cX10_married 4 (d + 1) E) (hR : RtI cX10_married E Q)    {s0 : Int32} {M : Mm} (h : k_M_married_47 a1 a2 Q s0 M)  : E 47 [(2, .int a2)] [.int s0] M := by
  unfold k_M_married_47 at h
  refine e_istore_n (pc := 47) (lv' := [(3, .int s0), (2, .int a2)]) hE dX10_married_47 rfl (by decide) rfl ?_
  refine e_iload_n (pc := 48) hE rfl 0 rfl dX10_married_48 ?_
  refine e_if_eq (pc := 49) hE 58 dX10_married_49 (by decide) (fun c0 => ?_) (fun c0 => ?_)
  · have h := h.1 c0
    refine e_bipush (pc := 58) (v := -9) hE kb_m9 dX10_married_58 ?_
    exact hR dX10_married_60 h
  · have h := h.2 c0
    refine e_iload_n (pc := 52) hE rfl 1 rfl dX10_married_52 ?_
    refine e_iconst (pc := 53) (v := 1) hE ki_1 dX10_married_53 ?_
    refine e_iadd (pc := 54) hE dX10_married_54 ?_
    refine e_goto (pc := 55) hE 60 dX10_married_55 (by decide) ?_
    exact hR dX10_married_60 h
set_option maxHeartbeats 4000000 in
set_option maxRecDepth 20000 in
theorem w_M_married_46 {l : Launch} {G : Gs} {d : Nat} {E : EE} {a1 : Int32} {a2 : Int32} {Q : Int32 → Mm → Prop} (hE : Mach l G RX10 cX10_married 4 (d + 1) E) (hR : RtI cX10_married E Q)     {M : Mm} (h : k_M_married_46 a1 a2 Q M)  : E 46 [(2, .int a2)] [] M := by
  unfold k_M_married_46 at h
  refine e_iconst (pc := 46) (v := 0) hE ki_0 dX10_married_46 ?_
  exact w_M_married_47 hE hR h
set_option maxHeartbeats 4000000 in
set_option maxRecDepth 20000 in
theorem t_M_married {l : Launch} {G : Gs} {d : Nat} {a1 : Int32} {a2 : Int32} {M : Mm} {Q : Int32 → Mm → Prop}  (h : wp_M_married a1 a2 M Q) : CtI l G (d + 1) yX10_married cX10_married 4 (some .int) [rv G 312, .int a1, .int a2] M Q := by
  refine CtI.mk (by decide) rfl (Nat.le_of_ble_eq_true rfl) (fun E hE hR => ?_)
  show E 0 [(0, rv G 312), (1, .int a1), (2, .int a2)] [] M
  unfold wp_M_married at h
  refine e_aload_n (pc := 0) hE rfl 0 rfl dX10_married_0 ?_
  refine g_Md_kinds (pc := 1) hE tw_1011 dX10_married_1 ?_
  refine e_iload_n (pc := 4) hE rfl 2 rfl dX10_married_4 ?_
  refine e_iald (pc := 5) hE ar_319 h.1 dX10_married_5 ?_
  have h := h.2
  refine e_iconst (pc := 6) (v := 5) hE ki_5 dX10_married_6 ?_
  refine e_icmp_ne (pc := 7) hE 46 dX10_married_7 (by decide) (fun c0 => ?_) (fun c0 => ?_)
  · have h := h.1 c0
    refine e_sub hE [2] rfl ?_
    exact w_M_married_46 hE hR h
  · have h := h.2 c0
    refine e_iload_n (pc := 10) hE rfl 2 rfl dX10_married_10 ?_
    refine e_iconst (pc := 11) (v := 1) hE ki_1 dX10_married_11 ?_
    refine e_iadd (pc := 12) hE dX10_married_12 ?_
    refine e_aload_n (pc := 13) hE rfl 0 rfl dX10_married_13 ?_
    refine g_Md_n (pc := 14) hE tw_1009 dX10_married_14 ?_
    refine e_icmp_ge (pc := 17) hE 46 dX10_married_17 (by decide) (fun c0 => ?_) (fun c0 => ?_)
    · have h := h.1 c0
      refine e_sub hE [2] rfl ?_
      exact w_M_married_46 hE hR h
    · have h := h.2 c0
      refine e_aload_n (pc := 20) hE rfl 0 rfl dX10_married_20 ?_
      refine e_iload_n (pc := 21) hE rfl 1 rfl dX10_married_21 ?_
      refine e_iload_n (pc := 22) hE rfl 2 rfl dX10_married_22 ?_
      refine e_iconst (pc := 23) (v := 1) hE ki_1 dX10_married_23 ?_
      refine e_iadd (pc := 24) hE dX10_married_24 ?_
      refine c_M_isDead (pc := 25) (d := d + 0) hE (t_M_isDead (d := d)  h) tw_1265 (Nat.le_of_ble_eq_true rfl) dX10_married_25 (fun r25 M25 h => ?_)
      refine e_if_ne (pc := 28) hE 46 dX10_married_28 (by decide) (fun c0 => ?_) (fun c0 => ?_)
      · have h := h.1 c0
        refine e_sub hE [2] rfl ?_
        exact w_M_married_46 hE hR h
      · have h := h.2 c0
        refine e_aload_n (pc := 31) hE rfl 0 rfl dX10_married_31 ?_
        refine e_iload_n (pc := 32) hE rfl 1 rfl dX10_married_32 ?_
        refine e_iload_n (pc := 33) hE rfl 2 rfl dX10_married_33 ?_
        refine e_iconst (pc := 34) (v := 1) hE ki_1 dX10_married_34 ?_
        refine e_iadd (pc := 35) hE dX10_married_35 ?_
        refine c_M_isBarge (pc := 36) (d := d + 0) hE (t_M_isBarge (d := d)  h) tw_1273 (Nat.le_of_ble_eq_true rfl) dX10_married_36 (fun r36 M36 h => ?_)
        refine e_if_ne (pc := 39) hE 46 dX10_married_39 (by decide) (fun c0 => ?_) (fun c0 => ?_)
        · have h := h.1 c0
          refine e_sub hE [2] rfl ?_
          exact w_M_married_46 hE hR h
        · have h := h.2 c0
          refine e_iconst (pc := 42) (v := 1) hE ki_1 dX10_married_42 ?_
          refine e_goto (pc := 43) hE 47 dX10_married_43 (by decide) ?_
          refine e_sub hE [2] rfl ?_
          exact w_M_married_47 hE hR h
set_option maxHeartbeats 4000000 in
set_option maxRecDepth 20000 in
theorem w_M_mark_57 {l : Launch} {G : Gs} {d : Nat} {E : EE} {a1 : Int32} {a2 : Int32} {Q : Int32 → Mm → Prop} (hE : Mach l G RX10 cX10_mark 4 (d + 3) E) (hR : RtI cX10_mark E Q)     {M : Mm} (h : k_M_mark_57 a1 a2 Q M)  : E 57 [(0, rv G 312), (1, .int a1), (2, .int a2)] [] M := by
  unfold k_M_mark_57 at h
  refine e_iload_n (pc := 57) hE rfl 2 rfl dX10_mark_57 ?_
  by_cases c1 : a2 = 1
  · have h := h.1 c1
    refine e_swIn (pc := 58) hE 88 dX10_mark_58 (by rw [c1]; decide) (by rw [c1]; decide) (by rw [c1]; rfl) (by decide) ?_
    refine e_iconst (pc := 88) (v := 0) hE ki_0 dX10_mark_88 ?_
    refine e_bipush (pc := 89) (v := 6) hE kb_6 dX10_mark_89 ?_
    refine e_aload_n (pc := 91) hE rfl 0 rfl dX10_mark_91 ?_
    refine g_Md_all (pc := 92) hE tw_1024 dX10_mark_92 ?_
    refine e_iconst (pc := 95) (v := 5) hE ki_5 dX10_mark_95 ?_
    refine e_iload_n (pc := 96) hE rfl 1 rfl dX10_mark_96 ?_
    refine e_iadd (pc := 97) hE dX10_mark_97 ?_
    refine e_iald (pc := 98) hE ar_327 h.1 dX10_mark_98 ?_
    have h := h.2
    refine e_isub (pc := 99) hE dX10_mark_99 ?_
    refine e_iconst (pc := 100) (v := 2) hE ki_2 dX10_mark_100 ?_
    refine e_idiv (pc := 101) hE (by decide) dX10_mark_101 ?_
    refine c_M_greater (pc := 102) (d := d + 2 + 0) hE (t_M_greater (d := d + 2)  h) tw_1285 (Nat.le_of_ble_eq_true rfl) dX10_mark_102 (fun r102 M102 h => ?_)
    exact hR dX10_mark_105 h
  have h := h.2
  by_cases c2 : a2 = 2
  · have h := h.1 c2
    refine e_swIn (pc := 58) hE 106 dX10_mark_58 (by rw [c2]; decide) (by rw [c2]; decide) (by rw [c2]; rfl) (by decide) ?_
    refine e_bipush (pc := 106) (v := 10) hE kb_10 dX10_mark_106 ?_
    refine e_aload_n (pc := 108) hE rfl 0 rfl dX10_mark_108 ?_
    refine g_Md_all (pc := 109) hE tw_1024 dX10_mark_109 ?_
    refine e_bipush (pc := 112) (v := 10) hE kb_10 dX10_mark_112 ?_
    refine e_iload_n (pc := 114) hE rfl 1 rfl dX10_mark_114 ?_
    refine e_iadd (pc := 115) hE dX10_mark_115 ?_
    refine e_iald (pc := 116) hE ar_327 h.1 dX10_mark_116 ?_
    have h := h.2
    refine e_isub (pc := 117) hE dX10_mark_117 ?_
    refine e_iconst (pc := 118) (v := 2) hE ki_2 dX10_mark_118 ?_
    refine e_idiv (pc := 119) hE (by decide) dX10_mark_119 ?_
    exact hR dX10_mark_120 h
  have h := h.2
  by_cases c3 : a2 = 3
  · have h := h.1 c3
    refine e_swIn (pc := 58) hE 121 dX10_mark_58 (by rw [c3]; decide) (by rw [c3]; decide) (by rw [c3]; rfl) (by decide) ?_
    refine e_aload_n (pc := 121) hE rfl 0 rfl dX10_mark_121 ?_
    refine g_Md_all (pc := 122) hE tw_1024 dX10_mark_122 ?_
    refine e_bipush (pc := 125) (v := 20) hE kb_20 dX10_mark_125 ?_
    refine e_iload_n (pc := 127) hE rfl 1 rfl dX10_mark_127 ?_
    refine e_iadd (pc := 128) hE dX10_mark_128 ?_
    refine e_iald (pc := 129) hE ar_327 h.1 dX10_mark_129 ?_
    have h := h.2
    exact hR dX10_mark_130 h
  have h := h.2
  by_cases c4 : a2 = 4
  · have h := h.1 c4
    refine e_swIn (pc := 58) hE 131 dX10_mark_58 (by rw [c4]; decide) (by rw [c4]; decide) (by rw [c4]; rfl) (by decide) ?_
    refine e_aload_n (pc := 131) hE rfl 0 rfl dX10_mark_131 ?_
    refine e_iconst (pc := 132) (v := 0) hE ki_0 dX10_mark_132 ?_
    refine e_iload_n (pc := 133) hE rfl 1 rfl dX10_mark_133 ?_
    refine c_M_waterOf (pc := 134) (d := d + 2) hE (t_M_waterOf (d := d)  h) tw_1288 (Nat.le_of_ble_eq_true rfl) dX10_mark_134 (fun r134 M134 h => ?_)
    exact hR dX10_mark_137 h
  have h := h.2
  have cd : a2.toInt < 1 ∨ 4 < a2.toInt := by
    have q1 := sw_ne (n := 1) (by decide) c1
    have q2 := sw_ne (n := 2) (by decide) c2
    have q3 := sw_ne (n := 3) (by decide) c3
    have q4 := sw_ne (n := 4) (by decide) c4
    omega
  have h := h cd
  refine e_swOut (pc := 58) hE 138 dX10_mark_58 cd (by decide) ?_
  refine e_aload_n (pc := 138) hE rfl 0 rfl dX10_mark_138 ?_
  refine e_iconst (pc := 139) (v := 0) hE ki_0 dX10_mark_139 ?_
  refine e_iload_n (pc := 140) hE rfl 1 rfl dX10_mark_140 ?_
  refine c_M_married (pc := 141) (d := d + 1 + 1) hE (t_M_married (d := d + 1)  h) tw_1296 (Nat.le_of_ble_eq_true rfl) dX10_mark_141 (fun r141 M141 h => ?_)
  exact hR dX10_mark_144 h
set_option maxHeartbeats 4000000 in
set_option maxRecDepth 20000 in
theorem w_M_mark_51 {l : Launch} {G : Gs} {d : Nat} {E : EE} {a1 : Int32} {a2 : Int32} {Q : Int32 → Mm → Prop} (hE : Mach l G RX10 cX10_mark 4 (d + 3) E) (hR : RtI cX10_mark E Q)     {M : Mm} (h : k_M_mark_51 a1 a2 Q M)  : E 51 [(0, rv G 312)] [] M := by
  unfold k_M_mark_51 at h
  refine e_aload_n (pc := 51) hE rfl 0 rfl dX10_mark_51 ?_
  refine e_iconst (pc := 52) (v := 3) hE ki_3 dX10_mark_52 ?_
  refine c_M_meets (pc := 53) (d := d + 2 + 0) hE (t_M_meets (d := d + 2)  h) tw_1164 (Nat.le_of_ble_eq_true rfl) dX10_mark_53 (fun r53 M53 h => ?_)
  exact hR dX10_mark_56 h
set_option maxHeartbeats 4000000 in
set_option maxRecDepth 20000 in
theorem w_M_mark_41 {l : Launch} {G : Gs} {d : Nat} {E : EE} {a1 : Int32} {a2 : Int32} {Q : Int32 → Mm → Prop} (hE : Mach l G RX10 cX10_mark 4 (d + 3) E) (hR : RtI cX10_mark E Q)    {v3 : Int32} {M : Mm} (h : k_M_mark_41 a1 a2 Q v3 M)  : E 41 [(0, rv G 312), (1, .int a1), (2, .int a2), (3, .int v3)] [] M := by
  unfold k_M_mark_41 at h
  refine e_iload_n (pc := 41) hE rfl 2 rfl dX10_mark_41 ?_
  refine e_iconst (pc := 42) (v := 3) hE ki_3 dX10_mark_42 ?_
  refine e_icmp_ne (pc := 43) hE 51 dX10_mark_43 (by decide) (fun c0 => ?_) (fun c0 => ?_)
  · have h := h.1 c0
    refine e_sub hE [0] rfl ?_
    exact w_M_mark_51 hE hR h
  · have h := h.2 c0
    refine e_iload_n (pc := 46) hE rfl 3 rfl dX10_mark_46 ?_
    refine e_iconst (pc := 47) (v := 5) hE ki_5 dX10_mark_47 ?_
    refine e_icmp_eq (pc := 48) hE 57 dX10_mark_48 (by decide) (fun c0 => ?_) (fun c0 => ?_)
    · have h := h.1 c0
      refine e_sub hE [0, 1, 2] rfl ?_
      exact w_M_mark_57 hE hR h
    · have h := h.2 c0
      refine e_sub hE [0] rfl ?_
      exact w_M_mark_51 hE hR h
set_option maxHeartbeats 4000000 in
set_option maxRecDepth 20000 in
theorem t_M_mark {l : Launch} {G : Gs} {d : Nat} {a1 : Int32} {a2 : Int32} {M : Mm} {Q : Int32 → Mm → Prop}  (h : wp_M_mark a1 a2 M Q) : CtI l G (d + 3) yX10_mark cX10_mark 4 (some .int) [rv G 312, .int a1, .int a2] M Q := by
  refine CtI.mk (by decide) rfl (Nat.le_of_ble_eq_true rfl) (fun E hE hR => ?_)
  show E 0 [(0, rv G 312), (1, .int a1), (2, .int a2)] [] M
  unfold wp_M_mark at h
  refine e_aload_n (pc := 0) hE rfl 0 rfl dX10_mark_0 ?_
  refine e_iload_n (pc := 1) hE rfl 1 rfl dX10_mark_1 ?_
  refine c_M_isArm (pc := 2) (d := d + 1 + 1) hE (t_M_isArm (d := d + 1)  h) tw_1253 (Nat.le_of_ble_eq_true rfl) dX10_mark_2 (fun r2 M2 h => ?_)
  refine e_if_eq (pc := 5) hE 17 dX10_mark_5 (by decide) (fun c0 => ?_) (fun c0 => ?_)
  · have h := h.1 c0
    refine e_iconst (pc := 17) (v := -1) hE ki_m1 dX10_mark_17 ?_
    exact hR dX10_mark_18 h
  · have h := h.2 c0
    refine e_iload_n (pc := 8) hE rfl 2 rfl dX10_mark_8 ?_
    refine e_iconst (pc := 9) (v := 1) hE ki_1 dX10_mark_9 ?_
    refine e_iconst (pc := 10) (v := 5) hE ki_5 dX10_mark_10 ?_
    refine c_M_in (pc := 11) (d := d + 2 + 0) hE (t_M_in (d := d + 2)  h) tw_1142 (Nat.le_of_ble_eq_true rfl) dX10_mark_11 (fun r11 M11 h => ?_)
    refine e_if_ne (pc := 14) hE 19 dX10_mark_14 (by decide) (fun c0 => ?_) (fun c0 => ?_)
    · have h := h.1 c0
      refine e_aload_n (pc := 19) hE rfl 0 rfl dX10_mark_19 ?_
      refine g_Md_kinds (pc := 20) hE tw_1011 dX10_mark_20 ?_
      refine e_iload_n (pc := 23) hE rfl 1 rfl dX10_mark_23 ?_
      refine e_iald (pc := 24) hE ar_319 h.1 dX10_mark_24 ?_
      have h := h.2
      refine e_topi (fun x25 ex25 => ?_)
      have h := h x25 ex25
      refine e_istore_n (pc := 25) (lv' := [(3, .int x25), (0, rv G 312), (1, .int a1), (2, .int a2)]) hE dX10_mark_25 rfl (by decide) rfl ?_
      refine e_iload_n (pc := 26) hE rfl 0 rfl dX10_mark_26 ?_
      refine e_iload_n (pc := 27) hE rfl 3 rfl dX10_mark_27 ?_
      refine e_icmp_eq (pc := 28) hE 57 dX10_mark_28 (by decide) (fun c0 => ?_) (fun c0 => ?_)
      · have h := h.1 c0
        refine e_sub hE [1, 2, 3] rfl ?_
        exact w_M_mark_57 hE hR h
      · have h := h.2 c0
        refine e_iload_n (pc := 31) hE rfl 3 rfl dX10_mark_31 ?_
        refine e_iconst (pc := 32) (v := 2) hE ki_2 dX10_mark_32 ?_
        refine e_icmp_ne (pc := 33) hE 41 dX10_mark_33 (by decide) (fun c0 => ?_) (fun c0 => ?_)
        · have h := h.1 c0
          refine e_sub hE [1, 2, 3, 0] rfl ?_
          exact w_M_mark_41 hE hR h
        · have h := h.2 c0
          refine e_iload_n (pc := 36) hE rfl 0 rfl dX10_mark_36 ?_
          refine e_iconst (pc := 37) (v := 4) hE ki_4 dX10_mark_37 ?_
          refine e_icmp_eq (pc := 38) hE 57 dX10_mark_38 (by decide) (fun c0 => ?_) (fun c0 => ?_)
          · have h := h.1 c0
            refine e_sub hE [1, 2, 3] rfl ?_
            exact w_M_mark_57 hE hR h
          · have h := h.2 c0
            refine e_sub hE [1, 2, 3, 0] rfl ?_
            exact w_M_mark_41 hE hR h
    · have h := h.2 c0
      refine e_iconst (pc := 17) (v := -1) hE ki_m1 dX10_mark_17 ?_
      exact hR dX10_mark_18 h
set_option maxHeartbeats 4000000 in
set_option maxRecDepth 20000 in
theorem t_M_need {l : Launch} {G : Gs} {d : Nat} {a1 : Int32} {a2 : Int32} {M : Mm} {Q : Int32 → Mm → Prop}  (h : wp_M_need a1 a2 M Q) : CtI l G (d + 2) yX10_need cX10_need 4 (some .int) [rv G 312, .int a1, .int a2] M Q := by
  refine CtI.mk (by decide) rfl (Nat.le_of_ble_eq_true rfl) (fun E hE hR => ?_)
  show E 0 [(0, rv G 312), (1, .int a1), (2, .int a2)] [] M
  unfold wp_M_need at h
  refine e_aload_n (pc := 0) hE rfl 0 rfl dX10_need_0 ?_
  refine e_iload_n (pc := 1) hE rfl 1 rfl dX10_need_1 ?_
  refine c_M_isArm (pc := 2) (d := d + 1) hE (t_M_isArm (d := d)  h) tw_1253 (Nat.le_of_ble_eq_true rfl) dX10_need_2 (fun r2 M2 h => ?_)
  refine e_if_eq (pc := 5) hE 18 dX10_need_5 (by decide) (fun c0 => ?_) (fun c0 => ?_)
  · have h := h.1 c0
    refine e_iconst (pc := 18) (v := -1) hE ki_m1 dX10_need_18 ?_
    exact hR dX10_need_19 h
  · have h := h.2 c0
    refine e_iload_n (pc := 8) hE rfl 2 rfl dX10_need_8 ?_
    refine e_iconst (pc := 9) (v := 0) hE ki_0 dX10_need_9 ?_
    refine e_bipush (pc := 10) (v := 9) hE kb_9 dX10_need_10 ?_
    refine c_M_in (pc := 12) (d := d + 1 + 0) hE (t_M_in (d := d + 1)  h) tw_1142 (Nat.le_of_ble_eq_true rfl) dX10_need_12 (fun r12 M12 h => ?_)
    refine e_if_ne (pc := 15) hE 20 dX10_need_15 (by decide) (fun c0 => ?_) (fun c0 => ?_)
    · have h := h.1 c0
      refine e_aload_n (pc := 20) hE rfl 0 rfl dX10_need_20 ?_
      refine g_Md_needs (pc := 21) hE tw_1013 dX10_need_21 ?_
      refine e_iload_n (pc := 24) hE rfl 1 rfl dX10_need_24 ?_
      refine e_iald (pc := 25) hE ar_321 h.1 dX10_need_25 ?_
      have h := h.2
      refine e_topi (fun x26 ex26 => ?_)
      have h := h x26 ex26
      refine e_istore_n (pc := 26) (lv' := [(3, .int x26), (0, rv G 312), (1, .int a1), (2, .int a2)]) hE dX10_need_26 rfl (by decide) rfl ?_
      refine e_aload_n (pc := 27) hE rfl 1 rfl dX10_need_27 ?_
      refine g_Md_needs (pc := 28) hE tw_1013 dX10_need_28 ?_
      refine e_iload_n (pc := 31) hE rfl 2 rfl dX10_need_31 ?_
      refine e_iload_n (pc := 32) hE rfl 3 rfl dX10_need_32 ?_
      refine e_iast (pc := 33) hE ar_321 h.1 dX10_need_33 ?_
      have h := h.2
      refine e_iload_n (pc := 34) hE rfl 0 rfl dX10_need_34 ?_
      exact hR dX10_need_35 h
    · have h := h.2 c0
      refine e_iconst (pc := 18) (v := -1) hE ki_m1 dX10_need_18 ?_
      exact hR dX10_need_19 h
set_option maxHeartbeats 4000000 in
set_option maxRecDepth 20000 in
theorem w_M_awaits_87 {l : Launch} {G : Gs} {d : Nat} {E : EE} {a1 : Int32} {a2 : Int32} {a3 : Int32} {Q : Int32 → Mm → Prop} (hE : Mach l G RX10 cX10_awaits 5 (d + 2) E) (hR : RtI cX10_awaits E Q)    {v4 : Int32} {s0 : Int32} {s1 : Int32} {M : Mm} (h : k_M_awaits_87 a1 a2 a3 Q v4 s0 s1 M)  : E 87 [(4, .int v4)] [.int s0, .int s1, rv G 324] M := by
  unfold k_M_awaits_87 at h
  refine e_iast (pc := 87) hE ar_324 h.1 dX10_awaits_87 ?_
  have h := h.2
  refine e_iload (pc := 88) hE 0 rfl dX10_awaits_88 ?_
  exact hR dX10_awaits_90 h
set_option maxHeartbeats 4000000 in
set_option maxRecDepth 20000 in
theorem w_M_awaits_50 {l : Launch} {G : Gs} {d : Nat} {E : EE} {a1 : Int32} {a2 : Int32} {a3 : Int32} {Q : Int32 → Mm → Prop} (hE : Mach l G RX10 cX10_awaits 5 (d + 2) E) (hR : RtI cX10_awaits E Q)    {s0 : Int32} {M : Mm} (h : k_M_awaits_50 a1 a2 a3 Q s0 M)  : E 50 [(0, rv G 312), (1, .int a1), (2, .int a2), (3, .int a3)] [.int s0] M := by
  unfold k_M_awaits_50 at h
  refine e_istore (pc := 50) (lv' := [(4, .int s0), (0, rv G 312), (1, .int a1), (2, .int a2), (3, .int a3)]) hE dX10_awaits_50 (by decide) rfl ?_
  refine e_aload_n (pc := 52) hE rfl 1 rfl dX10_awaits_52 ?_
  refine g_Md_waits (pc := 53) hE tw_1016 dX10_awaits_53 ?_
  refine e_iload_n (pc := 56) hE rfl 2 rfl dX10_awaits_56 ?_
  refine e_iload_n (pc := 57) hE rfl 4 rfl dX10_awaits_57 ?_
  refine e_iconst (pc := 58) (v := 1) hE ki_1 dX10_awaits_58 ?_
  refine e_icmp_ne (pc := 59) hE 75 dX10_awaits_59 (by decide) (fun c0 => ?_) (fun c0 => ?_)
  · have h := h.1 c0
    refine e_aload_n (pc := 75) hE rfl 1 rfl dX10_awaits_75 ?_
    refine g_Md_waits (pc := 76) hE tw_1016 dX10_awaits_76 ?_
    refine e_iload_n (pc := 79) hE rfl 2 rfl dX10_awaits_79 ?_
    refine e_iald (pc := 80) hE ar_324 h.1 dX10_awaits_80 ?_
    have h := h.2
    refine e_iconst (pc := 81) (v := 1) hE ki_1 dX10_awaits_81 ?_
    refine e_iload_n (pc := 82) hE rfl 3 rfl dX10_awaits_82 ?_
    refine e_ishl (pc := 83) hE dX10_awaits_83 ?_
    refine e_iconst (pc := 84) (v := -1) hE ki_m1 dX10_awaits_84 ?_
    refine e_ixor (pc := 85) hE dX10_awaits_85 ?_
    refine e_iand (pc := 86) hE dX10_awaits_86 ?_
    refine e_sub hE [0] rfl ?_
    exact w_M_awaits_87 hE hR h
  · have h := h.2 c0
    refine e_aload_n (pc := 62) hE rfl 1 rfl dX10_awaits_62 ?_
    refine g_Md_waits (pc := 63) hE tw_1016 dX10_awaits_63 ?_
    refine e_iload_n (pc := 66) hE rfl 2 rfl dX10_awaits_66 ?_
    refine e_iald (pc := 67) hE ar_324 h.1 dX10_awaits_67 ?_
    have h := h.2
    refine e_iconst (pc := 68) (v := 1) hE ki_1 dX10_awaits_68 ?_
    refine e_iload_n (pc := 69) hE rfl 3 rfl dX10_awaits_69 ?_
    refine e_ishl (pc := 70) hE dX10_awaits_70 ?_
    refine e_ior (pc := 71) hE dX10_awaits_71 ?_
    refine e_goto (pc := 72) hE 87 dX10_awaits_72 (by decide) ?_
    refine e_sub hE [0] rfl ?_
    exact w_M_awaits_87 hE hR h
set_option maxHeartbeats 4000000 in
set_option maxRecDepth 20000 in
theorem t_M_awaits {l : Launch} {G : Gs} {d : Nat} {a1 : Int32} {a2 : Int32} {a3 : Int32} {M : Mm} {Q : Int32 → Mm → Prop}  (h : wp_M_awaits a1 a2 a3 M Q) : CtI l G (d + 2) yX10_awaits cX10_awaits 5 (some .int) [rv G 312, .int a1, .int a2, .int a3] M Q := by
  refine CtI.mk (by decide) rfl (Nat.le_of_ble_eq_true rfl) (fun E hE hR => ?_)
  show E 0 [(0, rv G 312), (1, .int a1), (2, .int a2), (3, .int a3)] [] M
  unfold wp_M_awaits at h
  refine e_aload_n (pc := 0) hE rfl 0 rfl dX10_awaits_0 ?_
  refine e_iload_n (pc := 1) hE rfl 1 rfl dX10_awaits_1 ?_
  refine c_M_isArm (pc := 2) (d := d + 1) hE (t_M_isArm (d := d)  h) tw_1253 (Nat.le_of_ble_eq_true rfl) dX10_awaits_2 (fun r2 M2 h => ?_)
  refine e_if_eq (pc := 5) hE 30 dX10_awaits_5 (by decide) (fun c0 => ?_) (fun c0 => ?_)
  · have h := h.1 c0
    refine e_iconst (pc := 30) (v := -1) hE ki_m1 dX10_awaits_30 ?_
    exact hR dX10_awaits_31 h
  · have h := h.2 c0
    refine e_aload_n (pc := 8) hE rfl 0 rfl dX10_awaits_8 ?_
    refine e_iload_n (pc := 9) hE rfl 2 rfl dX10_awaits_9 ?_
    refine c_M_isArm (pc := 10) (d := d + 1) hE (t_M_isArm (d := d)  h) tw_1253 (Nat.le_of_ble_eq_true rfl) dX10_awaits_10 (fun r10 M10 h => ?_)
    refine e_if_eq (pc := 13) hE 30 dX10_awaits_13 (by decide) (fun c0 => ?_) (fun c0 => ?_)
    · have h := h.1 c0
      refine e_iconst (pc := 30) (v := -1) hE ki_m1 dX10_awaits_30 ?_
      exact hR dX10_awaits_31 h
    · have h := h.2 c0
      refine e_iload_n (pc := 16) hE rfl 1 rfl dX10_awaits_16 ?_
      refine e_iload_n (pc := 17) hE rfl 2 rfl dX10_awaits_17 ?_
      refine e_icmp_eq (pc := 18) hE 30 dX10_awaits_18 (by decide) (fun c0 => ?_) (fun c0 => ?_)
      · have h := h.1 c0
        refine e_iconst (pc := 30) (v := -1) hE ki_m1 dX10_awaits_30 ?_
        exact hR dX10_awaits_31 h
      · have h := h.2 c0
        refine e_iload_n (pc := 21) hE rfl 3 rfl dX10_awaits_21 ?_
        refine e_iconst (pc := 22) (v := 0) hE ki_0 dX10_awaits_22 ?_
        refine e_iconst (pc := 23) (v := 1) hE ki_1 dX10_awaits_23 ?_
        refine c_M_in (pc := 24) (d := d + 1 + 0) hE (t_M_in (d := d + 1)  h) tw_1142 (Nat.le_of_ble_eq_true rfl) dX10_awaits_24 (fun r24 M24 h => ?_)
        refine e_if_ne (pc := 27) hE 32 dX10_awaits_27 (by decide) (fun c0 => ?_) (fun c0 => ?_)
        · have h := h.1 c0
          refine e_aload_n (pc := 32) hE rfl 0 rfl dX10_awaits_32 ?_
          refine g_Md_waits (pc := 33) hE tw_1016 dX10_awaits_33 ?_
          refine e_iload_n (pc := 36) hE rfl 1 rfl dX10_awaits_36 ?_
          refine e_iald (pc := 37) hE ar_324 h.1 dX10_awaits_37 ?_
          have h := h.2
          refine e_iload_n (pc := 38) hE rfl 2 rfl dX10_awaits_38 ?_
          refine c_M_has (pc := 39) (d := d + 1 + 0) hE (t_M_has (d := d + 1)  h) tw_1235 (Nat.le_of_ble_eq_true rfl) dX10_awaits_39 (fun r39 M39 h => ?_)
          refine e_if_eq (pc := 42) hE 49 dX10_awaits_42 (by decide) (fun c0 => ?_) (fun c0 => ?_)
          · have h := h.1 c0
            refine e_iconst (pc := 49) (v := 0) hE ki_0 dX10_awaits_49 ?_
            exact w_M_awaits_50 hE hR h
          · have h := h.2 c0
            refine e_iconst (pc := 45) (v := 1) hE ki_1 dX10_awaits_45 ?_
            refine e_goto (pc := 46) hE 50 dX10_awaits_46 (by decide) ?_
            exact w_M_awaits_50 hE hR h
        · have h := h.2 c0
          refine e_iconst (pc := 30) (v := -1) hE ki_m1 dX10_awaits_30 ?_
          exact hR dX10_awaits_31 h
set_option maxHeartbeats 4000000 in
set_option maxRecDepth 20000 in
theorem w_M_remember_2 {l : Launch} {G : Gs} {d : Nat} {E : EE}  {Q : Mm → Prop} (hE : Mach l G RX10 cX10_remember 2 (d + 0) E) (hR : RtV cX10_remember E Q)   {KB : Int32 → Mm → Prop} {K34 : Mm → Prop} {v1 : Int32} {M : Mm} (h : k_M_remember_2 Q KB K34 v1 M) (hKB : ∀ (v1 : Int32)  (M : Mm), KB v1 M → E 2 [(0, rv G 312), (1, .int v1)] [] M) (hK34 : ∀  (M : Mm), K34 M → E 34 [(0, rv G 312)] [] M) : E 2 [(0, rv G 312), (1, .int v1)] [] M := by
  unfold k_M_remember_2 at h
  refine e_iload_n (pc := 2) hE rfl 1 rfl dX10_remember_2 ?_
  refine e_bipush (pc := 3) (v := 31) hE kb_31 dX10_remember_3 ?_
  refine e_icmp_ge (pc := 5) hE 34 dX10_remember_5 (by decide) (fun c0 => ?_) (fun c0 => ?_)
  · have h := h.1 c0
    refine e_sub hE [0] rfl ?_
    exact hK34 _ h
  · have h := h.2 c0
    refine e_aload_n (pc := 8) hE rfl 0 rfl dX10_remember_8 ?_
    refine g_Md_log (pc := 9) hE tw_1028 dX10_remember_9 ?_
    refine e_bipush (pc := 12) (v := 31) hE kb_31 dX10_remember_12 ?_
    refine e_aload_n (pc := 14) hE rfl 0 rfl dX10_remember_14 ?_
    refine g_Md_deedMany (pc := 15) hE tw_1027 dX10_remember_15 ?_
    refine e_imul (pc := 18) hE dX10_remember_18 ?_
    refine e_iload_n (pc := 19) hE rfl 1 rfl dX10_remember_19 ?_
    refine e_iadd (pc := 20) hE dX10_remember_20 ?_
    refine e_aload_n (pc := 21) hE rfl 0 rfl dX10_remember_21 ?_
    refine g_Md_all (pc := 22) hE tw_1024 dX10_remember_22 ?_
    refine e_iload_n (pc := 25) hE rfl 1 rfl dX10_remember_25 ?_
    refine e_iald (pc := 26) hE ar_327 h.1 dX10_remember_26 ?_
    have h := h.2
    refine e_topi (fun x27 ex27 => ?_)
    have h := h x27 ex27
    refine e_iast (pc := 27) hE ar_329 h.1 dX10_remember_27 ?_
    have h := h.2
    obtain ⟨x28, ex28⟩ : ∃ y : Int32, y = v1 + (1 : Int32) := ⟨_, rfl⟩
    have h := h x28 ex28
    refine e_iinc (pc := 28) (k := 1) (v := x28) (lv' := [(1, .int x28), (0, rv G 312)]) hE dX10_remember_28 rfl (by rw [ex28, ki_1]) (by decide) rfl ?_
    refine e_goto (pc := 31) hE 2 dX10_remember_31 (by decide) ?_
    refine e_sub hE [1, 0] rfl ?_
    exact hKB _ _ h
set_option maxHeartbeats 4000000 in
set_option maxRecDepth 20000 in
theorem w_lp_M_remember_2 {l : Launch} {G : Gs} {d : Nat} {E : EE}  {Q : Mm → Prop} (hE : Mach l G RX10 cX10_remember 2 (d + 0) E) (hR : RtV cX10_remember E Q)   {K34 : Mm → Prop} {n : Nat} {v1 : Int32} {M : Mm} (h : lp_M_remember_2 Q K34 n v1 M) (hK34 : ∀  (M : Mm), K34 M → E 34 [(0, rv G 312)] [] M) : E 2 [(0, rv G 312), (1, .int v1)] [] M := by
  have key : ∀ (n : Nat) (v1 : Int32) (M : Mm), lp_M_remember_2 Q K34 n v1 M → E 2 [(0, rv G 312), (1, .int v1)] [] M := by
    intro n
    induction n with
    | zero => intro v1 M h; exact h.elim
    | succ n ih => intro v1 M h; exact w_M_remember_2 hE hR  (show k_M_remember_2  Q (lp_M_remember_2 Q K34 n) K34 v1 M from h) ih hK34
  exact key n _ _ h
set_option maxHeartbeats 4000000 in
set_option maxRecDepth 20000 in
theorem t_M_remember {l : Launch} {G : Gs} {d : Nat}  {M : Mm} {Q : Mm → Prop}  (h : wp_M_remember  M Q) : CtV l G (d + 0) yX10_remember cX10_remember 2 (none) [rv G 312] M Q := by
  refine CtV.mk (by decide) rfl (Nat.le_of_ble_eq_true rfl) (fun E hE hR => ?_)
  show E 0 [(0, rv G 312)] [] M
  unfold wp_M_remember at h
  refine e_iconst (pc := 0) (v := 0) hE ki_0 dX10_remember_0 ?_
  refine e_istore_n (pc := 1) (lv' := [(1, .int (0 : Int32)), (0, rv G 312)]) hE dX10_remember_1 rfl (by decide) rfl ?_
  obtain ⟨n, h⟩ := h
  refine e_sub hE [1, 0] rfl ?_
  refine w_lp_M_remember_2 hE hR  h (fun M h => ?_)
  refine e_aload_n (pc := 34) hE rfl 0 rfl dX10_remember_34 ?_
  refine e_dup (pc := 35) hE rfl dX10_remember_35 ?_
  refine g_Md_deedMany (pc := 36) hE tw_1027 dX10_remember_36 ?_
  refine e_iconst (pc := 39) (v := 1) hE ki_1 dX10_remember_39 ?_
  refine e_iadd (pc := 40) hE dX10_remember_40 ?_
  refine e_topi (fun x41 ex41 => ?_)
  have h := h x41 ex41
  refine p_Md_deedMany (pc := 41) hE tw_1027 dX10_remember_41 ?_
  exact hR dX10_remember_44 h
set_option maxHeartbeats 4000000 in
set_option maxRecDepth 20000 in
theorem w_M_stamps_14 {l : Launch} {G : Gs} {d : Nat} {E : EE} {a1 : Int32} {a2 : Int32} {Q : Mm → Prop} (hE : Mach l G RX10 cX10_stamps 5 (d + 2) E) (hR : RtV cX10_stamps E Q)    {s0 : Int32} {M : Mm} (h : k_M_stamps_14 a1 a2 Q s0 M)  : E 14 [(0, rv G 312), (1, .int a1), (2, .int a2)] [.int s0] M := by
  unfold k_M_stamps_14 at h
  refine e_istore_n (pc := 14) (lv' := [(3, .int s0), (0, rv G 312), (1, .int a1), (2, .int a2)]) hE dX10_stamps_14 rfl (by decide) rfl ?_
  refine e_aload_n (pc := 15) hE rfl 1 rfl dX10_stamps_15 ?_
  refine e_iload_n (pc := 16) hE rfl 2 rfl dX10_stamps_16 ?_
  refine e_iload_n (pc := 17) hE rfl 3 rfl dX10_stamps_17 ?_
  refine c_M_married (pc := 18) (d := d + 1) hE (t_M_married (d := d)  h) tw_1296 (Nat.le_of_ble_eq_true rfl) dX10_stamps_18 (fun r18 M18 h => ?_)
  refine e_istore (pc := 21) (lv' := [(4, .int r18), (3, .int s0), (0, rv G 312), (1, .int a1), (2, .int a2)]) hE dX10_stamps_21 (by decide) rfl ?_
  refine e_aload_n (pc := 23) hE rfl 2 rfl dX10_stamps_23 ?_
  refine g_Md_all (pc := 24) hE tw_1024 dX10_stamps_24 ?_
  refine e_bipush (pc := 27) (v := 31) hE kb_31 dX10_stamps_27 ?_
  refine e_iload_n (pc := 29) hE rfl 3 rfl dX10_stamps_29 ?_
  refine e_imul (pc := 30) hE dX10_stamps_30 ?_
  refine e_iload_n (pc := 31) hE rfl 4 rfl dX10_stamps_31 ?_
  refine e_iadd (pc := 32) hE dX10_stamps_32 ?_
  refine e_iload_n (pc := 33) hE rfl 1 rfl dX10_stamps_33 ?_
  refine e_iast (pc := 34) hE ar_327 h.1 dX10_stamps_34 ?_
  have h := h.2
  refine e_iload (pc := 35) hE 0 rfl dX10_stamps_35 ?_
  refine e_bipush (pc := 37) (v := -9) hE kb_m9 dX10_stamps_37 ?_
  refine e_icmp_eq (pc := 39) hE 55 dX10_stamps_39 (by decide) (fun c0 => ?_) (fun c0 => ?_)
  · have h := h.1 c0
    exact hR dX10_stamps_55 h
  · have h := h.2 c0
    refine e_aload_n (pc := 42) hE rfl 2 rfl dX10_stamps_42 ?_
    refine g_Md_all (pc := 43) hE tw_1024 dX10_stamps_43 ?_
    refine e_bipush (pc := 46) (v := 31) hE kb_31 dX10_stamps_46 ?_
    refine e_iload_n (pc := 48) hE rfl 3 rfl dX10_stamps_48 ?_
    refine e_imul (pc := 49) hE dX10_stamps_49 ?_
    refine e_iload (pc := 50) hE 0 rfl dX10_stamps_50 ?_
    refine e_iadd (pc := 52) hE dX10_stamps_52 ?_
    refine e_iload_n (pc := 53) hE rfl 1 rfl dX10_stamps_53 ?_
    refine e_iast (pc := 54) hE ar_327 h.1 dX10_stamps_54 ?_
    have h := h.2
    exact hR dX10_stamps_55 h
set_option maxHeartbeats 4000000 in
set_option maxRecDepth 20000 in
theorem t_M_stamps {l : Launch} {G : Gs} {d : Nat} {a1 : Int32} {a2 : Int32} {M : Mm} {Q : Mm → Prop}  (h : wp_M_stamps a1 a2 M Q) : CtV l G (d + 2) yX10_stamps cX10_stamps 5 (none) [rv G 312, .int a1, .int a2] M Q := by
  refine CtV.mk (by decide) rfl (Nat.le_of_ble_eq_true rfl) (fun E hE hR => ?_)
  show E 0 [(0, rv G 312), (1, .int a1), (2, .int a2)] [] M
  unfold wp_M_stamps at h
  refine e_aload_n (pc := 0) hE rfl 0 rfl dX10_stamps_0 ?_
  refine e_iload_n (pc := 1) hE rfl 1 rfl dX10_stamps_1 ?_
  refine e_iload_n (pc := 2) hE rfl 2 rfl dX10_stamps_2 ?_
  refine c_M_isOpen (pc := 3) (d := d + 1 + 0) hE (t_M_isOpen (d := d + 1)  h) tw_1269 (Nat.le_of_ble_eq_true rfl) dX10_stamps_3 (fun r3 M3 h => ?_)
  refine e_if_eq (pc := 6) hE 13 dX10_stamps_6 (by decide) (fun c0 => ?_) (fun c0 => ?_)
  · have h := h.1 c0
    refine e_iconst (pc := 13) (v := 1) hE ki_1 dX10_stamps_13 ?_
    exact w_M_stamps_14 hE hR h
  · have h := h.2 c0
    refine e_iconst (pc := 9) (v := 0) hE ki_0 dX10_stamps_9 ?_
    refine e_goto (pc := 10) hE 14 dX10_stamps_10 (by decide) ?_
    exact w_M_stamps_14 hE hR h
set_option maxHeartbeats 4000000 in
set_option maxRecDepth 20000 in
theorem t_M_stamp {l : Launch} {G : Gs} {d : Nat} {a1 : Int32} {M : Mm} {Q : Int32 → Mm → Prop}  (h : wp_M_stamp a1 M Q) : CtI l G (d + 3) yX10_stamp cX10_stamp 2 (some .int) [rv G 312, .int a1] M Q := by
  refine CtI.mk (by decide) rfl (Nat.le_of_ble_eq_true rfl) (fun E hE hR => ?_)
  show E 0 [(0, rv G 312), (1, .int a1)] [] M
  unfold wp_M_stamp at h
  refine e_aload_n (pc := 0) hE rfl 0 rfl dX10_stamp_0 ?_
  refine e_iload_n (pc := 1) hE rfl 1 rfl dX10_stamp_1 ?_
  refine c_M_isArm (pc := 2) (d := d + 1 + 1) hE (t_M_isArm (d := d + 1)  h) tw_1253 (Nat.le_of_ble_eq_true rfl) dX10_stamp_2 (fun r2 M2 h => ?_)
  refine e_if_ne (pc := 5) hE 10 dX10_stamp_5 (by decide) (fun c0 => ?_) (fun c0 => ?_)
  · have h := h.1 c0
    refine e_aload_n (pc := 10) hE rfl 0 rfl dX10_stamp_10 ?_
    refine e_iconst (pc := 11) (v := 0) hE ki_0 dX10_stamp_11 ?_
    refine e_iload_n (pc := 12) hE rfl 1 rfl dX10_stamp_12 ?_
    refine c_M_mayBe (pc := 13) (d := d + 2) hE (t_M_mayBe (d := d)  h) tw_1261 (Nat.le_of_ble_eq_true rfl) dX10_stamp_13 (fun r13 M13 h => ?_)
    refine e_if_ne (pc := 16) hE 22 dX10_stamp_16 (by decide) (fun c0 => ?_) (fun c0 => ?_)
    · have h := h.1 c0
      refine e_aload_n (pc := 22) hE rfl 0 rfl dX10_stamp_22 ?_
      refine g_Md_deedMany (pc := 23) hE tw_1027 dX10_stamp_23 ?_
      refine e_bipush (pc := 26) (v := 60) hE kb_60 dX10_stamp_26 ?_
      refine e_icmp_ne (pc := 28) hE 34 dX10_stamp_28 (by decide) (fun c0 => ?_) (fun c0 => ?_)
      · have h := h.1 c0
        refine e_aload_n (pc := 34) hE rfl 0 rfl dX10_stamp_34 ?_
        refine c_M_remember (pc := 35) (d := d + 2 + 0) hE (t_M_remember (d := d + 2)  h) tw_1312 (Nat.le_of_ble_eq_true rfl) dX10_stamp_35 (fun M35 h => ?_)
        refine e_aload_n (pc := 38) hE rfl 0 rfl dX10_stamp_38 ?_
        refine e_iconst (pc := 39) (v := 0) hE ki_0 dX10_stamp_39 ?_
        refine e_iload_n (pc := 40) hE rfl 1 rfl dX10_stamp_40 ?_
        refine c_M_stamps (pc := 41) (d := d + 2) hE (t_M_stamps (d := d)  h) tw_1316 (Nat.le_of_ble_eq_true rfl) dX10_stamp_41 (fun M41 h => ?_)
        refine e_aload_n (pc := 44) hE rfl 0 rfl dX10_stamp_44 ?_
        refine e_iconst (pc := 45) (v := 0) hE ki_0 dX10_stamp_45 ?_
        refine c_M_openSet (pc := 46) (d := d + 1 + 1) hE (t_M_openSet (d := d + 1)  h) tw_1277 (Nat.le_of_ble_eq_true rfl) dX10_stamp_46 (fun r46 M46 h => ?_)
        exact hR dX10_stamp_49 h
      · have h := h.2 c0
        refine e_bipush (pc := 31) (v := -2) hE kb_m2 dX10_stamp_31 ?_
        exact hR dX10_stamp_33 h
    · have h := h.2 c0
      refine e_bipush (pc := 19) (v := -4) hE kb_m4 dX10_stamp_19 ?_
      exact hR dX10_stamp_21 h
  · have h := h.2 c0
    refine e_iconst (pc := 8) (v := -1) hE ki_m1 dX10_stamp_8 ?_
    exact hR dX10_stamp_9 h
set_option maxHeartbeats 4000000 in
set_option maxRecDepth 20000 in
theorem t_M_lesser {l : Launch} {G : Gs} {d : Nat} {a0 : Int32} {a1 : Int32} {M : Mm} {Q : Int32 → Mm → Prop}  (h : wp_M_lesser a0 a1 M Q) : CtI l G (d + 0) yX10_lesser cX10_lesser 2 (some .int) [.int a0, .int a1] M Q := by
  refine CtI.mk (by decide) rfl (Nat.le_of_ble_eq_true rfl) (fun E hE hR => ?_)
  show E 0 [(0, .int a0), (1, .int a1)] [] M
  unfold wp_M_lesser at h
  refine e_iload_n (pc := 0) hE rfl 0 rfl dX10_lesser_0 ?_
  refine e_iload_n (pc := 1) hE rfl 1 rfl dX10_lesser_1 ?_
  refine e_icmp_ge (pc := 2) hE 9 dX10_lesser_2 (by decide) (fun c0 => ?_) (fun c0 => ?_)
  · have h := h.1 c0
    refine e_iload_n (pc := 9) hE rfl 1 rfl dX10_lesser_9 ?_
    exact hR dX10_lesser_10 h
  · have h := h.2 c0
    refine e_iload_n (pc := 5) hE rfl 0 rfl dX10_lesser_5 ?_
    refine e_goto (pc := 6) hE 10 dX10_lesser_6 (by decide) ?_
    exact hR dX10_lesser_10 h
set_option maxHeartbeats 4000000 in
set_option maxRecDepth 20000 in
theorem w_M_isSilty_20 {l : Launch} {G : Gs} {d : Nat} {E : EE} {a1 : Int32} {Q : Int32 → Mm → Prop} (hE : Mach l G RX10 cX10_isSilty 2 (d + 0) E) (hR : RtZ cX10_isSilty E Q)     {M : Mm} (h : k_M_isSilty_20 a1 Q M)  : E 20 [] [] M := by
  unfold k_M_isSilty_20 at h
  refine e_iconst (pc := 20) (v := 1) hE ki_1 dX10_isSilty_20 ?_
  refine e_goto (pc := 21) hE 25 dX10_isSilty_21 (by decide) ?_
  exact hR dX10_isSilty_25 (Or.inr rfl) h
set_option maxHeartbeats 4000000 in
set_option maxRecDepth 20000 in
theorem t_M_isSilty {l : Launch} {G : Gs} {d : Nat} {a1 : Int32} {M : Mm} {Q : Int32 → Mm → Prop}  (h : wp_M_isSilty a1 M Q) : CtI l G (d + 0) yX10_isSilty cX10_isSilty 2 (some .boolean) [rv G 312, .int a1] M Q := by
  refine CtI.mkZ (by decide) rfl (Nat.le_of_ble_eq_true rfl) (fun E hE hR => ?_)
  show E 0 [(0, rv G 312), (1, .int a1)] [] M
  unfold wp_M_isSilty at h
  refine e_aload_n (pc := 0) hE rfl 0 rfl dX10_isSilty_0 ?_
  refine g_Md_kinds (pc := 1) hE tw_1011 dX10_isSilty_1 ?_
  refine e_iload_n (pc := 4) hE rfl 1 rfl dX10_isSilty_4 ?_
  refine e_iald (pc := 5) hE ar_319 h.1 dX10_isSilty_5 ?_
  have h := h.2
  refine e_iconst (pc := 6) (v := 2) hE ki_2 dX10_isSilty_6 ?_
  refine e_icmp_eq (pc := 7) hE 20 dX10_isSilty_7 (by decide) (fun c0 => ?_) (fun c0 => ?_)
  · have h := h.1 c0
    refine e_sub hE [] rfl ?_
    exact w_M_isSilty_20 hE hR h
  · have h := h.2 c0
    refine e_aload_n (pc := 10) hE rfl 0 rfl dX10_isSilty_10 ?_
    refine g_Md_kinds (pc := 11) hE tw_1011 dX10_isSilty_11 ?_
    refine e_iload_n (pc := 14) hE rfl 1 rfl dX10_isSilty_14 ?_
    refine e_iald (pc := 15) hE ar_319 h.1 dX10_isSilty_15 ?_
    have h := h.2
    refine e_iconst (pc := 16) (v := 4) hE ki_4 dX10_isSilty_16 ?_
    refine e_icmp_ne (pc := 17) hE 24 dX10_isSilty_17 (by decide) (fun c0 => ?_) (fun c0 => ?_)
    · have h := h.1 c0
      refine e_iconst (pc := 24) (v := 0) hE ki_0 dX10_isSilty_24 ?_
      exact hR dX10_isSilty_25 (Or.inl rfl) h
    · have h := h.2 c0
      refine e_sub hE [] rfl ?_
      exact w_M_isSilty_20 hE hR h
set_option maxHeartbeats 4000000 in
set_option maxRecDepth 20000 in
theorem w_M_bits_4 {l : Launch} {G : Gs} {d : Nat} {E : EE} {a0 : Int32} {Q : Int32 → Mm → Prop} (hE : Mach l G RX10 cX10_bits 3 (d + 0) E) (hR : RtI cX10_bits E Q)   {KB : Int32 → Int32 → Mm → Prop} {v1 : Int32} {v2 : Int32} {M : Mm} (h : k_M_bits_4 a0 Q KB v1 v2 M) (hKB : ∀ (v1 : Int32) (v2 : Int32)  (M : Mm), KB v1 v2 M → E 4 [(1, .int v1), (2, .int v2)] [] M) : E 4 [(1, .int v1), (2, .int v2)] [] M := by
  unfold k_M_bits_4 at h
  refine e_iload_n (pc := 4) hE rfl 1 rfl dX10_bits_4 ?_
  refine e_if_eq (pc := 5) hE 20 dX10_bits_5 (by decide) (fun c0 => ?_) (fun c0 => ?_)
  · have h := h.1 c0
    refine e_iload_n (pc := 20) hE rfl 0 rfl dX10_bits_20 ?_
    exact hR dX10_bits_21 h
  · have h := h.2 c0
    obtain ⟨x8, ex8⟩ : ∃ y : Int32, y = v1 + (1 : Int32) := ⟨_, rfl⟩
    have h := h x8 ex8
    refine e_iinc (pc := 8) (k := 0) (v := x8) (lv' := [(1, .int x8), (2, .int v2)]) hE dX10_bits_8 rfl (by rw [ex8, ki_1]) (by decide) rfl ?_
    refine e_iload_n (pc := 11) hE rfl 1 rfl dX10_bits_11 ?_
    refine e_iload_n (pc := 12) hE rfl 1 rfl dX10_bits_12 ?_
    refine e_iconst (pc := 13) (v := 1) hE ki_1 dX10_bits_13 ?_
    refine e_isub (pc := 14) hE dX10_bits_14 ?_
    refine e_iand (pc := 15) hE dX10_bits_15 ?_
    refine e_topi (fun x16 ex16 => ?_)
    have h := h x16 ex16
    refine e_istore_n (pc := 16) (lv' := [(2, .int x16), (1, .int x8)]) hE dX10_bits_16 rfl (by decide) rfl ?_
    refine e_goto (pc := 17) hE 4 dX10_bits_17 (by decide) ?_
    refine e_sub hE [1, 0] rfl ?_
    exact hKB _ _ _ h
set_option maxHeartbeats 4000000 in
set_option maxRecDepth 20000 in
theorem w_lp_M_bits_4 {l : Launch} {G : Gs} {d : Nat} {E : EE} {a0 : Int32} {Q : Int32 → Mm → Prop} (hE : Mach l G RX10 cX10_bits 3 (d + 0) E) (hR : RtI cX10_bits E Q)    {n : Nat} {v1 : Int32} {v2 : Int32} {M : Mm} (h : lp_M_bits_4 a0 Q n v1 v2 M)  : E 4 [(1, .int v1), (2, .int v2)] [] M := by
  have key : ∀ (n : Nat) (v1 : Int32) (v2 : Int32) (M : Mm), lp_M_bits_4 a0 Q n v1 v2 M → E 4 [(1, .int v1), (2, .int v2)] [] M := by
    intro n
    induction n with
    | zero => intro v1 v2 M h; exact h.elim
    | succ n ih => intro v1 v2 M h; exact w_M_bits_4 hE hR  (show k_M_bits_4 a0 Q (lp_M_bits_4 a0 Q n)  v1 v2 M from h) ih 
  exact key n _ _ _ h
set_option maxHeartbeats 4000000 in
set_option maxRecDepth 20000 in
theorem t_M_bits {l : Launch} {G : Gs} {d : Nat} {a0 : Int32} {M : Mm} {Q : Int32 → Mm → Prop}  (h : wp_M_bits a0 M Q) : CtI l G (d + 0) yX10_bits cX10_bits 3 (some .int) [.int a0] M Q := by
  refine CtI.mk (by decide) rfl (Nat.le_of_ble_eq_true rfl) (fun E hE hR => ?_)
  show E 0 [(0, .int a0)] [] M
  unfold wp_M_bits at h
  refine e_iconst (pc := 0) (v := 0) hE ki_0 dX10_bits_0 ?_
  refine e_istore_n (pc := 1) (lv' := [(1, .int (0 : Int32)), (0, .int a0)]) hE dX10_bits_1 rfl (by decide) rfl ?_
  refine e_iload_n (pc := 2) hE rfl 1 rfl dX10_bits_2 ?_
  refine e_istore_n (pc := 3) (lv' := [(2, .int a0), (1, .int (0 : Int32)), (0, .int a0)]) hE dX10_bits_3 rfl (by decide) rfl ?_
  obtain ⟨n, h⟩ := h
  refine e_sub hE [1, 0] rfl ?_
  refine w_lp_M_bits_4 hE hR  h 
set_option maxHeartbeats 4000000 in
set_option maxRecDepth 20000 in
theorem w_M_passes_12 {l : Launch} {G : Gs} {d : Nat} {E : EE} {a1 : Int32} {Q : Int32 → Mm → Prop} (hE : Mach l G RX10 cX10_passes 7 (d + 3) E) (hR : RtI cX10_passes E Q)   {KB : Int32 → Int32 → Mm → Prop} {K38 : Int32 → Mm → Prop} {v2 : Int32} {v3 : Int32} {M : Mm} (h : k_M_passes_12 a1 Q KB K38 v2 v3 M) (hKB : ∀ (v2 : Int32) (v3 : Int32)  (M : Mm), KB v2 v3 M → E 12 [(0, rv G 312), (1, .int a1), (2, .int v2), (3, .int v3)] [] M) (hK38 : ∀ (v2 : Int32)  (M : Mm), K38 v2 M → E 38 [(0, rv G 312), (1, .int a1), (2, .int v2)] [] M) : E 12 [(0, rv G 312), (1, .int a1), (2, .int v2), (3, .int v3)] [] M := by
  unfold k_M_passes_12 at h
  refine e_iload_n (pc := 12) hE rfl 3 rfl dX10_passes_12 ?_
  refine e_aload_n (pc := 13) hE rfl 0 rfl dX10_passes_13 ?_
  refine g_Md_n (pc := 14) hE tw_1009 dX10_passes_14 ?_
  refine e_icmp_ge (pc := 17) hE 38 dX10_passes_17 (by decide) (fun c0 => ?_) (fun c0 => ?_)
  · have h := h.1 c0
    refine e_sub hE [0, 1, 2] rfl ?_
    exact hK38 _ _ h
  · have h := h.2 c0
    refine e_aload_n (pc := 20) hE rfl 0 rfl dX10_passes_20 ?_
    refine g_Md_waters (pc := 21) hE tw_1026 dX10_passes_21 ?_
    refine e_iload_n (pc := 24) hE rfl 3 rfl dX10_passes_24 ?_
    refine e_aload_n (pc := 25) hE rfl 0 rfl dX10_passes_25 ?_
    refine e_iload_n (pc := 26) hE rfl 1 rfl dX10_passes_26 ?_
    refine e_iload_n (pc := 27) hE rfl 3 rfl dX10_passes_27 ?_
    refine c_M_waterOf (pc := 28) (d := d + 2) hE (t_M_waterOf (d := d)  h) tw_1288 (Nat.le_of_ble_eq_true rfl) dX10_passes_28 (fun r28 M28 h => ?_)
    refine e_iast (pc := 31) hE ar_328 h.1 dX10_passes_31 ?_
    have h := h.2
    obtain ⟨x32, ex32⟩ : ∃ y : Int32, y = v3 + (1 : Int32) := ⟨_, rfl⟩
    have h := h x32 ex32
    refine e_iinc (pc := 32) (k := 3) (v := x32) (lv' := [(3, .int x32), (0, rv G 312), (1, .int a1), (2, .int v2)]) hE dX10_passes_32 rfl (by rw [ex32, ki_1]) (by decide) rfl ?_
    refine e_goto (pc := 35) hE 12 dX10_passes_35 (by decide) ?_
    refine e_sub hE [1, 2, 3, 0] rfl ?_
    exact hKB _ _ _ h
set_option maxHeartbeats 4000000 in
set_option maxRecDepth 20000 in
theorem w_lp_M_passes_12 {l : Launch} {G : Gs} {d : Nat} {E : EE} {a1 : Int32} {Q : Int32 → Mm → Prop} (hE : Mach l G RX10 cX10_passes 7 (d + 3) E) (hR : RtI cX10_passes E Q)   {K38 : Int32 → Mm → Prop} {n : Nat} {v2 : Int32} {v3 : Int32} {M : Mm} (h : lp_M_passes_12 a1 Q K38 n v2 v3 M) (hK38 : ∀ (v2 : Int32)  (M : Mm), K38 v2 M → E 38 [(0, rv G 312), (1, .int a1), (2, .int v2)] [] M) : E 12 [(0, rv G 312), (1, .int a1), (2, .int v2), (3, .int v3)] [] M := by
  have key : ∀ (n : Nat) (v2 : Int32) (v3 : Int32) (M : Mm), lp_M_passes_12 a1 Q K38 n v2 v3 M → E 12 [(0, rv G 312), (1, .int a1), (2, .int v2), (3, .int v3)] [] M := by
    intro n
    induction n with
    | zero => intro v2 v3 M h; exact h.elim
    | succ n ih => intro v2 v3 M h; exact w_M_passes_12 hE hR  (show k_M_passes_12 a1 Q (lp_M_passes_12 a1 Q K38 n) K38 v2 v3 M from h) ih hK38
  exact key n _ _ _ h
set_option maxHeartbeats 4000000 in
set_option maxRecDepth 20000 in
theorem w_M_passes_287 {l : Launch} {G : Gs} {d : Nat} {E : EE} {a1 : Int32} {Q : Int32 → Mm → Prop} (hE : Mach l G RX10 cX10_passes 7 (d + 3) E) (hR : RtI cX10_passes E Q)   {KB : Int32 → Int32 → Mm → Prop} {K293 : Int32 → Mm → Prop} {v2 : Int32} {v3 : Int32} {M : Mm} (h : k_M_passes_287 a1 Q KB K293 v2 v3 M) (hKB : ∀ (v2 : Int32) (v3 : Int32)  (M : Mm), KB v2 v3 M → E 40 [(0, rv G 312), (1, .int a1), (2, .int v2), (3, .int v3)] [] M) (hK293 : ∀ (v2 : Int32)  (M : Mm), K293 v2 M → E 293 [(0, rv G 312), (2, .int v2)] [] M) : E 287 [(0, rv G 312), (1, .int a1), (2, .int v2), (3, .int v3)] [] M := by
  unfold k_M_passes_287 at h
  obtain ⟨x287, ex287⟩ : ∃ y : Int32, y = v3 + (1 : Int32) := ⟨_, rfl⟩
  have h := h x287 ex287
  refine e_iinc (pc := 287) (k := 3) (v := x287) (lv' := [(3, .int x287), (0, rv G 312), (1, .int a1), (2, .int v2)]) hE dX10_passes_287 rfl (by rw [ex287, ki_1]) (by decide) rfl ?_
  refine e_goto (pc := 290) hE 40 dX10_passes_290 (by decide) ?_
  refine e_sub hE [1, 2, 3, 0] rfl ?_
  exact hKB _ _ _ h
set_option maxHeartbeats 4000000 in
set_option maxRecDepth 20000 in
theorem w_M_passes_227 {l : Launch} {G : Gs} {d : Nat} {E : EE} {a1 : Int32} {Q : Int32 → Mm → Prop} (hE : Mach l G RX10 cX10_passes 7 (d + 3) E) (hR : RtI cX10_passes E Q)   {KB : Int32 → Int32 → Mm → Prop} {K293 : Int32 → Mm → Prop} {v2 : Int32} {v3 : Int32} {s0 : Int32} {M : Mm} (h : k_M_passes_227 a1 Q KB K293 v2 v3 s0 M) (hKB : ∀ (v2 : Int32) (v3 : Int32)  (M : Mm), KB v2 v3 M → E 40 [(0, rv G 312), (1, .int a1), (2, .int v2), (3, .int v3)] [] M) (hK293 : ∀ (v2 : Int32)  (M : Mm), K293 v2 M → E 293 [(0, rv G 312), (2, .int v2)] [] M) : E 227 [(0, rv G 312), (1, .int a1), (2, .int v2), (3, .int v3)] [.int s0] M := by
  unfold k_M_passes_227 at h
  refine e_istore (pc := 227) (lv' := [(6, .int s0), (0, rv G 312), (1, .int a1), (2, .int v2), (3, .int v3)]) hE dX10_passes_227 (by decide) rfl ?_
  refine e_aload_n (pc := 229) hE rfl 1 rfl dX10_passes_229 ?_
  refine g_Md_all (pc := 230) hE tw_1024 dX10_passes_230 ?_
  refine e_iload_n (pc := 233) hE rfl 3 rfl dX10_passes_233 ?_
  refine e_bipush (pc := 234) (v := 10) hE kb_10 dX10_passes_234 ?_
  refine e_iadd (pc := 236) hE dX10_passes_236 ?_
  refine e_iload_n (pc := 237) hE rfl 4 rfl dX10_passes_237 ?_
  refine e_iadd (pc := 238) hE dX10_passes_238 ?_
  refine e_bipush (pc := 239) (v := 9) hE kb_9 dX10_passes_239 ?_
  refine e_iload (pc := 241) hE 0 rfl dX10_passes_241 ?_
  refine c_M_lesser (pc := 243) (d := d + 2 + 0) hE (t_M_lesser (d := d + 2)  h) tw_1328 (Nat.le_of_ble_eq_true rfl) dX10_passes_243 (fun r243 M243 h => ?_)
  refine e_iast (pc := 246) hE ar_327 h.1 dX10_passes_246 ?_
  have h := h.2
  refine e_iload (pc := 247) hE 0 rfl dX10_passes_247 ?_
  refine e_bipush (pc := 249) (v := 9) hE kb_9 dX10_passes_249 ?_
  refine e_icmp_lt (pc := 251) hE 287 dX10_passes_251 (by decide) (fun c0 => ?_) (fun c0 => ?_)
  · have h := h.1 c0
    refine e_sub hE [1, 2, 3, 4] rfl ?_
    exact w_M_passes_287 hE hR h hKB hK293
  · have h := h.2 c0
    refine e_aload_n (pc := 254) hE rfl 1 rfl dX10_passes_254 ?_
    refine g_Md_all (pc := 255) hE tw_1024 dX10_passes_255 ?_
    refine e_iload_n (pc := 258) hE rfl 3 rfl dX10_passes_258 ?_
    refine e_bipush (pc := 259) (v := 25) hE kb_25 dX10_passes_259 ?_
    refine e_iadd (pc := 261) hE dX10_passes_261 ?_
    refine e_iload_n (pc := 262) hE rfl 4 rfl dX10_passes_262 ?_
    refine e_iadd (pc := 263) hE dX10_passes_263 ?_
    refine e_iconst (pc := 264) (v := 1) hE ki_1 dX10_passes_264 ?_
    refine e_iast (pc := 265) hE ar_327 h.1 dX10_passes_265 ?_
    have h := h.2
    refine e_aload_n (pc := 266) hE rfl 1 rfl dX10_passes_266 ?_
    refine g_Md_all (pc := 267) hE tw_1024 dX10_passes_267 ?_
    refine e_iload_n (pc := 270) hE rfl 3 rfl dX10_passes_270 ?_
    refine e_bipush (pc := 271) (v := 20) hE kb_20 dX10_passes_271 ?_
    refine e_iadd (pc := 273) hE dX10_passes_273 ?_
    refine e_iload_n (pc := 274) hE rfl 4 rfl dX10_passes_274 ?_
    refine e_iadd (pc := 275) hE dX10_passes_275 ?_
    refine e_iconst (pc := 276) (v := 0) hE ki_0 dX10_passes_276 ?_
    refine e_iast (pc := 277) hE ar_327 h.1 dX10_passes_277 ?_
    have h := h.2
    refine e_aload_n (pc := 278) hE rfl 1 rfl dX10_passes_278 ?_
    refine g_Md_all (pc := 279) hE tw_1024 dX10_passes_279 ?_
    refine e_iload_n (pc := 282) hE rfl 3 rfl dX10_passes_282 ?_
    refine e_iload_n (pc := 283) hE rfl 4 rfl dX10_passes_283 ?_
    refine e_iadd (pc := 284) hE dX10_passes_284 ?_
    refine e_iconst (pc := 285) (v := 0) hE ki_0 dX10_passes_285 ?_
    refine e_iast (pc := 286) hE ar_327 h.1 dX10_passes_286 ?_
    have h := h.2
    refine e_sub hE [1, 2, 3, 4] rfl ?_
    exact w_M_passes_287 hE hR h hKB hK293
set_option maxHeartbeats 4000000 in
set_option maxRecDepth 20000 in
theorem w_M_passes_226 {l : Launch} {G : Gs} {d : Nat} {E : EE} {a1 : Int32} {Q : Int32 → Mm → Prop} (hE : Mach l G RX10 cX10_passes 7 (d + 3) E) (hR : RtI cX10_passes E Q)   {KB : Int32 → Int32 → Mm → Prop} {K293 : Int32 → Mm → Prop} {v2 : Int32} {v3 : Int32} {s0 : Int32} {s1 : Int32} {M : Mm} (h : k_M_passes_226 a1 Q KB K293 v2 v3 s0 s1 M) (hKB : ∀ (v2 : Int32) (v3 : Int32)  (M : Mm), KB v2 v3 M → E 40 [(0, rv G 312), (1, .int a1), (2, .int v2), (3, .int v3)] [] M) (hK293 : ∀ (v2 : Int32)  (M : Mm), K293 v2 M → E 293 [(0, rv G 312), (2, .int v2)] [] M) : E 226 [(0, rv G 312), (1, .int a1), (2, .int v2), (3, .int v3)] [.int s0, .int s1] M := by
  unfold k_M_passes_226 at h
  refine e_iadd (pc := 226) hE dX10_passes_226 ?_
  exact w_M_passes_227 hE hR h hKB hK293
set_option maxHeartbeats 4000000 in
set_option maxRecDepth 20000 in
theorem w_M_passes_177 {l : Launch} {G : Gs} {d : Nat} {E : EE} {a1 : Int32} {Q : Int32 → Mm → Prop} (hE : Mach l G RX10 cX10_passes 7 (d + 3) E) (hR : RtI cX10_passes E Q)   {KB : Int32 → Int32 → Mm → Prop} {K293 : Int32 → Mm → Prop} {v2 : Int32} {v3 : Int32} {s0 : Int32} {s1 : Int32} {M : Mm} (h : k_M_passes_177 a1 Q KB K293 v2 v3 s0 s1 M) (hKB : ∀ (v2 : Int32) (v3 : Int32)  (M : Mm), KB v2 v3 M → E 40 [(0, rv G 312), (1, .int a1), (2, .int v2), (3, .int v3)] [] M) (hK293 : ∀ (v2 : Int32)  (M : Mm), K293 v2 M → E 293 [(0, rv G 312), (2, .int v2)] [] M) : E 177 [(0, rv G 312), (1, .int a1), (2, .int v2), (3, .int v3)] [.int s0, .int s1, rv G 327] M := by
  unfold k_M_passes_177 at h
  refine e_iast (pc := 177) hE ar_327 h.1 dX10_passes_177 ?_
  have h := h.2
  refine e_aload_n (pc := 178) hE rfl 0 rfl dX10_passes_178 ?_
  refine g_Md_all (pc := 179) hE tw_1024 dX10_passes_179 ?_
  refine e_iload_n (pc := 182) hE rfl 2 rfl dX10_passes_182 ?_
  refine e_bipush (pc := 183) (v := 10) hE kb_10 dX10_passes_183 ?_
  refine e_iadd (pc := 185) hE dX10_passes_185 ?_
  refine e_iload_n (pc := 186) hE rfl 3 rfl dX10_passes_186 ?_
  refine e_iadd (pc := 187) hE dX10_passes_187 ?_
  refine e_iald (pc := 188) hE ar_327 h.1 dX10_passes_188 ?_
  have h := h.2
  refine e_topi (fun x189 ex189 => ?_)
  have h := h x189 ex189
  refine e_istore (pc := 189) (lv' := [(6, .int x189), (0, rv G 312), (1, .int a1), (2, .int v2), (3, .int v3)]) hE dX10_passes_189 (by decide) rfl ?_
  refine e_aload_n (pc := 191) hE rfl 1 rfl dX10_passes_191 ?_
  refine e_iload_n (pc := 192) hE rfl 2 rfl dX10_passes_192 ?_
  refine e_iload_n (pc := 193) hE rfl 4 rfl dX10_passes_193 ?_
  refine c_M_isOpen (pc := 194) (d := d + 2 + 0) hE (t_M_isOpen (d := d + 2)  h) tw_1269 (Nat.le_of_ble_eq_true rfl) dX10_passes_194 (fun r194 M194 h => ?_)
  refine e_if_eq (pc := 197) hE 211 dX10_passes_197 (by decide) (fun c0 => ?_) (fun c0 => ?_)
  · have h := h.1 c0
    refine e_iload (pc := 211) hE 0 rfl dX10_passes_211 ?_
    refine e_aload_n (pc := 213) hE rfl 1 rfl dX10_passes_213 ?_
    refine e_iload_n (pc := 214) hE rfl 4 rfl dX10_passes_214 ?_
    refine c_M_isSilty (pc := 215) (d := d + 2 + 0) hE (t_M_isSilty (d := d + 2)  h) tw_1331 (Nat.le_of_ble_eq_true rfl) dX10_passes_215 (fun r215 M215 h => ?_)
    refine e_if_eq (pc := 218) hE 225 dX10_passes_218 (by decide) (fun c0 => ?_) (fun c0 => ?_)
    · have h := h.1 c0
      refine e_iconst (pc := 225) (v := 1) hE ki_1 dX10_passes_225 ?_
      refine e_sub hE [1, 2, 3, 4] rfl ?_
      exact w_M_passes_226 hE hR h hKB hK293
    · have h := h.2 c0
      refine e_iconst (pc := 221) (v := 2) hE ki_2 dX10_passes_221 ?_
      refine e_goto (pc := 222) hE 226 dX10_passes_222 (by decide) ?_
      refine e_sub hE [1, 2, 3, 4] rfl ?_
      exact w_M_passes_226 hE hR h hKB hK293
  · have h := h.2 c0
    refine e_iconst (pc := 200) (v := 0) hE ki_0 dX10_passes_200 ?_
    refine e_iload (pc := 201) hE 0 rfl dX10_passes_201 ?_
    refine e_iconst (pc := 203) (v := 1) hE ki_1 dX10_passes_203 ?_
    refine e_isub (pc := 204) hE dX10_passes_204 ?_
    refine c_M_greater (pc := 205) (d := d + 2 + 0) hE (t_M_greater (d := d + 2)  h) tw_1285 (Nat.le_of_ble_eq_true rfl) dX10_passes_205 (fun r205 M205 h => ?_)
    refine e_goto (pc := 208) hE 227 dX10_passes_208 (by decide) ?_
    refine e_sub hE [1, 2, 3, 4] rfl ?_
    exact w_M_passes_227 hE hR h hKB hK293
set_option maxHeartbeats 4000000 in
set_option maxRecDepth 20000 in
theorem w_M_passes_173 {l : Launch} {G : Gs} {d : Nat} {E : EE} {a1 : Int32} {Q : Int32 → Mm → Prop} (hE : Mach l G RX10 cX10_passes 7 (d + 3) E) (hR : RtI cX10_passes E Q)   {KB : Int32 → Int32 → Mm → Prop} {K293 : Int32 → Mm → Prop} {v2 : Int32} {v3 : Int32} {s0 : Int32} {s1 : Int32} {s2 : Int32} {s3 : Int32} {M : Mm} (h : k_M_passes_173 a1 Q KB K293 v2 v3 s0 s1 s2 s3 M) (hKB : ∀ (v2 : Int32) (v3 : Int32)  (M : Mm), KB v2 v3 M → E 40 [(0, rv G 312), (1, .int a1), (2, .int v2), (3, .int v3)] [] M) (hK293 : ∀ (v2 : Int32)  (M : Mm), K293 v2 M → E 293 [(0, rv G 312), (2, .int v2)] [] M) : E 173 [(0, rv G 312), (1, .int a1), (2, .int v2), (3, .int v3)] [.int s0, .int s1, .int s2, .int s3, rv G 327] M := by
  unfold k_M_passes_173 at h
  refine e_iadd (pc := 173) hE dX10_passes_173 ?_
  refine c_M_lesser (pc := 174) (d := d + 2 + 0) hE (t_M_lesser (d := d + 2)  h) tw_1328 (Nat.le_of_ble_eq_true rfl) dX10_passes_174 (fun r174 M174 h => ?_)
  exact w_M_passes_177 hE hR h hKB hK293
set_option maxHeartbeats 4000000 in
set_option maxRecDepth 20000 in
theorem w_M_passes_129 {l : Launch} {G : Gs} {d : Nat} {E : EE} {a1 : Int32} {Q : Int32 → Mm → Prop} (hE : Mach l G RX10 cX10_passes 7 (d + 3) E) (hR : RtI cX10_passes E Q)   {KB : Int32 → Int32 → Mm → Prop} {K293 : Int32 → Mm → Prop} {v2 : Int32} {v3 : Int32} {v4 : Int32} {v5 : Int32} {M : Mm} (h : k_M_passes_129 a1 Q KB K293 v2 v3 v4 v5 M) (hKB : ∀ (v2 : Int32) (v3 : Int32)  (M : Mm), KB v2 v3 M → E 40 [(0, rv G 312), (1, .int a1), (2, .int v2), (3, .int v3)] [] M) (hK293 : ∀ (v2 : Int32)  (M : Mm), K293 v2 M → E 293 [(0, rv G 312), (2, .int v2)] [] M) : E 129 [(0, rv G 312), (1, .int a1), (2, .int v2), (3, .int v3), (4, .int v4), (5, .int v5)] [] M := by
  unfold k_M_passes_129 at h
  refine e_aload_n (pc := 129) hE rfl 0 rfl dX10_passes_129 ?_
  refine g_Md_all (pc := 130) hE tw_1024 dX10_passes_130 ?_
  refine e_iload_n (pc := 133) hE rfl 2 rfl dX10_passes_133 ?_
  refine e_iconst (pc := 134) (v := 5) hE ki_5 dX10_passes_134 ?_
  refine e_iadd (pc := 135) hE dX10_passes_135 ?_
  refine e_iload_n (pc := 136) hE rfl 3 rfl dX10_passes_136 ?_
  refine e_iadd (pc := 137) hE dX10_passes_137 ?_
  refine e_iload (pc := 138) hE 4 rfl dX10_passes_138 ?_
  refine e_if_eq (pc := 140) hE 154 dX10_passes_140 (by decide) (fun c0 => ?_) (fun c0 => ?_)
  · have h := h.1 c0
    refine e_bipush (pc := 154) (v := 9) hE kb_9 dX10_passes_154 ?_
    refine e_iload (pc := 156) hE 5 rfl dX10_passes_156 ?_
    refine e_aload_n (pc := 158) hE rfl 0 rfl dX10_passes_158 ?_
    refine g_Md_kinds (pc := 159) hE tw_1011 dX10_passes_159 ?_
    refine e_iload_n (pc := 162) hE rfl 3 rfl dX10_passes_162 ?_
    refine e_iald (pc := 163) hE ar_319 h.1 dX10_passes_163 ?_
    have h := h.2
    refine e_iconst (pc := 164) (v := 1) hE ki_1 dX10_passes_164 ?_
    refine e_icmp_ne (pc := 165) hE 172 dX10_passes_165 (by decide) (fun c0 => ?_) (fun c0 => ?_)
    · have h := h.1 c0
      refine e_iconst (pc := 172) (v := 1) hE ki_1 dX10_passes_172 ?_
      refine e_sub hE [0, 1, 2, 3] rfl ?_
      exact w_M_passes_173 hE hR h hKB hK293
    · have h := h.2 c0
      refine e_iconst (pc := 168) (v := 2) hE ki_2 dX10_passes_168 ?_
      refine e_goto (pc := 169) hE 173 dX10_passes_169 (by decide) ?_
      refine e_sub hE [0, 1, 2, 3] rfl ?_
      exact w_M_passes_173 hE hR h hKB hK293
  · have h := h.2 c0
    refine e_iconst (pc := 143) (v := 0) hE ki_0 dX10_passes_143 ?_
    refine e_iload (pc := 144) hE 5 rfl dX10_passes_144 ?_
    refine e_iconst (pc := 146) (v := 1) hE ki_1 dX10_passes_146 ?_
    refine e_isub (pc := 147) hE dX10_passes_147 ?_
    refine c_M_greater (pc := 148) (d := d + 2 + 0) hE (t_M_greater (d := d + 2)  h) tw_1285 (Nat.le_of_ble_eq_true rfl) dX10_passes_148 (fun r148 M148 h => ?_)
    refine e_goto (pc := 151) hE 177 dX10_passes_151 (by decide) ?_
    refine e_sub hE [0, 1, 2, 3] rfl ?_
    exact w_M_passes_177 hE hR h hKB hK293
set_option maxHeartbeats 4000000 in
set_option maxRecDepth 20000 in
theorem w_M_passes_68 {l : Launch} {G : Gs} {d : Nat} {E : EE} {a1 : Int32} {Q : Int32 → Mm → Prop} (hE : Mach l G RX10 cX10_passes 7 (d + 3) E) (hR : RtI cX10_passes E Q)   {KB : Int32 → Int32 → Mm → Prop} {K293 : Int32 → Mm → Prop} {v2 : Int32} {v3 : Int32} {s0 : Int32} {M : Mm} (h : k_M_passes_68 a1 Q KB K293 v2 v3 s0 M) (hKB : ∀ (v2 : Int32) (v3 : Int32)  (M : Mm), KB v2 v3 M → E 40 [(0, rv G 312), (1, .int a1), (2, .int v2), (3, .int v3)] [] M) (hK293 : ∀ (v2 : Int32)  (M : Mm), K293 v2 M → E 293 [(0, rv G 312), (2, .int v2)] [] M) : E 68 [(0, rv G 312), (1, .int a1), (2, .int v2), (3, .int v3)] [.int s0] M := by
  unfold k_M_passes_68 at h
  refine e_istore (pc := 68) (lv' := [(4, .int s0), (0, rv G 312), (1, .int a1), (2, .int v2), (3, .int v3)]) hE dX10_passes_68 (by decide) rfl ?_
  refine e_aload_n (pc := 70) hE rfl 1 rfl dX10_passes_70 ?_
  refine g_Md_all (pc := 71) hE tw_1024 dX10_passes_71 ?_
  refine e_iload_n (pc := 74) hE rfl 3 rfl dX10_passes_74 ?_
  refine e_iconst (pc := 75) (v := 5) hE ki_5 dX10_passes_75 ?_
  refine e_iadd (pc := 76) hE dX10_passes_76 ?_
  refine e_iload_n (pc := 77) hE rfl 4 rfl dX10_passes_77 ?_
  refine e_iadd (pc := 78) hE dX10_passes_78 ?_
  refine e_iald (pc := 79) hE ar_327 h.1 dX10_passes_79 ?_
  have h := h.2
  refine e_topi (fun x80 ex80 => ?_)
  have h := h x80 ex80
  refine e_istore (pc := 80) (lv' := [(5, .int x80), (4, .int s0), (0, rv G 312), (1, .int a1), (2, .int v2), (3, .int v3)]) hE dX10_passes_80 (by decide) rfl ?_
  refine e_iload (pc := 82) hE 1 rfl dX10_passes_82 ?_
  refine e_if_eq (pc := 84) hE 129 dX10_passes_84 (by decide) (fun c0 => ?_) (fun c0 => ?_)
  · have h := h.1 c0
    refine e_sub hE [2, 3, 4, 5, 1, 0] rfl ?_
    exact w_M_passes_129 hE hR h hKB hK293
  · have h := h.2 c0
    refine e_aload_n (pc := 87) hE rfl 2 rfl dX10_passes_87 ?_
    refine e_iload_n (pc := 88) hE rfl 3 rfl dX10_passes_88 ?_
    refine e_iload_n (pc := 89) hE rfl 5 rfl dX10_passes_89 ?_
    refine c_M_isDead (pc := 90) (d := d + 2 + 0) hE (t_M_isDead (d := d + 2)  h) tw_1265 (Nat.le_of_ble_eq_true rfl) dX10_passes_90 (fun r90 M90 h => ?_)
    refine e_if_ne (pc := 93) hE 129 dX10_passes_93 (by decide) (fun c0 => ?_) (fun c0 => ?_)
    · have h := h.1 c0
      refine e_sub hE [2, 3, 4, 5, 1, 0] rfl ?_
      exact w_M_passes_129 hE hR h hKB hK293
    · have h := h.2 c0
      refine e_iload (pc := 96) hE 0 rfl dX10_passes_96 ?_
      refine e_iconst (pc := 98) (v := 4) hE ki_4 dX10_passes_98 ?_
      refine e_icmp_gt (pc := 99) hE 129 dX10_passes_99 (by decide) (fun c0 => ?_) (fun c0 => ?_)
      · have h := h.1 c0
        refine e_sub hE [2, 3, 4, 5, 1, 0] rfl ?_
        exact w_M_passes_129 hE hR h hKB hK293
      · have h := h.2 c0
        refine e_aload_n (pc := 102) hE rfl 2 rfl dX10_passes_102 ?_
        refine e_dup (pc := 103) hE rfl dX10_passes_103 ?_
        refine g_Md_inSet (pc := 104) hE tw_1025 dX10_passes_104 ?_
        refine e_iconst (pc := 107) (v := 1) hE ki_1 dX10_passes_107 ?_
        refine e_iload_n (pc := 108) hE rfl 5 rfl dX10_passes_108 ?_
        refine e_ishl (pc := 109) hE dX10_passes_109 ?_
        refine e_ior (pc := 110) hE dX10_passes_110 ?_
        refine e_topi (fun x111 ex111 => ?_)
        have h := h x111 ex111
        refine p_Md_inSet (pc := 111) hE tw_1025 dX10_passes_111 ?_
        refine e_aload_n (pc := 114) hE rfl 2 rfl dX10_passes_114 ?_
        refine g_Md_all (pc := 115) hE tw_1024 dX10_passes_115 ?_
        refine e_iload_n (pc := 118) hE rfl 4 rfl dX10_passes_118 ?_
        refine e_bipush (pc := 119) (v := 15) hE kb_15 dX10_passes_119 ?_
        refine e_iadd (pc := 121) hE dX10_passes_121 ?_
        refine e_iload_n (pc := 122) hE rfl 5 rfl dX10_passes_122 ?_
        refine e_iadd (pc := 123) hE dX10_passes_123 ?_
        refine e_dup2 (pc := 124) hE rfl rfl dX10_passes_124 ?_
        refine e_iald (pc := 125) hE ar_327 h.1 dX10_passes_125 ?_
        have h := h.2
        refine e_iconst (pc := 126) (v := 1) hE ki_1 dX10_passes_126 ?_
        refine e_iadd (pc := 127) hE dX10_passes_127 ?_
        refine e_topi (fun x128 ex128 => ?_)
        have h := h x128 ex128
        refine e_iast (pc := 128) hE ar_327 h.1 dX10_passes_128 ?_
        have h := h.2
        refine e_sub hE [2, 3, 4, 5, 1, 0] rfl ?_
        exact w_M_passes_129 hE hR h hKB hK293
set_option maxHeartbeats 4000000 in
set_option maxRecDepth 20000 in
theorem w_M_passes_40 {l : Launch} {G : Gs} {d : Nat} {E : EE} {a1 : Int32} {Q : Int32 → Mm → Prop} (hE : Mach l G RX10 cX10_passes 7 (d + 3) E) (hR : RtI cX10_passes E Q)   {KB : Int32 → Int32 → Mm → Prop} {K293 : Int32 → Mm → Prop} {v2 : Int32} {v3 : Int32} {M : Mm} (h : k_M_passes_40 a1 Q KB K293 v2 v3 M) (hKB : ∀ (v2 : Int32) (v3 : Int32)  (M : Mm), KB v2 v3 M → E 40 [(0, rv G 312), (1, .int a1), (2, .int v2), (3, .int v3)] [] M) (hK293 : ∀ (v2 : Int32)  (M : Mm), K293 v2 M → E 293 [(0, rv G 312), (2, .int v2)] [] M) : E 40 [(0, rv G 312), (1, .int a1), (2, .int v2), (3, .int v3)] [] M := by
  unfold k_M_passes_40 at h
  refine e_iload_n (pc := 40) hE rfl 3 rfl dX10_passes_40 ?_
  refine e_aload_n (pc := 41) hE rfl 0 rfl dX10_passes_41 ?_
  refine g_Md_n (pc := 42) hE tw_1009 dX10_passes_42 ?_
  refine e_icmp_ge (pc := 45) hE 293 dX10_passes_45 (by decide) (fun c0 => ?_) (fun c0 => ?_)
  · have h := h.1 c0
    refine e_sub hE [0, 2] rfl ?_
    exact hK293 _ _ h
  · have h := h.2 c0
    refine e_aload_n (pc := 48) hE rfl 0 rfl dX10_passes_48 ?_
    refine g_Md_waters (pc := 49) hE tw_1026 dX10_passes_49 ?_
    refine e_iload_n (pc := 52) hE rfl 3 rfl dX10_passes_52 ?_
    refine e_iald (pc := 53) hE ar_328 h.1 dX10_passes_53 ?_
    have h := h.2
    refine e_aload_n (pc := 54) hE rfl 0 rfl dX10_passes_54 ?_
    refine g_Md_needs (pc := 55) hE tw_1013 dX10_passes_55 ?_
    refine e_iload_n (pc := 58) hE rfl 3 rfl dX10_passes_58 ?_
    refine e_iald (pc := 59) hE ar_321 h.1 dX10_passes_59 ?_
    have h := h.2
    refine e_icmp_lt (pc := 60) hE 67 dX10_passes_60 (by decide) (fun c0 => ?_) (fun c0 => ?_)
    · have h := h.1 c0
      refine e_iconst (pc := 67) (v := 0) hE ki_0 dX10_passes_67 ?_
      exact w_M_passes_68 hE hR h hKB hK293
    · have h := h.2 c0
      refine e_iconst (pc := 63) (v := 1) hE ki_1 dX10_passes_63 ?_
      refine e_goto (pc := 64) hE 68 dX10_passes_64 (by decide) ?_
      exact w_M_passes_68 hE hR h hKB hK293
set_option maxHeartbeats 4000000 in
set_option maxRecDepth 20000 in
theorem w_lp_M_passes_40 {l : Launch} {G : Gs} {d : Nat} {E : EE} {a1 : Int32} {Q : Int32 → Mm → Prop} (hE : Mach l G RX10 cX10_passes 7 (d + 3) E) (hR : RtI cX10_passes E Q)   {K293 : Int32 → Mm → Prop} {n : Nat} {v2 : Int32} {v3 : Int32} {M : Mm} (h : lp_M_passes_40 a1 Q K293 n v2 v3 M) (hK293 : ∀ (v2 : Int32)  (M : Mm), K293 v2 M → E 293 [(0, rv G 312), (2, .int v2)] [] M) : E 40 [(0, rv G 312), (1, .int a1), (2, .int v2), (3, .int v3)] [] M := by
  have key : ∀ (n : Nat) (v2 : Int32) (v3 : Int32) (M : Mm), lp_M_passes_40 a1 Q K293 n v2 v3 M → E 40 [(0, rv G 312), (1, .int a1), (2, .int v2), (3, .int v3)] [] M := by
    intro n
    induction n with
    | zero => intro v2 v3 M h; exact h.elim
    | succ n ih => intro v2 v3 M h; exact w_M_passes_40 hE hR  (show k_M_passes_40 a1 Q (lp_M_passes_40 a1 Q K293 n) K293 v2 v3 M from h) ih hK293
  exact key n _ _ _ h
set_option maxHeartbeats 4000000 in
set_option maxRecDepth 20000 in
theorem t_M_passes {l : Launch} {G : Gs} {d : Nat} {a1 : Int32} {M : Mm} {Q : Int32 → Mm → Prop}  (h : wp_M_passes a1 M Q) : CtI l G (d + 3) yX10_passes cX10_passes 7 (some .int) [rv G 312, .int a1] M Q := by
  refine CtI.mk (by decide) rfl (Nat.le_of_ble_eq_true rfl) (fun E hE hR => ?_)
  show E 0 [(0, rv G 312), (1, .int a1)] [] M
  unfold wp_M_passes at h
  refine e_bipush (pc := 0) (v := 31) hE kb_31 dX10_passes_0 ?_
  refine e_iload_n (pc := 2) hE rfl 1 rfl dX10_passes_2 ?_
  refine e_imul (pc := 3) hE dX10_passes_3 ?_
  refine e_topi (fun x4 ex4 => ?_)
  have h := h x4 ex4
  refine e_istore_n (pc := 4) (lv' := [(2, .int x4), (0, rv G 312), (1, .int a1)]) hE dX10_passes_4 rfl (by decide) rfl ?_
  refine e_aload_n (pc := 5) hE rfl 1 rfl dX10_passes_5 ?_
  refine e_iconst (pc := 6) (v := 0) hE ki_0 dX10_passes_6 ?_
  refine p_Md_inSet (pc := 7) hE tw_1025 dX10_passes_7 ?_
  refine e_iconst (pc := 10) (v := 0) hE ki_0 dX10_passes_10 ?_
  refine e_istore_n (pc := 11) (lv' := [(3, .int (0 : Int32)), (2, .int x4), (0, rv G 312), (1, .int a1)]) hE dX10_passes_11 rfl (by decide) rfl ?_
  obtain ⟨n, h⟩ := h
  refine e_sub hE [2, 3, 1, 0] rfl ?_
  refine w_lp_M_passes_12 hE hR  h (fun v2 M h => ?_)
  refine e_iconst (pc := 38) (v := 0) hE ki_0 dX10_passes_38 ?_
  refine e_istore_n (pc := 39) (lv' := [(3, .int (0 : Int32)), (0, rv G 312), (1, .int a1), (2, .int v2)]) hE dX10_passes_39 rfl (by decide) rfl ?_
  obtain ⟨n, h⟩ := h
  refine e_sub hE [1, 2, 3, 0] rfl ?_
  refine w_lp_M_passes_40 hE hR  h (fun v2 M h => ?_)
  refine e_aload_n (pc := 293) hE rfl 0 rfl dX10_passes_293 ?_
  refine g_Md_all (pc := 294) hE tw_1024 dX10_passes_294 ?_
  refine e_iload_n (pc := 297) hE rfl 1 rfl dX10_passes_297 ?_
  refine e_bipush (pc := 298) (v := 30) hE kb_30 dX10_passes_298 ?_
  refine e_iadd (pc := 300) hE dX10_passes_300 ?_
  refine e_dup2 (pc := 301) hE rfl rfl dX10_passes_301 ?_
  refine e_iald (pc := 302) hE ar_327 h.1 dX10_passes_302 ?_
  have h := h.2
  refine e_iconst (pc := 303) (v := 1) hE ki_1 dX10_passes_303 ?_
  refine e_iadd (pc := 304) hE dX10_passes_304 ?_
  refine e_topi (fun x305 ex305 => ?_)
  have h := h x305 ex305
  refine e_iast (pc := 305) hE ar_327 h.1 dX10_passes_305 ?_
  have h := h.2
  refine e_aload_n (pc := 306) hE rfl 0 rfl dX10_passes_306 ?_
  refine g_Md_inSet (pc := 307) hE tw_1025 dX10_passes_307 ?_
  refine c_M_bits (pc := 310) (d := d + 2 + 0) hE (t_M_bits (d := d + 2)  h) tw_1335 (Nat.le_of_ble_eq_true rfl) dX10_passes_310 (fun r310 M310 h => ?_)
  exact hR dX10_passes_313 h
set_option maxHeartbeats 4000000 in
set_option maxRecDepth 20000 in
theorem t_M_season {l : Launch} {G : Gs} {d : Nat}  {M : Mm} {Q : Int32 → Mm → Prop}  (h : wp_M_season  M Q) : CtI l G (d + 4) yX10_season cX10_season 2 (some .int) [rv G 312] M Q := by
  refine CtI.mk (by decide) rfl (Nat.le_of_ble_eq_true rfl) (fun E hE hR => ?_)
  show E 0 [(0, rv G 312)] [] M
  unfold wp_M_season at h
  refine e_aload_n (pc := 0) hE rfl 0 rfl dX10_season_0 ?_
  refine g_Md_n (pc := 1) hE tw_1009 dX10_season_1 ?_
  refine e_if_ne (pc := 4) hE 10 dX10_season_4 (by decide) (fun c0 => ?_) (fun c0 => ?_)
  · have h := h.1 c0
    refine e_aload_n (pc := 10) hE rfl 0 rfl dX10_season_10 ?_
    refine g_Md_deedMany (pc := 11) hE tw_1027 dX10_season_11 ?_
    refine e_bipush (pc := 14) (v := 60) hE kb_60 dX10_season_14 ?_
    refine e_icmp_ne (pc := 16) hE 22 dX10_season_16 (by decide) (fun c0 => ?_) (fun c0 => ?_)
    · have h := h.1 c0
      refine e_aload_n (pc := 22) hE rfl 0 rfl dX10_season_22 ?_
      refine c_M_remember (pc := 23) (d := d + 3 + 0) hE (t_M_remember (d := d + 3)  h) tw_1312 (Nat.le_of_ble_eq_true rfl) dX10_season_23 (fun M23 h => ?_)
      refine e_aload_n (pc := 26) hE rfl 0 rfl dX10_season_26 ?_
      refine e_iconst (pc := 27) (v := 0) hE ki_0 dX10_season_27 ?_
      refine c_M_passes (pc := 28) (d := d + 3) hE (t_M_passes (d := d)  h) tw_1324 (Nat.le_of_ble_eq_true rfl) dX10_season_28 (fun r28 M28 h => ?_)
      refine e_istore_n (pc := 31) (lv' := [(1, .int r28), (0, rv G 312)]) hE dX10_season_31 rfl (by decide) rfl ?_
      refine e_aload_n (pc := 32) hE rfl 1 rfl dX10_season_32 ?_
      refine e_aload_n (pc := 33) hE rfl 1 rfl dX10_season_33 ?_
      refine g_Md_inSet (pc := 34) hE tw_1025 dX10_season_34 ?_
      refine e_iload_n (pc := 37) hE rfl 0 rfl dX10_season_37 ?_
      refine c_M_tells (pc := 38) (d := d + 3 + 0) hE (t_M_tells (d := d + 3)  h) tw_1176 (Nat.le_of_ble_eq_true rfl) dX10_season_38 (fun r38 M38 h => ?_)
      exact hR dX10_season_41 h
    · have h := h.2 c0
      refine e_bipush (pc := 19) (v := -2) hE kb_m2 dX10_season_19 ?_
      exact hR dX10_season_21 h
  · have h := h.2 c0
    refine e_bipush (pc := 7) (v := -4) hE kb_m4 dX10_season_7 ?_
    exact hR dX10_season_9 h
set_option maxHeartbeats 4000000 in
set_option maxRecDepth 20000 in
theorem t_M_leaves {l : Launch} {G : Gs} {d : Nat} {a1 : Int32} {a2 : Int32} {M : Mm} {Q : Mm → Prop}  (h : wp_M_leaves a1 a2 M Q) : CtV l G (d + 0) yX10_leaves cX10_leaves 3 (none) [rv G 312, .int a1, .int a2] M Q := by
  refine CtV.mk (by decide) rfl (Nat.le_of_ble_eq_true rfl) (fun E hE hR => ?_)
  show E 0 [(0, rv G 312), (1, .int a1), (2, .int a2)] [] M
  unfold wp_M_leaves at h
  refine e_aload_n (pc := 0) hE rfl 0 rfl dX10_leaves_0 ?_
  refine g_Md_all (pc := 1) hE tw_1024 dX10_leaves_1 ?_
  refine e_bipush (pc := 4) (v := 31) hE kb_31 dX10_leaves_4 ?_
  refine e_iload_n (pc := 6) hE rfl 1 rfl dX10_leaves_6 ?_
  refine e_imul (pc := 7) hE dX10_leaves_7 ?_
  refine e_bipush (pc := 8) (v := 20) hE kb_20 dX10_leaves_8 ?_
  refine e_iadd (pc := 10) hE dX10_leaves_10 ?_
  refine e_iload_n (pc := 11) hE rfl 2 rfl dX10_leaves_11 ?_
  refine e_iadd (pc := 12) hE dX10_leaves_12 ?_
  refine e_iconst (pc := 13) (v := 0) hE ki_0 dX10_leaves_13 ?_
  refine e_iast (pc := 14) hE ar_327 h.1 dX10_leaves_14 ?_
  have h := h.2
  refine e_aload_n (pc := 15) hE rfl 0 rfl dX10_leaves_15 ?_
  refine g_Md_all (pc := 16) hE tw_1024 dX10_leaves_16 ?_
  refine e_bipush (pc := 19) (v := 31) hE kb_31 dX10_leaves_19 ?_
  refine e_iload_n (pc := 21) hE rfl 1 rfl dX10_leaves_21 ?_
  refine e_imul (pc := 22) hE dX10_leaves_22 ?_
  refine e_iload_n (pc := 23) hE rfl 2 rfl dX10_leaves_23 ?_
  refine e_iadd (pc := 24) hE dX10_leaves_24 ?_
  refine e_iconst (pc := 25) (v := 0) hE ki_0 dX10_leaves_25 ?_
  refine e_iast (pc := 26) hE ar_327 h.1 dX10_leaves_26 ?_
  have h := h.2
  exact hR dX10_leaves_27 h
set_option maxHeartbeats 4000000 in
set_option maxRecDepth 20000 in
theorem t_M_leave {l : Launch} {G : Gs} {d : Nat} {a1 : Int32} {M : Mm} {Q : Int32 → Mm → Prop}  (h : wp_M_leave a1 M Q) : CtI l G (d + 2) yX10_leave cX10_leave 2 (some .int) [rv G 312, .int a1] M Q := by
  refine CtI.mk (by decide) rfl (Nat.le_of_ble_eq_true rfl) (fun E hE hR => ?_)
  show E 0 [(0, rv G 312), (1, .int a1)] [] M
  unfold wp_M_leave at h
  refine e_aload_n (pc := 0) hE rfl 0 rfl dX10_leave_0 ?_
  refine e_iload_n (pc := 1) hE rfl 1 rfl dX10_leave_1 ?_
  refine c_M_isArm (pc := 2) (d := d + 1) hE (t_M_isArm (d := d)  h) tw_1253 (Nat.le_of_ble_eq_true rfl) dX10_leave_2 (fun r2 M2 h => ?_)
  refine e_if_ne (pc := 5) hE 10 dX10_leave_5 (by decide) (fun c0 => ?_) (fun c0 => ?_)
  · have h := h.1 c0
    refine e_aload_n (pc := 10) hE rfl 0 rfl dX10_leave_10 ?_
    refine e_iconst (pc := 11) (v := 0) hE ki_0 dX10_leave_11 ?_
    refine e_iload_n (pc := 12) hE rfl 1 rfl dX10_leave_12 ?_
    refine c_M_isBarge (pc := 13) (d := d + 1 + 0) hE (t_M_isBarge (d := d + 1)  h) tw_1273 (Nat.le_of_ble_eq_true rfl) dX10_leave_13 (fun r13 M13 h => ?_)
    refine e_if_ne (pc := 16) hE 22 dX10_leave_16 (by decide) (fun c0 => ?_) (fun c0 => ?_)
    · have h := h.1 c0
      refine e_aload_n (pc := 22) hE rfl 0 rfl dX10_leave_22 ?_
      refine g_Md_deedMany (pc := 23) hE tw_1027 dX10_leave_23 ?_
      refine e_bipush (pc := 26) (v := 60) hE kb_60 dX10_leave_26 ?_
      refine e_icmp_ne (pc := 28) hE 34 dX10_leave_28 (by decide) (fun c0 => ?_) (fun c0 => ?_)
      · have h := h.1 c0
        refine e_aload_n (pc := 34) hE rfl 0 rfl dX10_leave_34 ?_
        refine c_M_remember (pc := 35) (d := d + 1 + 0) hE (t_M_remember (d := d + 1)  h) tw_1312 (Nat.le_of_ble_eq_true rfl) dX10_leave_35 (fun M35 h => ?_)
        refine e_aload_n (pc := 38) hE rfl 0 rfl dX10_leave_38 ?_
        refine e_iconst (pc := 39) (v := 0) hE ki_0 dX10_leave_39 ?_
        refine e_iload_n (pc := 40) hE rfl 1 rfl dX10_leave_40 ?_
        refine c_M_leaves (pc := 41) (d := d + 1 + 0) hE (t_M_leaves (d := d + 1)  h) tw_1342 (Nat.le_of_ble_eq_true rfl) dX10_leave_41 (fun M41 h => ?_)
        refine e_iconst (pc := 44) (v := 1) hE ki_1 dX10_leave_44 ?_
        exact hR dX10_leave_45 h
      · have h := h.2 c0
        refine e_bipush (pc := 31) (v := -2) hE kb_m2 dX10_leave_31 ?_
        exact hR dX10_leave_33 h
    · have h := h.2 c0
      refine e_bipush (pc := 19) (v := -4) hE kb_m4 dX10_leave_19 ?_
      exact hR dX10_leave_21 h
  · have h := h.2 c0
    refine e_iconst (pc := 8) (v := -1) hE ki_m1 dX10_leave_8 ?_
    exact hR dX10_leave_9 h
set_option maxHeartbeats 4000000 in
set_option maxRecDepth 20000 in
theorem w_M_undo_23 {l : Launch} {G : Gs} {d : Nat} {E : EE} {a1 : Int32} {Q : Int32 → Mm → Prop} (hE : Mach l G RX10 cX10_undo 4 (d + 1) E) (hR : RtI cX10_undo E Q)   {KB : Int32 → Int32 → Mm → Prop} {v2 : Int32} {v3 : Int32} {M : Mm} (h : k_M_undo_23 a1 Q KB v2 v3 M) (hKB : ∀ (v2 : Int32) (v3 : Int32)  (M : Mm), KB v2 v3 M → E 23 [(0, rv G 312), (1, .int a1), (2, .int v2), (3, .int v3)] [] M) : E 23 [(0, rv G 312), (1, .int a1), (2, .int v2), (3, .int v3)] [] M := by
  unfold k_M_undo_23 at h
  refine e_iload_n (pc := 23) hE rfl 3 rfl dX10_undo_23 ?_
  refine e_bipush (pc := 24) (v := 31) hE kb_31 dX10_undo_24 ?_
  refine e_icmp_ge (pc := 26) hE 56 dX10_undo_26 (by decide) (fun c0 => ?_) (fun c0 => ?_)
  · have h := h.1 c0
    refine e_aload_n (pc := 56) hE rfl 0 rfl dX10_undo_56 ?_
    refine e_iload_n (pc := 57) hE rfl 1 rfl dX10_undo_57 ?_
    refine p_Md_deedMany (pc := 58) hE tw_1027 dX10_undo_58 ?_
    refine e_iload_n (pc := 61) hE rfl 2 rfl dX10_undo_61 ?_
    exact hR dX10_undo_62 h
  · have h := h.2 c0
    refine e_iload_n (pc := 29) hE rfl 2 rfl dX10_undo_29 ?_
    refine e_if_le (pc := 30) hE 56 dX10_undo_30 (by decide) (fun c0 => ?_) (fun c0 => ?_)
    · have h := h.1 c0
      refine e_aload_n (pc := 56) hE rfl 0 rfl dX10_undo_56 ?_
      refine e_iload_n (pc := 57) hE rfl 1 rfl dX10_undo_57 ?_
      refine p_Md_deedMany (pc := 58) hE tw_1027 dX10_undo_58 ?_
      refine e_iload_n (pc := 61) hE rfl 2 rfl dX10_undo_61 ?_
      exact hR dX10_undo_62 h
    · have h := h.2 c0
      refine e_aload_n (pc := 33) hE rfl 0 rfl dX10_undo_33 ?_
      refine g_Md_all (pc := 34) hE tw_1024 dX10_undo_34 ?_
      refine e_iload_n (pc := 37) hE rfl 3 rfl dX10_undo_37 ?_
      refine e_aload_n (pc := 38) hE rfl 0 rfl dX10_undo_38 ?_
      refine g_Md_log (pc := 39) hE tw_1028 dX10_undo_39 ?_
      refine e_bipush (pc := 42) (v := 31) hE kb_31 dX10_undo_42 ?_
      refine e_iload_n (pc := 44) hE rfl 1 rfl dX10_undo_44 ?_
      refine e_imul (pc := 45) hE dX10_undo_45 ?_
      refine e_iload_n (pc := 46) hE rfl 3 rfl dX10_undo_46 ?_
      refine e_iadd (pc := 47) hE dX10_undo_47 ?_
      refine e_iald (pc := 48) hE ar_329 h.1 dX10_undo_48 ?_
      have h := h.2
      refine e_topi (fun x49 ex49 => ?_)
      have h := h x49 ex49
      refine e_iast (pc := 49) hE ar_327 h.1 dX10_undo_49 ?_
      have h := h.2
      obtain ⟨x50, ex50⟩ : ∃ y : Int32, y = v3 + (1 : Int32) := ⟨_, rfl⟩
      have h := h x50 ex50
      refine e_iinc (pc := 50) (k := 3) (v := x50) (lv' := [(3, .int x50), (0, rv G 312), (1, .int a1), (2, .int v2)]) hE dX10_undo_50 rfl (by rw [ex50, ki_1]) (by decide) rfl ?_
      refine e_goto (pc := 53) hE 23 dX10_undo_53 (by decide) ?_
      refine e_sub hE [1, 2, 3, 0] rfl ?_
      exact hKB _ _ _ h
set_option maxHeartbeats 4000000 in
set_option maxRecDepth 20000 in
theorem w_lp_M_undo_23 {l : Launch} {G : Gs} {d : Nat} {E : EE} {a1 : Int32} {Q : Int32 → Mm → Prop} (hE : Mach l G RX10 cX10_undo 4 (d + 1) E) (hR : RtI cX10_undo E Q)    {n : Nat} {v2 : Int32} {v3 : Int32} {M : Mm} (h : lp_M_undo_23 a1 Q n v2 v3 M)  : E 23 [(0, rv G 312), (1, .int a1), (2, .int v2), (3, .int v3)] [] M := by
  have key : ∀ (n : Nat) (v2 : Int32) (v3 : Int32) (M : Mm), lp_M_undo_23 a1 Q n v2 v3 M → E 23 [(0, rv G 312), (1, .int a1), (2, .int v2), (3, .int v3)] [] M := by
    intro n
    induction n with
    | zero => intro v2 v3 M h; exact h.elim
    | succ n ih => intro v2 v3 M h; exact w_M_undo_23 hE hR  (show k_M_undo_23 a1 Q (lp_M_undo_23 a1 Q n)  v2 v3 M from h) ih 
  exact key n _ _ _ h
set_option maxHeartbeats 4000000 in
set_option maxRecDepth 20000 in
theorem t_M_undo {l : Launch} {G : Gs} {d : Nat} {a1 : Int32} {M : Mm} {Q : Int32 → Mm → Prop}  (h : wp_M_undo a1 M Q) : CtI l G (d + 1) yX10_undo cX10_undo 4 (some .int) [rv G 312, .int a1] M Q := by
  refine CtI.mk (by decide) rfl (Nat.le_of_ble_eq_true rfl) (fun E hE hR => ?_)
  show E 0 [(0, rv G 312), (1, .int a1)] [] M
  unfold wp_M_undo at h
  refine e_iload_n (pc := 0) hE rfl 1 rfl dX10_undo_0 ?_
  refine e_iconst (pc := 1) (v := 0) hE ki_0 dX10_undo_1 ?_
  refine e_aload_n (pc := 2) hE rfl 0 rfl dX10_undo_2 ?_
  refine g_Md_deedMany (pc := 3) hE tw_1027 dX10_undo_3 ?_
  refine c_M_in (pc := 6) (d := d + 0) hE (t_M_in (d := d)  h) tw_1142 (Nat.le_of_ble_eq_true rfl) dX10_undo_6 (fun r6 M6 h => ?_)
  refine e_if_ne (pc := 9) hE 14 dX10_undo_9 (by decide) (fun c0 => ?_) (fun c0 => ?_)
  · have h := h.1 c0
    refine e_aload_n (pc := 14) hE rfl 0 rfl dX10_undo_14 ?_
    refine g_Md_deedMany (pc := 15) hE tw_1027 dX10_undo_15 ?_
    refine e_iload_n (pc := 18) hE rfl 1 rfl dX10_undo_18 ?_
    refine e_isub (pc := 19) hE dX10_undo_19 ?_
    refine e_topi (fun x20 ex20 => ?_)
    have h := h x20 ex20
    refine e_istore_n (pc := 20) (lv' := [(2, .int x20), (0, rv G 312), (1, .int a1)]) hE dX10_undo_20 rfl (by decide) rfl ?_
    refine e_iconst (pc := 21) (v := 0) hE ki_0 dX10_undo_21 ?_
    refine e_istore_n (pc := 22) (lv' := [(3, .int (0 : Int32)), (2, .int x20), (0, rv G 312), (1, .int a1)]) hE dX10_undo_22 rfl (by decide) rfl ?_
    obtain ⟨n, h⟩ := h
    refine e_sub hE [2, 3, 1, 0] rfl ?_
    refine w_lp_M_undo_23 hE hR  h 
  · have h := h.2 c0
    refine e_iconst (pc := 12) (v := -1) hE ki_m1 dX10_undo_12 ?_
    exact hR dX10_undo_13 h
set_option maxHeartbeats 4000000 in
set_option maxRecDepth 20000 in
theorem t_M_now {l : Launch} {G : Gs} {d : Nat}  {M : Mm} {Q : Int32 → Mm → Prop}  (h : wp_M_now  M Q) : CtI l G (d + 2) yX10_now cX10_now 1 (some .int) [rv G 312] M Q := by
  refine CtI.mk (by decide) rfl (Nat.le_of_ble_eq_true rfl) (fun E hE hR => ?_)
  show E 0 [(0, rv G 312)] [] M
  unfold wp_M_now at h
  refine e_aload_n (pc := 0) hE rfl 0 rfl dX10_now_0 ?_
  refine g_Md_n (pc := 1) hE tw_1009 dX10_now_1 ?_
  refine e_if_ne (pc := 4) hE 12 dX10_now_4 (by decide) (fun c0 => ?_) (fun c0 => ?_)
  · have h := h.1 c0
    refine e_aload_n (pc := 12) hE rfl 0 rfl dX10_now_12 ?_
    refine e_aload_n (pc := 13) hE rfl 0 rfl dX10_now_13 ?_
    refine e_iconst (pc := 14) (v := 0) hE ki_0 dX10_now_14 ?_
    refine c_M_openSet (pc := 15) (d := d + 1) hE (t_M_openSet (d := d)  h) tw_1277 (Nat.le_of_ble_eq_true rfl) dX10_now_15 (fun r15 M15 h => ?_)
    refine e_aload_n (pc := 18) hE rfl 0 rfl dX10_now_18 ?_
    refine g_Md_all (pc := 19) hE tw_1024 dX10_now_19 ?_
    refine e_bipush (pc := 22) (v := 30) hE kb_30 dX10_now_22 ?_
    refine e_iald (pc := 24) hE ar_327 h.1 dX10_now_24 ?_
    have h := h.2
    refine c_M_tells (pc := 25) (d := d + 1 + 0) hE (t_M_tells (d := d + 1)  h) tw_1176 (Nat.le_of_ble_eq_true rfl) dX10_now_25 (fun r25 M25 h => ?_)
    exact hR dX10_now_28 h
  · have h := h.2 c0
    refine e_bipush (pc := 7) (v := -4) hE kb_m4 dX10_now_7 ?_
    refine e_goto (pc := 9) hE 28 dX10_now_9 (by decide) ?_
    exact hR dX10_now_28 h
set_option maxHeartbeats 4000000 in
set_option maxRecDepth 20000 in
theorem t_M_water {l : Launch} {G : Gs} {d : Nat} {a1 : Int32} {M : Mm} {Q : Int32 → Mm → Prop}  (h : wp_M_water a1 M Q) : CtI l G (d + 3) yX10_water cX10_water 2 (some .int) [rv G 312, .int a1] M Q := by
  refine CtI.mk (by decide) rfl (Nat.le_of_ble_eq_true rfl) (fun E hE hR => ?_)
  show E 0 [(0, rv G 312), (1, .int a1)] [] M
  unfold wp_M_water at h
  refine e_aload_n (pc := 0) hE rfl 0 rfl dX10_water_0 ?_
  refine e_iload_n (pc := 1) hE rfl 1 rfl dX10_water_1 ?_
  refine c_M_isArm (pc := 2) (d := d + 1 + 1) hE (t_M_isArm (d := d + 1)  h) tw_1253 (Nat.le_of_ble_eq_true rfl) dX10_water_2 (fun r2 M2 h => ?_)
  refine e_if_eq (pc := 5) hE 17 dX10_water_5 (by decide) (fun c0 => ?_) (fun c0 => ?_)
  · have h := h.1 c0
    refine e_iconst (pc := 17) (v := -1) hE ki_m1 dX10_water_17 ?_
    exact hR dX10_water_18 h
  · have h := h.2 c0
    refine e_aload_n (pc := 8) hE rfl 0 rfl dX10_water_8 ?_
    refine e_iconst (pc := 9) (v := 0) hE ki_0 dX10_water_9 ?_
    refine e_iload_n (pc := 10) hE rfl 1 rfl dX10_water_10 ?_
    refine c_M_waterOf (pc := 11) (d := d + 2) hE (t_M_waterOf (d := d)  h) tw_1288 (Nat.le_of_ble_eq_true rfl) dX10_water_11 (fun r11 M11 h => ?_)
    refine e_goto (pc := 14) hE 18 dX10_water_14 (by decide) ?_
    exact hR dX10_water_18 h
set_option maxHeartbeats 4000000 in
set_option maxRecDepth 20000 in
theorem w_M_keep_40 {l : Launch} {G : Gs} {d : Nat} {E : EE} {a1 : Int32} {Q : Int32 → Mm → Prop} (hE : Mach l G RX10 cX10_keep 3 (d + 1) E) (hR : RtI cX10_keep E Q)   {KB : Int32 → Mm → Prop} {K69 : Mm → Prop} {v2 : Int32} {M : Mm} (h : k_M_keep_40 a1 Q KB K69 v2 M) (hKB : ∀ (v2 : Int32)  (M : Mm), KB v2 M → E 40 [(0, rv G 312), (1, .int a1), (2, .int v2)] [] M) (hK69 : ∀  (M : Mm), K69 M → E 69 [(0, rv G 312), (1, .int a1)] [] M) : E 40 [(0, rv G 312), (1, .int a1), (2, .int v2)] [] M := by
  unfold k_M_keep_40 at h
  refine e_iload_n (pc := 40) hE rfl 2 rfl dX10_keep_40 ?_
  refine e_bipush (pc := 41) (v := 31) hE kb_31 dX10_keep_41 ?_
  refine e_icmp_ge (pc := 43) hE 69 dX10_keep_43 (by decide) (fun c0 => ?_) (fun c0 => ?_)
  · have h := h.1 c0
    refine e_sub hE [0, 1] rfl ?_
    exact hK69 _ h
  · have h := h.2 c0
    refine e_aload_n (pc := 46) hE rfl 0 rfl dX10_keep_46 ?_
    refine g_Md_keptAll (pc := 47) hE tw_1031 dX10_keep_47 ?_
    refine e_bipush (pc := 50) (v := 31) hE kb_31 dX10_keep_50 ?_
    refine e_iload_n (pc := 52) hE rfl 1 rfl dX10_keep_52 ?_
    refine e_imul (pc := 53) hE dX10_keep_53 ?_
    refine e_iload_n (pc := 54) hE rfl 2 rfl dX10_keep_54 ?_
    refine e_iadd (pc := 55) hE dX10_keep_55 ?_
    refine e_aload_n (pc := 56) hE rfl 0 rfl dX10_keep_56 ?_
    refine g_Md_all (pc := 57) hE tw_1024 dX10_keep_57 ?_
    refine e_iload_n (pc := 60) hE rfl 2 rfl dX10_keep_60 ?_
    refine e_iald (pc := 61) hE ar_327 h.1 dX10_keep_61 ?_
    have h := h.2
    refine e_topi (fun x62 ex62 => ?_)
    have h := h x62 ex62
    refine e_iast (pc := 62) hE ar_332 h.1 dX10_keep_62 ?_
    have h := h.2
    obtain ⟨x63, ex63⟩ : ∃ y : Int32, y = v2 + (1 : Int32) := ⟨_, rfl⟩
    have h := h x63 ex63
    refine e_iinc (pc := 63) (k := 2) (v := x63) (lv' := [(2, .int x63), (0, rv G 312), (1, .int a1)]) hE dX10_keep_63 rfl (by rw [ex63, ki_1]) (by decide) rfl ?_
    refine e_goto (pc := 66) hE 40 dX10_keep_66 (by decide) ?_
    refine e_sub hE [1, 2, 0] rfl ?_
    exact hKB _ _ h
set_option maxHeartbeats 4000000 in
set_option maxRecDepth 20000 in
theorem w_lp_M_keep_40 {l : Launch} {G : Gs} {d : Nat} {E : EE} {a1 : Int32} {Q : Int32 → Mm → Prop} (hE : Mach l G RX10 cX10_keep 3 (d + 1) E) (hR : RtI cX10_keep E Q)   {K69 : Mm → Prop} {n : Nat} {v2 : Int32} {M : Mm} (h : lp_M_keep_40 a1 Q K69 n v2 M) (hK69 : ∀  (M : Mm), K69 M → E 69 [(0, rv G 312), (1, .int a1)] [] M) : E 40 [(0, rv G 312), (1, .int a1), (2, .int v2)] [] M := by
  have key : ∀ (n : Nat) (v2 : Int32) (M : Mm), lp_M_keep_40 a1 Q K69 n v2 M → E 40 [(0, rv G 312), (1, .int a1), (2, .int v2)] [] M := by
    intro n
    induction n with
    | zero => intro v2 M h; exact h.elim
    | succ n ih => intro v2 M h; exact w_M_keep_40 hE hR  (show k_M_keep_40 a1 Q (lp_M_keep_40 a1 Q K69 n) K69 v2 M from h) ih hK69
  exact key n _ _ h
set_option maxHeartbeats 4000000 in
set_option maxRecDepth 20000 in
theorem w_M_keep_71 {l : Launch} {G : Gs} {d : Nat} {E : EE} {a1 : Int32} {Q : Int32 → Mm → Prop} (hE : Mach l G RX10 cX10_keep 3 (d + 1) E) (hR : RtI cX10_keep E Q)   {KB : Int32 → Mm → Prop} {K98 : Mm → Prop} {v2 : Int32} {M : Mm} (h : k_M_keep_71 a1 Q KB K98 v2 M) (hKB : ∀ (v2 : Int32)  (M : Mm), KB v2 M → E 71 [(0, rv G 312), (1, .int a1), (2, .int v2)] [] M) (hK98 : ∀  (M : Mm), K98 M → E 98 [(0, rv G 312), (1, .int a1)] [] M) : E 71 [(0, rv G 312), (1, .int a1), (2, .int v2)] [] M := by
  unfold k_M_keep_71 at h
  refine e_iload_n (pc := 71) hE rfl 2 rfl dX10_keep_71 ?_
  refine e_iconst (pc := 72) (v := 5) hE ki_5 dX10_keep_72 ?_
  refine e_icmp_ge (pc := 73) hE 98 dX10_keep_73 (by decide) (fun c0 => ?_) (fun c0 => ?_)
  · have h := h.1 c0
    refine e_sub hE [0, 1] rfl ?_
    exact hK98 _ h
  · have h := h.2 c0
    refine e_aload_n (pc := 76) hE rfl 0 rfl dX10_keep_76 ?_
    refine g_Md_keptNeeds (pc := 77) hE tw_1032 dX10_keep_77 ?_
    refine e_iconst (pc := 80) (v := 5) hE ki_5 dX10_keep_80 ?_
    refine e_iload_n (pc := 81) hE rfl 1 rfl dX10_keep_81 ?_
    refine e_imul (pc := 82) hE dX10_keep_82 ?_
    refine e_iload_n (pc := 83) hE rfl 2 rfl dX10_keep_83 ?_
    refine e_iadd (pc := 84) hE dX10_keep_84 ?_
    refine e_aload_n (pc := 85) hE rfl 0 rfl dX10_keep_85 ?_
    refine g_Md_needs (pc := 86) hE tw_1013 dX10_keep_86 ?_
    refine e_iload_n (pc := 89) hE rfl 2 rfl dX10_keep_89 ?_
    refine e_iald (pc := 90) hE ar_321 h.1 dX10_keep_90 ?_
    have h := h.2
    refine e_topi (fun x91 ex91 => ?_)
    have h := h x91 ex91
    refine e_iast (pc := 91) hE ar_333 h.1 dX10_keep_91 ?_
    have h := h.2
    obtain ⟨x92, ex92⟩ : ∃ y : Int32, y = v2 + (1 : Int32) := ⟨_, rfl⟩
    have h := h x92 ex92
    refine e_iinc (pc := 92) (k := 2) (v := x92) (lv' := [(2, .int x92), (0, rv G 312), (1, .int a1)]) hE dX10_keep_92 rfl (by rw [ex92, ki_1]) (by decide) rfl ?_
    refine e_goto (pc := 95) hE 71 dX10_keep_95 (by decide) ?_
    refine e_sub hE [1, 2, 0] rfl ?_
    exact hKB _ _ h
set_option maxHeartbeats 4000000 in
set_option maxRecDepth 20000 in
theorem w_lp_M_keep_71 {l : Launch} {G : Gs} {d : Nat} {E : EE} {a1 : Int32} {Q : Int32 → Mm → Prop} (hE : Mach l G RX10 cX10_keep 3 (d + 1) E) (hR : RtI cX10_keep E Q)   {K98 : Mm → Prop} {n : Nat} {v2 : Int32} {M : Mm} (h : lp_M_keep_71 a1 Q K98 n v2 M) (hK98 : ∀  (M : Mm), K98 M → E 98 [(0, rv G 312), (1, .int a1)] [] M) : E 71 [(0, rv G 312), (1, .int a1), (2, .int v2)] [] M := by
  have key : ∀ (n : Nat) (v2 : Int32) (M : Mm), lp_M_keep_71 a1 Q K98 n v2 M → E 71 [(0, rv G 312), (1, .int a1), (2, .int v2)] [] M := by
    intro n
    induction n with
    | zero => intro v2 M h; exact h.elim
    | succ n ih => intro v2 M h; exact w_M_keep_71 hE hR  (show k_M_keep_71 a1 Q (lp_M_keep_71 a1 Q K98 n) K98 v2 M from h) ih hK98
  exact key n _ _ h
set_option maxHeartbeats 4000000 in
set_option maxRecDepth 20000 in
theorem w_M_keep_100 {l : Launch} {G : Gs} {d : Nat} {E : EE} {a1 : Int32} {Q : Int32 → Mm → Prop} (hE : Mach l G RX10 cX10_keep 3 (d + 1) E) (hR : RtI cX10_keep E Q)   {KB : Int32 → Mm → Prop} {v2 : Int32} {M : Mm} (h : k_M_keep_100 a1 Q KB v2 M) (hKB : ∀ (v2 : Int32)  (M : Mm), KB v2 M → E 100 [(0, rv G 312), (1, .int a1), (2, .int v2)] [] M) : E 100 [(0, rv G 312), (1, .int a1), (2, .int v2)] [] M := by
  unfold k_M_keep_100 at h
  refine e_iload_n (pc := 100) hE rfl 2 rfl dX10_keep_100 ?_
  refine e_bipush (pc := 101) (v := 31) hE kb_31 dX10_keep_101 ?_
  refine e_aload_n (pc := 103) hE rfl 0 rfl dX10_keep_103 ?_
  refine g_Md_deedMany (pc := 104) hE tw_1027 dX10_keep_104 ?_
  refine e_imul (pc := 107) hE dX10_keep_107 ?_
  refine e_icmp_ge (pc := 108) hE 135 dX10_keep_108 (by decide) (fun c0 => ?_) (fun c0 => ?_)
  · have h := h.1 c0
    refine e_aload_n (pc := 135) hE rfl 0 rfl dX10_keep_135 ?_
    refine g_Md_deedMany (pc := 136) hE tw_1027 dX10_keep_136 ?_
    exact hR dX10_keep_139 h
  · have h := h.2 c0
    refine e_aload_n (pc := 111) hE rfl 0 rfl dX10_keep_111 ?_
    refine g_Md_keptLog (pc := 112) hE tw_1033 dX10_keep_112 ?_
    refine e_sipush (pc := 115) (v := 1860) hE ks_1860 dX10_keep_115 ?_
    refine e_iload_n (pc := 118) hE rfl 1 rfl dX10_keep_118 ?_
    refine e_imul (pc := 119) hE dX10_keep_119 ?_
    refine e_iload_n (pc := 120) hE rfl 2 rfl dX10_keep_120 ?_
    refine e_iadd (pc := 121) hE dX10_keep_121 ?_
    refine e_aload_n (pc := 122) hE rfl 0 rfl dX10_keep_122 ?_
    refine g_Md_log (pc := 123) hE tw_1028 dX10_keep_123 ?_
    refine e_iload_n (pc := 126) hE rfl 2 rfl dX10_keep_126 ?_
    refine e_iald (pc := 127) hE ar_329 h.1 dX10_keep_127 ?_
    have h := h.2
    refine e_topi (fun x128 ex128 => ?_)
    have h := h x128 ex128
    refine e_iast (pc := 128) hE ar_334 h.1 dX10_keep_128 ?_
    have h := h.2
    obtain ⟨x129, ex129⟩ : ∃ y : Int32, y = v2 + (1 : Int32) := ⟨_, rfl⟩
    have h := h x129 ex129
    refine e_iinc (pc := 129) (k := 2) (v := x129) (lv' := [(2, .int x129), (0, rv G 312), (1, .int a1)]) hE dX10_keep_129 rfl (by rw [ex129, ki_1]) (by decide) rfl ?_
    refine e_goto (pc := 132) hE 100 dX10_keep_132 (by decide) ?_
    refine e_sub hE [1, 2, 0] rfl ?_
    exact hKB _ _ h
set_option maxHeartbeats 4000000 in
set_option maxRecDepth 20000 in
theorem w_lp_M_keep_100 {l : Launch} {G : Gs} {d : Nat} {E : EE} {a1 : Int32} {Q : Int32 → Mm → Prop} (hE : Mach l G RX10 cX10_keep 3 (d + 1) E) (hR : RtI cX10_keep E Q)    {n : Nat} {v2 : Int32} {M : Mm} (h : lp_M_keep_100 a1 Q n v2 M)  : E 100 [(0, rv G 312), (1, .int a1), (2, .int v2)] [] M := by
  have key : ∀ (n : Nat) (v2 : Int32) (M : Mm), lp_M_keep_100 a1 Q n v2 M → E 100 [(0, rv G 312), (1, .int a1), (2, .int v2)] [] M := by
    intro n
    induction n with
    | zero => intro v2 M h; exact h.elim
    | succ n ih => intro v2 M h; exact w_M_keep_100 hE hR  (show k_M_keep_100 a1 Q (lp_M_keep_100 a1 Q n)  v2 M from h) ih 
  exact key n _ _ h
set_option maxHeartbeats 4000000 in
set_option maxRecDepth 20000 in
theorem t_M_keep {l : Launch} {G : Gs} {d : Nat} {a1 : Int32} {M : Mm} {Q : Int32 → Mm → Prop}  (h : wp_M_keep a1 M Q) : CtI l G (d + 1) yX10_keep cX10_keep 3 (some .int) [rv G 312, .int a1] M Q := by
  refine CtI.mk (by decide) rfl (Nat.le_of_ble_eq_true rfl) (fun E hE hR => ?_)
  show E 0 [(0, rv G 312), (1, .int a1)] [] M
  unfold wp_M_keep at h
  refine e_iload_n (pc := 0) hE rfl 1 rfl dX10_keep_0 ?_
  refine e_iconst (pc := 1) (v := 0) hE ki_0 dX10_keep_1 ?_
  refine e_iconst (pc := 2) (v := 2) hE ki_2 dX10_keep_2 ?_
  refine c_M_in (pc := 3) (d := d + 0) hE (t_M_in (d := d)  h) tw_1142 (Nat.le_of_ble_eq_true rfl) dX10_keep_3 (fun r3 M3 h => ?_)
  refine e_if_ne (pc := 6) hE 11 dX10_keep_6 (by decide) (fun c0 => ?_) (fun c0 => ?_)
  · have h := h.1 c0
    refine e_aload_n (pc := 11) hE rfl 0 rfl dX10_keep_11 ?_
    refine g_Md_n (pc := 12) hE tw_1009 dX10_keep_12 ?_
    refine e_if_ne (pc := 15) hE 21 dX10_keep_15 (by decide) (fun c0 => ?_) (fun c0 => ?_)
    · have h := h.1 c0
      refine e_aload_n (pc := 21) hE rfl 0 rfl dX10_keep_21 ?_
      refine g_Md_isKept (pc := 22) hE tw_1029 dX10_keep_22 ?_
      refine e_iload_n (pc := 25) hE rfl 1 rfl dX10_keep_25 ?_
      refine e_iconst (pc := 26) (v := 1) hE ki_1 dX10_keep_26 ?_
      refine e_zast (pc := 27) hE ar_330 h.1 dX10_keep_27 ?_
      have h := h.2
      refine e_aload_n (pc := 28) hE rfl 0 rfl dX10_keep_28 ?_
      refine g_Md_keptMany (pc := 29) hE tw_1030 dX10_keep_29 ?_
      refine e_iload_n (pc := 32) hE rfl 1 rfl dX10_keep_32 ?_
      refine e_aload_n (pc := 33) hE rfl 0 rfl dX10_keep_33 ?_
      refine g_Md_deedMany (pc := 34) hE tw_1027 dX10_keep_34 ?_
      refine e_topi (fun x37 ex37 => ?_)
      have h := h x37 ex37
      refine e_iast (pc := 37) hE ar_331 h.1 dX10_keep_37 ?_
      have h := h.2
      refine e_iconst (pc := 38) (v := 0) hE ki_0 dX10_keep_38 ?_
      refine e_istore_n (pc := 39) (lv' := [(2, .int (0 : Int32)), (0, rv G 312), (1, .int a1)]) hE dX10_keep_39 rfl (by decide) rfl ?_
      obtain ⟨n, h⟩ := h
      refine e_sub hE [1, 2, 0] rfl ?_
      refine w_lp_M_keep_40 hE hR  h (fun M h => ?_)
      refine e_iconst (pc := 69) (v := 0) hE ki_0 dX10_keep_69 ?_
      refine e_istore_n (pc := 70) (lv' := [(2, .int (0 : Int32)), (0, rv G 312), (1, .int a1)]) hE dX10_keep_70 rfl (by decide) rfl ?_
      obtain ⟨n, h⟩ := h
      refine e_sub hE [1, 2, 0] rfl ?_
      refine w_lp_M_keep_71 hE hR  h (fun M h => ?_)
      refine e_iconst (pc := 98) (v := 0) hE ki_0 dX10_keep_98 ?_
      refine e_istore_n (pc := 99) (lv' := [(2, .int (0 : Int32)), (0, rv G 312), (1, .int a1)]) hE dX10_keep_99 rfl (by decide) rfl ?_
      obtain ⟨n, h⟩ := h
      refine e_sub hE [1, 2, 0] rfl ?_
      refine w_lp_M_keep_100 hE hR  h 
    · have h := h.2 c0
      refine e_bipush (pc := 18) (v := -4) hE kb_m4 dX10_keep_18 ?_
      exact hR dX10_keep_20 h
  · have h := h.2 c0
    refine e_iconst (pc := 9) (v := -1) hE ki_m1 dX10_keep_9 ?_
    exact hR dX10_keep_10 h
set_option maxHeartbeats 4000000 in
set_option maxRecDepth 20000 in
theorem w_M_on_38 {l : Launch} {G : Gs} {d : Nat} {E : EE} {a1 : Int32} {Q : Int32 → Mm → Prop} (hE : Mach l G RX10 cX10_on 3 (d + 1) E) (hR : RtI cX10_on E Q)   {KB : Int32 → Mm → Prop} {K67 : Mm → Prop} {v2 : Int32} {M : Mm} (h : k_M_on_38 a1 Q KB K67 v2 M) (hKB : ∀ (v2 : Int32)  (M : Mm), KB v2 M → E 38 [(0, rv G 312), (1, .int a1), (2, .int v2)] [] M) (hK67 : ∀  (M : Mm), K67 M → E 67 [(0, rv G 312), (1, .int a1)] [] M) : E 38 [(0, rv G 312), (1, .int a1), (2, .int v2)] [] M := by
  unfold k_M_on_38 at h
  refine e_iload_n (pc := 38) hE rfl 2 rfl dX10_on_38 ?_
  refine e_bipush (pc := 39) (v := 31) hE kb_31 dX10_on_39 ?_
  refine e_icmp_ge (pc := 41) hE 67 dX10_on_41 (by decide) (fun c0 => ?_) (fun c0 => ?_)
  · have h := h.1 c0
    refine e_sub hE [0, 1] rfl ?_
    exact hK67 _ h
  · have h := h.2 c0
    refine e_aload_n (pc := 44) hE rfl 0 rfl dX10_on_44 ?_
    refine g_Md_all (pc := 45) hE tw_1024 dX10_on_45 ?_
    refine e_iload_n (pc := 48) hE rfl 2 rfl dX10_on_48 ?_
    refine e_aload_n (pc := 49) hE rfl 0 rfl dX10_on_49 ?_
    refine g_Md_keptAll (pc := 50) hE tw_1031 dX10_on_50 ?_
    refine e_bipush (pc := 53) (v := 31) hE kb_31 dX10_on_53 ?_
    refine e_iload_n (pc := 55) hE rfl 1 rfl dX10_on_55 ?_
    refine e_imul (pc := 56) hE dX10_on_56 ?_
    refine e_iload_n (pc := 57) hE rfl 2 rfl dX10_on_57 ?_
    refine e_iadd (pc := 58) hE dX10_on_58 ?_
    refine e_iald (pc := 59) hE ar_332 h.1 dX10_on_59 ?_
    have h := h.2
    refine e_topi (fun x60 ex60 => ?_)
    have h := h x60 ex60
    refine e_iast (pc := 60) hE ar_327 h.1 dX10_on_60 ?_
    have h := h.2
    obtain ⟨x61, ex61⟩ : ∃ y : Int32, y = v2 + (1 : Int32) := ⟨_, rfl⟩
    have h := h x61 ex61
    refine e_iinc (pc := 61) (k := 2) (v := x61) (lv' := [(2, .int x61), (0, rv G 312), (1, .int a1)]) hE dX10_on_61 rfl (by rw [ex61, ki_1]) (by decide) rfl ?_
    refine e_goto (pc := 64) hE 38 dX10_on_64 (by decide) ?_
    refine e_sub hE [1, 2, 0] rfl ?_
    exact hKB _ _ h
set_option maxHeartbeats 4000000 in
set_option maxRecDepth 20000 in
theorem w_lp_M_on_38 {l : Launch} {G : Gs} {d : Nat} {E : EE} {a1 : Int32} {Q : Int32 → Mm → Prop} (hE : Mach l G RX10 cX10_on 3 (d + 1) E) (hR : RtI cX10_on E Q)   {K67 : Mm → Prop} {n : Nat} {v2 : Int32} {M : Mm} (h : lp_M_on_38 a1 Q K67 n v2 M) (hK67 : ∀  (M : Mm), K67 M → E 67 [(0, rv G 312), (1, .int a1)] [] M) : E 38 [(0, rv G 312), (1, .int a1), (2, .int v2)] [] M := by
  have key : ∀ (n : Nat) (v2 : Int32) (M : Mm), lp_M_on_38 a1 Q K67 n v2 M → E 38 [(0, rv G 312), (1, .int a1), (2, .int v2)] [] M := by
    intro n
    induction n with
    | zero => intro v2 M h; exact h.elim
    | succ n ih => intro v2 M h; exact w_M_on_38 hE hR  (show k_M_on_38 a1 Q (lp_M_on_38 a1 Q K67 n) K67 v2 M from h) ih hK67
  exact key n _ _ h
set_option maxHeartbeats 4000000 in
set_option maxRecDepth 20000 in
theorem w_M_on_69 {l : Launch} {G : Gs} {d : Nat} {E : EE} {a1 : Int32} {Q : Int32 → Mm → Prop} (hE : Mach l G RX10 cX10_on 3 (d + 1) E) (hR : RtI cX10_on E Q)   {KB : Int32 → Mm → Prop} {K96 : Mm → Prop} {v2 : Int32} {M : Mm} (h : k_M_on_69 a1 Q KB K96 v2 M) (hKB : ∀ (v2 : Int32)  (M : Mm), KB v2 M → E 69 [(0, rv G 312), (1, .int a1), (2, .int v2)] [] M) (hK96 : ∀  (M : Mm), K96 M → E 96 [(0, rv G 312), (1, .int a1)] [] M) : E 69 [(0, rv G 312), (1, .int a1), (2, .int v2)] [] M := by
  unfold k_M_on_69 at h
  refine e_iload_n (pc := 69) hE rfl 2 rfl dX10_on_69 ?_
  refine e_iconst (pc := 70) (v := 5) hE ki_5 dX10_on_70 ?_
  refine e_icmp_ge (pc := 71) hE 96 dX10_on_71 (by decide) (fun c0 => ?_) (fun c0 => ?_)
  · have h := h.1 c0
    refine e_sub hE [0, 1] rfl ?_
    exact hK96 _ h
  · have h := h.2 c0
    refine e_aload_n (pc := 74) hE rfl 0 rfl dX10_on_74 ?_
    refine g_Md_needs (pc := 75) hE tw_1013 dX10_on_75 ?_
    refine e_iload_n (pc := 78) hE rfl 2 rfl dX10_on_78 ?_
    refine e_aload_n (pc := 79) hE rfl 0 rfl dX10_on_79 ?_
    refine g_Md_keptNeeds (pc := 80) hE tw_1032 dX10_on_80 ?_
    refine e_iconst (pc := 83) (v := 5) hE ki_5 dX10_on_83 ?_
    refine e_iload_n (pc := 84) hE rfl 1 rfl dX10_on_84 ?_
    refine e_imul (pc := 85) hE dX10_on_85 ?_
    refine e_iload_n (pc := 86) hE rfl 2 rfl dX10_on_86 ?_
    refine e_iadd (pc := 87) hE dX10_on_87 ?_
    refine e_iald (pc := 88) hE ar_333 h.1 dX10_on_88 ?_
    have h := h.2
    refine e_topi (fun x89 ex89 => ?_)
    have h := h x89 ex89
    refine e_iast (pc := 89) hE ar_321 h.1 dX10_on_89 ?_
    have h := h.2
    obtain ⟨x90, ex90⟩ : ∃ y : Int32, y = v2 + (1 : Int32) := ⟨_, rfl⟩
    have h := h x90 ex90
    refine e_iinc (pc := 90) (k := 2) (v := x90) (lv' := [(2, .int x90), (0, rv G 312), (1, .int a1)]) hE dX10_on_90 rfl (by rw [ex90, ki_1]) (by decide) rfl ?_
    refine e_goto (pc := 93) hE 69 dX10_on_93 (by decide) ?_
    refine e_sub hE [1, 2, 0] rfl ?_
    exact hKB _ _ h
set_option maxHeartbeats 4000000 in
set_option maxRecDepth 20000 in
theorem w_lp_M_on_69 {l : Launch} {G : Gs} {d : Nat} {E : EE} {a1 : Int32} {Q : Int32 → Mm → Prop} (hE : Mach l G RX10 cX10_on 3 (d + 1) E) (hR : RtI cX10_on E Q)   {K96 : Mm → Prop} {n : Nat} {v2 : Int32} {M : Mm} (h : lp_M_on_69 a1 Q K96 n v2 M) (hK96 : ∀  (M : Mm), K96 M → E 96 [(0, rv G 312), (1, .int a1)] [] M) : E 69 [(0, rv G 312), (1, .int a1), (2, .int v2)] [] M := by
  have key : ∀ (n : Nat) (v2 : Int32) (M : Mm), lp_M_on_69 a1 Q K96 n v2 M → E 69 [(0, rv G 312), (1, .int a1), (2, .int v2)] [] M := by
    intro n
    induction n with
    | zero => intro v2 M h; exact h.elim
    | succ n ih => intro v2 M h; exact w_M_on_69 hE hR  (show k_M_on_69 a1 Q (lp_M_on_69 a1 Q K96 n) K96 v2 M from h) ih hK96
  exact key n _ _ h
set_option maxHeartbeats 4000000 in
set_option maxRecDepth 20000 in
theorem w_M_on_98 {l : Launch} {G : Gs} {d : Nat} {E : EE} {a1 : Int32} {Q : Int32 → Mm → Prop} (hE : Mach l G RX10 cX10_on 3 (d + 1) E) (hR : RtI cX10_on E Q)   {KB : Int32 → Mm → Prop} {v2 : Int32} {M : Mm} (h : k_M_on_98 a1 Q KB v2 M) (hKB : ∀ (v2 : Int32)  (M : Mm), KB v2 M → E 98 [(0, rv G 312), (1, .int a1), (2, .int v2)] [] M) : E 98 [(0, rv G 312), (1, .int a1), (2, .int v2)] [] M := by
  unfold k_M_on_98 at h
  refine e_iload_n (pc := 98) hE rfl 2 rfl dX10_on_98 ?_
  refine e_bipush (pc := 99) (v := 31) hE kb_31 dX10_on_99 ?_
  refine e_aload_n (pc := 101) hE rfl 0 rfl dX10_on_101 ?_
  refine g_Md_deedMany (pc := 102) hE tw_1027 dX10_on_102 ?_
  refine e_imul (pc := 105) hE dX10_on_105 ?_
  refine e_icmp_ge (pc := 106) hE 133 dX10_on_106 (by decide) (fun c0 => ?_) (fun c0 => ?_)
  · have h := h.1 c0
    refine e_aload_n (pc := 133) hE rfl 0 rfl dX10_on_133 ?_
    refine g_Md_deedMany (pc := 134) hE tw_1027 dX10_on_134 ?_
    exact hR dX10_on_137 h
  · have h := h.2 c0
    refine e_aload_n (pc := 109) hE rfl 0 rfl dX10_on_109 ?_
    refine g_Md_log (pc := 110) hE tw_1028 dX10_on_110 ?_
    refine e_iload_n (pc := 113) hE rfl 2 rfl dX10_on_113 ?_
    refine e_aload_n (pc := 114) hE rfl 0 rfl dX10_on_114 ?_
    refine g_Md_keptLog (pc := 115) hE tw_1033 dX10_on_115 ?_
    refine e_sipush (pc := 118) (v := 1860) hE ks_1860 dX10_on_118 ?_
    refine e_iload_n (pc := 121) hE rfl 1 rfl dX10_on_121 ?_
    refine e_imul (pc := 122) hE dX10_on_122 ?_
    refine e_iload_n (pc := 123) hE rfl 2 rfl dX10_on_123 ?_
    refine e_iadd (pc := 124) hE dX10_on_124 ?_
    refine e_iald (pc := 125) hE ar_334 h.1 dX10_on_125 ?_
    have h := h.2
    refine e_topi (fun x126 ex126 => ?_)
    have h := h x126 ex126
    refine e_iast (pc := 126) hE ar_329 h.1 dX10_on_126 ?_
    have h := h.2
    obtain ⟨x127, ex127⟩ : ∃ y : Int32, y = v2 + (1 : Int32) := ⟨_, rfl⟩
    have h := h x127 ex127
    refine e_iinc (pc := 127) (k := 2) (v := x127) (lv' := [(2, .int x127), (0, rv G 312), (1, .int a1)]) hE dX10_on_127 rfl (by rw [ex127, ki_1]) (by decide) rfl ?_
    refine e_goto (pc := 130) hE 98 dX10_on_130 (by decide) ?_
    refine e_sub hE [1, 2, 0] rfl ?_
    exact hKB _ _ h
set_option maxHeartbeats 4000000 in
set_option maxRecDepth 20000 in
theorem w_lp_M_on_98 {l : Launch} {G : Gs} {d : Nat} {E : EE} {a1 : Int32} {Q : Int32 → Mm → Prop} (hE : Mach l G RX10 cX10_on 3 (d + 1) E) (hR : RtI cX10_on E Q)    {n : Nat} {v2 : Int32} {M : Mm} (h : lp_M_on_98 a1 Q n v2 M)  : E 98 [(0, rv G 312), (1, .int a1), (2, .int v2)] [] M := by
  have key : ∀ (n : Nat) (v2 : Int32) (M : Mm), lp_M_on_98 a1 Q n v2 M → E 98 [(0, rv G 312), (1, .int a1), (2, .int v2)] [] M := by
    intro n
    induction n with
    | zero => intro v2 M h; exact h.elim
    | succ n ih => intro v2 M h; exact w_M_on_98 hE hR  (show k_M_on_98 a1 Q (lp_M_on_98 a1 Q n)  v2 M from h) ih 
  exact key n _ _ h
set_option maxHeartbeats 4000000 in
set_option maxRecDepth 20000 in
theorem t_M_on {l : Launch} {G : Gs} {d : Nat} {a1 : Int32} {M : Mm} {Q : Int32 → Mm → Prop}  (h : wp_M_on a1 M Q) : CtI l G (d + 1) yX10_on cX10_on 3 (some .int) [rv G 312, .int a1] M Q := by
  refine CtI.mk (by decide) rfl (Nat.le_of_ble_eq_true rfl) (fun E hE hR => ?_)
  show E 0 [(0, rv G 312), (1, .int a1)] [] M
  unfold wp_M_on at h
  refine e_iload_n (pc := 0) hE rfl 1 rfl dX10_on_0 ?_
  refine e_iconst (pc := 1) (v := 0) hE ki_0 dX10_on_1 ?_
  refine e_iconst (pc := 2) (v := 2) hE ki_2 dX10_on_2 ?_
  refine c_M_in (pc := 3) (d := d + 0) hE (t_M_in (d := d)  h) tw_1142 (Nat.le_of_ble_eq_true rfl) dX10_on_3 (fun r3 M3 h => ?_)
  refine e_if_ne (pc := 6) hE 11 dX10_on_6 (by decide) (fun c0 => ?_) (fun c0 => ?_)
  · have h := h.1 c0
    refine e_aload_n (pc := 11) hE rfl 0 rfl dX10_on_11 ?_
    refine g_Md_isKept (pc := 12) hE tw_1029 dX10_on_12 ?_
    refine e_iload_n (pc := 15) hE rfl 1 rfl dX10_on_15 ?_
    refine e_zald (pc := 16) hE ar_330 h.1 dX10_on_16 ?_
    have h := h.2
    refine e_if_ne (pc := 17) hE 26 dX10_on_17 (by decide) (fun c0 => ?_) (fun c0 => ?_)
    · have h := h.1 c0
      refine e_aload_n (pc := 26) hE rfl 0 rfl dX10_on_26 ?_
      refine e_aload_n (pc := 27) hE rfl 0 rfl dX10_on_27 ?_
      refine g_Md_keptMany (pc := 28) hE tw_1030 dX10_on_28 ?_
      refine e_iload_n (pc := 31) hE rfl 1 rfl dX10_on_31 ?_
      refine e_iald (pc := 32) hE ar_331 h.1 dX10_on_32 ?_
      have h := h.2
      refine e_topi (fun x33 ex33 => ?_)
      have h := h x33 ex33
      refine p_Md_deedMany (pc := 33) hE tw_1027 dX10_on_33 ?_
      refine e_iconst (pc := 36) (v := 0) hE ki_0 dX10_on_36 ?_
      refine e_istore_n (pc := 37) (lv' := [(2, .int (0 : Int32)), (0, rv G 312), (1, .int a1)]) hE dX10_on_37 rfl (by decide) rfl ?_
      obtain ⟨n, h⟩ := h
      refine e_sub hE [1, 2, 0] rfl ?_
      refine w_lp_M_on_38 hE hR  h (fun M h => ?_)
      refine e_iconst (pc := 67) (v := 0) hE ki_0 dX10_on_67 ?_
      refine e_istore_n (pc := 68) (lv' := [(2, .int (0 : Int32)), (0, rv G 312), (1, .int a1)]) hE dX10_on_68 rfl (by decide) rfl ?_
      obtain ⟨n, h⟩ := h
      refine e_sub hE [1, 2, 0] rfl ?_
      refine w_lp_M_on_69 hE hR  h (fun M h => ?_)
      refine e_iconst (pc := 96) (v := 0) hE ki_0 dX10_on_96 ?_
      refine e_istore_n (pc := 97) (lv' := [(2, .int (0 : Int32)), (0, rv G 312), (1, .int a1)]) hE dX10_on_97 rfl (by decide) rfl ?_
      obtain ⟨n, h⟩ := h
      refine e_sub hE [1, 2, 0] rfl ?_
      refine w_lp_M_on_98 hE hR  h 
    · have h := h.2 c0
      refine e_aload_n (pc := 20) hE rfl 0 rfl dX10_on_20 ?_
      refine e_iconst (pc := 21) (v := 1) hE ki_1 dX10_on_21 ?_
      refine c_M_meets (pc := 22) (d := d + 0) hE (t_M_meets (d := d)  h) tw_1164 (Nat.le_of_ble_eq_true rfl) dX10_on_22 (fun r22 M22 h => ?_)
      exact hR dX10_on_25 h
  · have h := h.2 c0
    refine e_iconst (pc := 9) (v := -1) hE ki_m1 dX10_on_9 ?_
    exact hR dX10_on_10 h
set_option maxHeartbeats 4000000 in
set_option maxRecDepth 20000 in
theorem t_M_setMany {l : Launch} {G : Gs} {d : Nat}  {M : Mm} {Q : Int32 → Mm → Prop}  (h : wp_M_setMany  M Q) : CtI l G (d + 0) yX10_setMany cX10_setMany 1 (some .int) [rv G 312] M Q := by
  refine CtI.mk (by decide) rfl (Nat.le_of_ble_eq_true rfl) (fun E hE hR => ?_)
  show E 0 [(0, rv G 312)] [] M
  unfold wp_M_setMany at h
  refine e_iconst (pc := 0) (v := 1) hE ki_1 dX10_setMany_0 ?_
  refine e_aload_n (pc := 1) hE rfl 0 rfl dX10_setMany_1 ?_
  refine g_Md_n (pc := 2) hE tw_1009 dX10_setMany_2 ?_
  refine e_ishl (pc := 5) hE dX10_setMany_5 ?_
  exact hR dX10_setMany_6 h
set_option maxHeartbeats 4000000 in
set_option maxRecDepth 20000 in
theorem w_M_copyTo_2 {l : Launch} {G : Gs} {d : Nat} {E : EE} {a1 : Int32} {a2 : Int32} {Q : Mm → Prop} (hE : Mach l G RX10 cX10_copyTo 4 (d + 0) E) (hR : RtV cX10_copyTo E Q)   {KB : Int32 → Mm → Prop} {v3 : Int32} {M : Mm} (h : k_M_copyTo_2 a1 a2 Q KB v3 M) (hKB : ∀ (v3 : Int32)  (M : Mm), KB v3 M → E 2 [(0, rv G 312), (1, .int a1), (2, .int a2), (3, .int v3)] [] M) : E 2 [(0, rv G 312), (1, .int a1), (2, .int a2), (3, .int v3)] [] M := by
  unfold k_M_copyTo_2 at h
  refine e_iload_n (pc := 2) hE rfl 3 rfl dX10_copyTo_2 ?_
  refine e_bipush (pc := 3) (v := 31) hE kb_31 dX10_copyTo_3 ?_
  refine e_icmp_ge (pc := 5) hE 36 dX10_copyTo_5 (by decide) (fun c0 => ?_) (fun c0 => ?_)
  · have h := h.1 c0
    exact hR dX10_copyTo_36 h
  · have h := h.2 c0
    refine e_aload_n (pc := 8) hE rfl 0 rfl dX10_copyTo_8 ?_
    refine g_Md_all (pc := 9) hE tw_1024 dX10_copyTo_9 ?_
    refine e_bipush (pc := 12) (v := 31) hE kb_31 dX10_copyTo_12 ?_
    refine e_iload_n (pc := 14) hE rfl 2 rfl dX10_copyTo_14 ?_
    refine e_imul (pc := 15) hE dX10_copyTo_15 ?_
    refine e_iload_n (pc := 16) hE rfl 3 rfl dX10_copyTo_16 ?_
    refine e_iadd (pc := 17) hE dX10_copyTo_17 ?_
    refine e_aload_n (pc := 18) hE rfl 0 rfl dX10_copyTo_18 ?_
    refine g_Md_all (pc := 19) hE tw_1024 dX10_copyTo_19 ?_
    refine e_bipush (pc := 22) (v := 31) hE kb_31 dX10_copyTo_22 ?_
    refine e_iload_n (pc := 24) hE rfl 1 rfl dX10_copyTo_24 ?_
    refine e_imul (pc := 25) hE dX10_copyTo_25 ?_
    refine e_iload_n (pc := 26) hE rfl 3 rfl dX10_copyTo_26 ?_
    refine e_iadd (pc := 27) hE dX10_copyTo_27 ?_
    refine e_iald (pc := 28) hE ar_327 h.1 dX10_copyTo_28 ?_
    have h := h.2
    refine e_topi (fun x29 ex29 => ?_)
    have h := h x29 ex29
    refine e_iast (pc := 29) hE ar_327 h.1 dX10_copyTo_29 ?_
    have h := h.2
    obtain ⟨x30, ex30⟩ : ∃ y : Int32, y = v3 + (1 : Int32) := ⟨_, rfl⟩
    have h := h x30 ex30
    refine e_iinc (pc := 30) (k := 3) (v := x30) (lv' := [(3, .int x30), (0, rv G 312), (1, .int a1), (2, .int a2)]) hE dX10_copyTo_30 rfl (by rw [ex30, ki_1]) (by decide) rfl ?_
    refine e_goto (pc := 33) hE 2 dX10_copyTo_33 (by decide) ?_
    refine e_sub hE [1, 2, 3, 0] rfl ?_
    exact hKB _ _ h
set_option maxHeartbeats 4000000 in
set_option maxRecDepth 20000 in
theorem w_lp_M_copyTo_2 {l : Launch} {G : Gs} {d : Nat} {E : EE} {a1 : Int32} {a2 : Int32} {Q : Mm → Prop} (hE : Mach l G RX10 cX10_copyTo 4 (d + 0) E) (hR : RtV cX10_copyTo E Q)    {n : Nat} {v3 : Int32} {M : Mm} (h : lp_M_copyTo_2 a1 a2 Q n v3 M)  : E 2 [(0, rv G 312), (1, .int a1), (2, .int a2), (3, .int v3)] [] M := by
  have key : ∀ (n : Nat) (v3 : Int32) (M : Mm), lp_M_copyTo_2 a1 a2 Q n v3 M → E 2 [(0, rv G 312), (1, .int a1), (2, .int a2), (3, .int v3)] [] M := by
    intro n
    induction n with
    | zero => intro v3 M h; exact h.elim
    | succ n ih => intro v3 M h; exact w_M_copyTo_2 hE hR  (show k_M_copyTo_2 a1 a2 Q (lp_M_copyTo_2 a1 a2 Q n)  v3 M from h) ih 
  exact key n _ _ h
set_option maxHeartbeats 4000000 in
set_option maxRecDepth 20000 in
theorem t_M_copyTo {l : Launch} {G : Gs} {d : Nat} {a1 : Int32} {a2 : Int32} {M : Mm} {Q : Mm → Prop}  (h : wp_M_copyTo a1 a2 M Q) : CtV l G (d + 0) yX10_copyTo cX10_copyTo 4 (none) [rv G 312, .int a1, .int a2] M Q := by
  refine CtV.mk (by decide) rfl (Nat.le_of_ble_eq_true rfl) (fun E hE hR => ?_)
  show E 0 [(0, rv G 312), (1, .int a1), (2, .int a2)] [] M
  unfold wp_M_copyTo at h
  refine e_iconst (pc := 0) (v := 0) hE ki_0 dX10_copyTo_0 ?_
  refine e_istore_n (pc := 1) (lv' := [(3, .int (0 : Int32)), (0, rv G 312), (1, .int a1), (2, .int a2)]) hE dX10_copyTo_1 rfl (by decide) rfl ?_
  obtain ⟨n, h⟩ := h
  refine e_sub hE [1, 2, 3, 0] rfl ?_
  refine w_lp_M_copyTo_2 hE hR  h 
set_option maxHeartbeats 4000000 in
set_option maxRecDepth 20000 in
theorem w_M_stampsOf_47 {l : Launch} {G : Gs} {d : Nat} {E : EE} {a1 : Int32} {a2 : Int32} {Q : Int32 → Mm → Prop} (hE : Mach l G RX10 cX10_stampsOf 5 (d + 3) E) (hR : RtI cX10_stampsOf E Q)   {KB : Int32 → Int32 → Mm → Prop} {v3 : Int32} {v4 : Int32} {M : Mm} (h : k_M_stampsOf_47 a1 a2 Q KB v3 v4 M) (hKB : ∀ (v3 : Int32) (v4 : Int32)  (M : Mm), KB v3 v4 M → E 5 [(0, rv G 312), (1, .int a1), (2, .int a2), (3, .int v3), (4, .int v4)] [] M) : E 47 [(0, rv G 312), (1, .int a1), (2, .int a2), (3, .int v3), (4, .int v4)] [] M := by
  unfold k_M_stampsOf_47 at h
  obtain ⟨x47, ex47⟩ : ∃ y : Int32, y = v4 + (1 : Int32) := ⟨_, rfl⟩
  have h := h x47 ex47
  refine e_iinc (pc := 47) (k := 4) (v := x47) (lv' := [(4, .int x47), (0, rv G 312), (1, .int a1), (2, .int a2), (3, .int v3)]) hE dX10_stampsOf_47 rfl (by rw [ex47, ki_1]) (by decide) rfl ?_
  refine e_goto (pc := 50) hE 5 dX10_stampsOf_50 (by decide) ?_
  refine e_sub hE [1, 2, 3, 4, 0] rfl ?_
  exact hKB _ _ _ h
set_option maxHeartbeats 4000000 in
set_option maxRecDepth 20000 in
theorem w_M_stampsOf_5 {l : Launch} {G : Gs} {d : Nat} {E : EE} {a1 : Int32} {a2 : Int32} {Q : Int32 → Mm → Prop} (hE : Mach l G RX10 cX10_stampsOf 5 (d + 3) E) (hR : RtI cX10_stampsOf E Q)   {KB : Int32 → Int32 → Mm → Prop} {v3 : Int32} {v4 : Int32} {M : Mm} (h : k_M_stampsOf_5 a1 a2 Q KB v3 v4 M) (hKB : ∀ (v3 : Int32) (v4 : Int32)  (M : Mm), KB v3 v4 M → E 5 [(0, rv G 312), (1, .int a1), (2, .int a2), (3, .int v3), (4, .int v4)] [] M) : E 5 [(0, rv G 312), (1, .int a1), (2, .int a2), (3, .int v3), (4, .int v4)] [] M := by
  unfold k_M_stampsOf_5 at h
  refine e_iload (pc := 5) hE 4 rfl dX10_stampsOf_5 ?_
  refine e_aload_n (pc := 7) hE rfl 0 rfl dX10_stampsOf_7 ?_
  refine g_Md_n (pc := 8) hE tw_1009 dX10_stampsOf_8 ?_
  refine e_icmp_ge (pc := 11) hE 53 dX10_stampsOf_11 (by decide) (fun c0 => ?_) (fun c0 => ?_)
  · have h := h.1 c0
    refine e_iload_n (pc := 53) hE rfl 3 rfl dX10_stampsOf_53 ?_
    exact hR dX10_stampsOf_54 h
  · have h := h.2 c0
    refine e_iload_n (pc := 14) hE rfl 2 rfl dX10_stampsOf_14 ?_
    refine e_iload (pc := 15) hE 4 rfl dX10_stampsOf_15 ?_
    refine c_M_has (pc := 17) (d := d + 2 + 0) hE (t_M_has (d := d + 2)  h) tw_1235 (Nat.le_of_ble_eq_true rfl) dX10_stampsOf_17 (fun r17 M17 h => ?_)
    refine e_if_eq (pc := 20) hE 47 dX10_stampsOf_20 (by decide) (fun c0 => ?_) (fun c0 => ?_)
    · have h := h.1 c0
      exact w_M_stampsOf_47 hE hR h hKB
    · have h := h.2 c0
      refine e_aload_n (pc := 23) hE rfl 0 rfl dX10_stampsOf_23 ?_
      refine e_iload_n (pc := 24) hE rfl 1 rfl dX10_stampsOf_24 ?_
      refine e_iload (pc := 25) hE 4 rfl dX10_stampsOf_25 ?_
      refine c_M_mayBe (pc := 27) (d := d + 2) hE (t_M_mayBe (d := d)  h) tw_1261 (Nat.le_of_ble_eq_true rfl) dX10_stampsOf_27 (fun r27 M27 h => ?_)
      refine e_if_eq (pc := 30) hE 47 dX10_stampsOf_30 (by decide) (fun c0 => ?_) (fun c0 => ?_)
      · have h := h.1 c0
        exact w_M_stampsOf_47 hE hR h hKB
      · have h := h.2 c0
        refine e_aload_n (pc := 33) hE rfl 0 rfl dX10_stampsOf_33 ?_
        refine e_iload_n (pc := 34) hE rfl 1 rfl dX10_stampsOf_34 ?_
        refine e_iload (pc := 35) hE 4 rfl dX10_stampsOf_35 ?_
        refine c_M_stamps (pc := 37) (d := d + 2) hE (t_M_stamps (d := d)  h) tw_1316 (Nat.le_of_ble_eq_true rfl) dX10_stampsOf_37 (fun M37 h => ?_)
        refine e_iload_n (pc := 40) hE rfl 3 rfl dX10_stampsOf_40 ?_
        refine e_iconst (pc := 41) (v := 1) hE ki_1 dX10_stampsOf_41 ?_
        refine e_iload (pc := 42) hE 4 rfl dX10_stampsOf_42 ?_
        refine e_ishl (pc := 44) hE dX10_stampsOf_44 ?_
        refine e_ior (pc := 45) hE dX10_stampsOf_45 ?_
        refine e_topi (fun x46 ex46 => ?_)
        have h := h x46 ex46
        refine e_istore_n (pc := 46) (lv' := [(3, .int x46), (0, rv G 312), (1, .int a1), (2, .int a2), (4, .int v4)]) hE dX10_stampsOf_46 rfl (by decide) rfl ?_
        refine e_sub hE [1, 2, 3, 0, 4] rfl ?_
        exact w_M_stampsOf_47 hE hR h hKB
set_option maxHeartbeats 4000000 in
set_option maxRecDepth 20000 in
theorem w_lp_M_stampsOf_5 {l : Launch} {G : Gs} {d : Nat} {E : EE} {a1 : Int32} {a2 : Int32} {Q : Int32 → Mm → Prop} (hE : Mach l G RX10 cX10_stampsOf 5 (d + 3) E) (hR : RtI cX10_stampsOf E Q)    {n : Nat} {v3 : Int32} {v4 : Int32} {M : Mm} (h : lp_M_stampsOf_5 a1 a2 Q n v3 v4 M)  : E 5 [(0, rv G 312), (1, .int a1), (2, .int a2), (3, .int v3), (4, .int v4)] [] M := by
  have key : ∀ (n : Nat) (v3 : Int32) (v4 : Int32) (M : Mm), lp_M_stampsOf_5 a1 a2 Q n v3 v4 M → E 5 [(0, rv G 312), (1, .int a1), (2, .int a2), (3, .int v3), (4, .int v4)] [] M := by
    intro n
    induction n with
    | zero => intro v3 v4 M h; exact h.elim
    | succ n ih => intro v3 v4 M h; exact w_M_stampsOf_5 hE hR  (show k_M_stampsOf_5 a1 a2 Q (lp_M_stampsOf_5 a1 a2 Q n)  v3 v4 M from h) ih 
  exact key n _ _ _ h
set_option maxHeartbeats 4000000 in
set_option maxRecDepth 20000 in
theorem t_M_stampsOf {l : Launch} {G : Gs} {d : Nat} {a1 : Int32} {a2 : Int32} {M : Mm} {Q : Int32 → Mm → Prop}  (h : wp_M_stampsOf a1 a2 M Q) : CtI l G (d + 3) yX10_stampsOf cX10_stampsOf 5 (some .int) [rv G 312, .int a1, .int a2] M Q := by
  refine CtI.mk (by decide) rfl (Nat.le_of_ble_eq_true rfl) (fun E hE hR => ?_)
  show E 0 [(0, rv G 312), (1, .int a1), (2, .int a2)] [] M
  unfold wp_M_stampsOf at h
  refine e_iconst (pc := 0) (v := 0) hE ki_0 dX10_stampsOf_0 ?_
  refine e_istore_n (pc := 1) (lv' := [(3, .int (0 : Int32)), (0, rv G 312), (1, .int a1), (2, .int a2)]) hE dX10_stampsOf_1 rfl (by decide) rfl ?_
  refine e_iconst (pc := 2) (v := 0) hE ki_0 dX10_stampsOf_2 ?_
  refine e_istore (pc := 3) (lv' := [(4, .int (0 : Int32)), (3, .int (0 : Int32)), (0, rv G 312), (1, .int a1), (2, .int a2)]) hE dX10_stampsOf_3 (by decide) rfl ?_
  obtain ⟨n, h⟩ := h
  refine e_sub hE [2, 3, 4, 1, 0] rfl ?_
  refine w_lp_M_stampsOf_5 hE hR  h 
set_option maxHeartbeats 4000000 in
set_option maxRecDepth 20000 in
theorem w_M_run_93 {l : Launch} {G : Gs} {d : Nat} {E : EE} {a1 : Int32} {Q : Int32 → Mm → Prop} (hE : Mach l G RX10 cX10_run 6 (d + 4) E) (hR : RtI cX10_run E Q)   {KB : Int32 → Int32 → Mm → Prop} {K100 : Int32 → Mm → Prop} {v3 : Int32} {s0 : Int32} {M : Mm} (h : k_M_run_93 a1 Q KB K100 v3 s0 M) (hKB : ∀ (v2 : Int32) (v3 : Int32)  (M : Mm), KB v2 v3 M → E 55 [(0, rv G 312), (1, .int a1), (2, .int v2), (3, .int v3)] [] M) (hK100 : ∀ (v2 : Int32)  (M : Mm), K100 v2 M → E 100 [(0, rv G 312), (1, .int a1), (2, .int v2)] [] M) : E 93 [(0, rv G 312), (1, .int a1), (3, .int v3)] [.int s0] M := by
  unfold k_M_run_93 at h
  refine e_istore_n (pc := 93) (lv' := [(2, .int s0), (0, rv G 312), (1, .int a1), (3, .int v3)]) hE dX10_run_93 rfl (by decide) rfl ?_
  obtain ⟨x94, ex94⟩ : ∃ y : Int32, y = v3 + (1 : Int32) := ⟨_, rfl⟩
  have h := h x94 ex94
  refine e_iinc (pc := 94) (k := 3) (v := x94) (lv' := [(3, .int x94), (2, .int s0), (0, rv G 312), (1, .int a1)]) hE dX10_run_94 rfl (by rw [ex94, ki_1]) (by decide) rfl ?_
  refine e_goto (pc := 97) hE 55 dX10_run_97 (by decide) ?_
  refine e_sub hE [2, 3, 1, 0] rfl ?_
  exact hKB _ _ _ h
set_option maxHeartbeats 4000000 in
set_option maxRecDepth 20000 in
theorem w_M_run_92 {l : Launch} {G : Gs} {d : Nat} {E : EE} {a1 : Int32} {Q : Int32 → Mm → Prop} (hE : Mach l G RX10 cX10_run 6 (d + 4) E) (hR : RtI cX10_run E Q)   {KB : Int32 → Int32 → Mm → Prop} {K100 : Int32 → Mm → Prop} {v3 : Int32} {M : Mm} (h : k_M_run_92 a1 Q KB K100 v3 M) (hKB : ∀ (v2 : Int32) (v3 : Int32)  (M : Mm), KB v2 v3 M → E 55 [(0, rv G 312), (1, .int a1), (2, .int v2), (3, .int v3)] [] M) (hK100 : ∀ (v2 : Int32)  (M : Mm), K100 v2 M → E 100 [(0, rv G 312), (1, .int a1), (2, .int v2)] [] M) : E 92 [(0, rv G 312), (1, .int a1), (3, .int v3)] [] M := by
  unfold k_M_run_92 at h
  refine e_iconst (pc := 92) (v := 0) hE ki_0 dX10_run_92 ?_
  exact w_M_run_93 hE hR h hKB hK100
set_option maxHeartbeats 4000000 in
set_option maxRecDepth 20000 in
theorem w_M_run_55 {l : Launch} {G : Gs} {d : Nat} {E : EE} {a1 : Int32} {Q : Int32 → Mm → Prop} (hE : Mach l G RX10 cX10_run 6 (d + 4) E) (hR : RtI cX10_run E Q)   {KB : Int32 → Int32 → Mm → Prop} {K100 : Int32 → Mm → Prop} {v2 : Int32} {v3 : Int32} {M : Mm} (h : k_M_run_55 a1 Q KB K100 v2 v3 M) (hKB : ∀ (v2 : Int32) (v3 : Int32)  (M : Mm), KB v2 v3 M → E 55 [(0, rv G 312), (1, .int a1), (2, .int v2), (3, .int v3)] [] M) (hK100 : ∀ (v2 : Int32)  (M : Mm), K100 v2 M → E 100 [(0, rv G 312), (1, .int a1), (2, .int v2)] [] M) : E 55 [(0, rv G 312), (1, .int a1), (2, .int v2), (3, .int v3)] [] M := by
  unfold k_M_run_55 at h
  refine e_iload_n (pc := 55) hE rfl 3 rfl dX10_run_55 ?_
  refine e_aload_n (pc := 56) hE rfl 0 rfl dX10_run_56 ?_
  refine g_Md_sizes (pc := 57) hE tw_1004 dX10_run_57 ?_
  refine e_iload_n (pc := 60) hE rfl 1 rfl dX10_run_60 ?_
  refine e_iald (pc := 61) hE ar_314 h.1 dX10_run_61 ?_
  have h := h.2
  refine e_icmp_ge (pc := 62) hE 100 dX10_run_62 (by decide) (fun c0 => ?_) (fun c0 => ?_)
  · have h := h.1 c0
    refine e_sub hE [0, 1, 2] rfl ?_
    exact hK100 _ _ h
  · have h := h.2 c0
    refine e_iload_n (pc := 65) hE rfl 2 rfl dX10_run_65 ?_
    refine e_if_eq (pc := 66) hE 92 dX10_run_66 (by decide) (fun c0 => ?_) (fun c0 => ?_)
    · have h := h.1 c0
      refine e_sub hE [0, 1, 3] rfl ?_
      exact w_M_run_92 hE hR h hKB hK100
    · have h := h.2 c0
      refine e_aload_n (pc := 69) hE rfl 0 rfl dX10_run_69 ?_
      refine e_iload_n (pc := 70) hE rfl 1 rfl dX10_run_70 ?_
      refine e_iload_n (pc := 71) hE rfl 3 rfl dX10_run_71 ?_
      refine c_M_rowAt (pc := 72) (d := d + 3 + 0) hE (t_M_rowAt (d := d + 3)  h) tw_1172 (Nat.le_of_ble_eq_true rfl) dX10_run_72 (fun r72 M72 h => ?_)
      refine e_iconst (pc := 75) (v := 0) hE ki_0 dX10_run_75 ?_
      refine e_aload_n (pc := 76) hE rfl 0 rfl dX10_run_76 ?_
      refine c_M_setMany (pc := 77) (d := d + 3 + 0) hE (t_M_setMany (d := d + 3)  h) tw_1370 (Nat.le_of_ble_eq_true rfl) dX10_run_77 (fun r77 M77 h => ?_)
      refine e_iconst (pc := 80) (v := 1) hE ki_1 dX10_run_80 ?_
      refine e_isub (pc := 81) hE dX10_run_81 ?_
      refine c_M_in (pc := 82) (d := d + 3 + 0) hE (t_M_in (d := d + 3)  h) tw_1142 (Nat.le_of_ble_eq_true rfl) dX10_run_82 (fun r82 M82 h => ?_)
      refine e_if_eq (pc := 85) hE 92 dX10_run_85 (by decide) (fun c0 => ?_) (fun c0 => ?_)
      · have h := h.1 c0
        refine e_sub hE [0, 1, 3] rfl ?_
        exact w_M_run_92 hE hR h hKB hK100
      · have h := h.2 c0
        refine e_iconst (pc := 88) (v := 1) hE ki_1 dX10_run_88 ?_
        refine e_goto (pc := 89) hE 93 dX10_run_89 (by decide) ?_
        refine e_sub hE [0, 1, 3] rfl ?_
        exact w_M_run_93 hE hR h hKB hK100
set_option maxHeartbeats 4000000 in
set_option maxRecDepth 20000 in
theorem w_lp_M_run_55 {l : Launch} {G : Gs} {d : Nat} {E : EE} {a1 : Int32} {Q : Int32 → Mm → Prop} (hE : Mach l G RX10 cX10_run 6 (d + 4) E) (hR : RtI cX10_run E Q)   {K100 : Int32 → Mm → Prop} {n : Nat} {v2 : Int32} {v3 : Int32} {M : Mm} (h : lp_M_run_55 a1 Q K100 n v2 v3 M) (hK100 : ∀ (v2 : Int32)  (M : Mm), K100 v2 M → E 100 [(0, rv G 312), (1, .int a1), (2, .int v2)] [] M) : E 55 [(0, rv G 312), (1, .int a1), (2, .int v2), (3, .int v3)] [] M := by
  have key : ∀ (n : Nat) (v2 : Int32) (v3 : Int32) (M : Mm), lp_M_run_55 a1 Q K100 n v2 v3 M → E 55 [(0, rv G 312), (1, .int a1), (2, .int v2), (3, .int v3)] [] M := by
    intro n
    induction n with
    | zero => intro v2 v3 M h; exact h.elim
    | succ n ih => intro v2 v3 M h; exact w_M_run_55 hE hR  (show k_M_run_55 a1 Q (lp_M_run_55 a1 Q K100 n) K100 v2 v3 M from h) ih hK100
  exact key n _ _ _ h
set_option maxHeartbeats 4000000 in
set_option maxRecDepth 20000 in
theorem w_M_run_124 {l : Launch} {G : Gs} {d : Nat} {E : EE} {a1 : Int32} {Q : Int32 → Mm → Prop} (hE : Mach l G RX10 cX10_run 6 (d + 4) E) (hR : RtI cX10_run E Q)   {KB : Int32 → Int32 → Int32 → Mm → Prop} {K169 : Int32 → Int32 → Mm → Prop} {v3 : Int32} {v4 : Int32} {v5 : Int32} {M : Mm} (h : k_M_run_124 a1 Q KB K169 v3 v4 v5 M) (hKB : ∀ (v3 : Int32) (v4 : Int32) (v5 : Int32)  (M : Mm), KB v3 v4 v5 M → E 124 [(0, rv G 312), (1, .int a1), (3, .int v3), (4, .int v4), (5, .int v5)] [] M) (hK169 : ∀ (v3 : Int32) (v4 : Int32)  (M : Mm), K169 v3 v4 M → E 169 [(0, rv G 312), (3, .int v3), (4, .int v4)] [] M) : E 124 [(0, rv G 312), (1, .int a1), (3, .int v3), (4, .int v4), (5, .int v5)] [] M := by
  unfold k_M_run_124 at h
  refine e_iload (pc := 124) hE 4 rfl dX10_run_124 ?_
  refine e_aload_n (pc := 126) hE rfl 0 rfl dX10_run_126 ?_
  refine g_Md_sizes (pc := 127) hE tw_1004 dX10_run_127 ?_
  refine e_iload_n (pc := 130) hE rfl 1 rfl dX10_run_130 ?_
  refine e_iald (pc := 131) hE ar_314 h.1 dX10_run_131 ?_
  have h := h.2
  refine e_icmp_ge (pc := 132) hE 169 dX10_run_132 (by decide) (fun c0 => ?_) (fun c0 => ?_)
  · have h := h.1 c0
    refine e_sub hE [0, 2, 3] rfl ?_
    exact hK169 _ _ _ h
  · have h := h.2 c0
    refine e_iload_n (pc := 135) hE rfl 2 rfl dX10_run_135 ?_
    refine e_aload_n (pc := 136) hE rfl 0 rfl dX10_run_136 ?_
    refine e_iconst (pc := 137) (v := 1) hE ki_1 dX10_run_137 ?_
    refine e_aload_n (pc := 138) hE rfl 0 rfl dX10_run_138 ?_
    refine e_iload_n (pc := 139) hE rfl 1 rfl dX10_run_139 ?_
    refine e_iload (pc := 140) hE 4 rfl dX10_run_140 ?_
    refine c_M_rowAt (pc := 142) (d := d + 3 + 0) hE (t_M_rowAt (d := d + 3)  h) tw_1172 (Nat.le_of_ble_eq_true rfl) dX10_run_142 (fun r142 M142 h => ?_)
    refine c_M_stampsOf (pc := 145) (d := d + 3) hE (t_M_stampsOf (d := d)  h) tw_1378 (Nat.le_of_ble_eq_true rfl) dX10_run_145 (fun r145 M145 h => ?_)
    refine c_M_bits (pc := 148) (d := d + 3 + 0) hE (t_M_bits (d := d + 3)  h) tw_1335 (Nat.le_of_ble_eq_true rfl) dX10_run_148 (fun r148 M148 h => ?_)
    refine e_iadd (pc := 151) hE dX10_run_151 ?_
    refine e_topi (fun x152 ex152 => ?_)
    have h := h x152 ex152
    refine e_istore_n (pc := 152) (lv' := [(3, .int x152), (0, rv G 312), (1, .int a1), (4, .int v4), (5, .int v5)]) hE dX10_run_152 rfl (by decide) rfl ?_
    refine e_iload (pc := 153) hE 3 rfl dX10_run_153 ?_
    refine e_aload_n (pc := 155) hE rfl 1 rfl dX10_run_155 ?_
    refine e_iconst (pc := 156) (v := 1) hE ki_1 dX10_run_156 ?_
    refine c_M_passes (pc := 157) (d := d + 3) hE (t_M_passes (d := d)  h) tw_1324 (Nat.le_of_ble_eq_true rfl) dX10_run_157 (fun r157 M157 h => ?_)
    refine e_iadd (pc := 160) hE dX10_run_160 ?_
    refine e_topi (fun x161 ex161 => ?_)
    have h := h x161 ex161
    refine e_istore (pc := 161) (lv' := [(4, .int x161), (3, .int x152), (0, rv G 312), (1, .int a1), (5, .int v5)]) hE dX10_run_161 (by decide) rfl ?_
    obtain ⟨x163, ex163⟩ : ∃ y : Int32, y = v5 + (1 : Int32) := ⟨_, rfl⟩
    have h := h x163 ex163
    refine e_iinc (pc := 163) (k := 4) (v := x163) (lv' := [(5, .int x163), (4, .int x161), (3, .int x152), (0, rv G 312), (1, .int a1)]) hE dX10_run_163 rfl (by rw [ex163, ki_1]) (by decide) rfl ?_
    refine e_goto (pc := 166) hE 124 dX10_run_166 (by decide) ?_
    refine e_sub hE [3, 4, 2, 1, 0] rfl ?_
    exact hKB _ _ _ _ h
set_option maxHeartbeats 4000000 in
set_option maxRecDepth 20000 in
theorem w_lp_M_run_124 {l : Launch} {G : Gs} {d : Nat} {E : EE} {a1 : Int32} {Q : Int32 → Mm → Prop} (hE : Mach l G RX10 cX10_run 6 (d + 4) E) (hR : RtI cX10_run E Q)   {K169 : Int32 → Int32 → Mm → Prop} {n : Nat} {v3 : Int32} {v4 : Int32} {v5 : Int32} {M : Mm} (h : lp_M_run_124 a1 Q K169 n v3 v4 v5 M) (hK169 : ∀ (v3 : Int32) (v4 : Int32)  (M : Mm), K169 v3 v4 M → E 169 [(0, rv G 312), (3, .int v3), (4, .int v4)] [] M) : E 124 [(0, rv G 312), (1, .int a1), (3, .int v3), (4, .int v4), (5, .int v5)] [] M := by
  have key : ∀ (n : Nat) (v3 : Int32) (v4 : Int32) (v5 : Int32) (M : Mm), lp_M_run_124 a1 Q K169 n v3 v4 v5 M → E 124 [(0, rv G 312), (1, .int a1), (3, .int v3), (4, .int v4), (5, .int v5)] [] M := by
    intro n
    induction n with
    | zero => intro v3 v4 v5 M h; exact h.elim
    | succ n ih => intro v3 v4 v5 M h; exact w_M_run_124 hE hR  (show k_M_run_124 a1 Q (lp_M_run_124 a1 Q K169 n) K169 v3 v4 v5 M from h) ih hK169
  exact key n _ _ _ _ h
set_option maxHeartbeats 4000000 in
set_option maxRecDepth 20000 in
theorem t_M_run {l : Launch} {G : Gs} {d : Nat} {a1 : Int32} {M : Mm} {Q : Int32 → Mm → Prop}  (h : wp_M_run a1 M Q) : CtI l G (d + 4) yX10_run cX10_run 6 (some .int) [rv G 312, .int a1] M Q := by
  refine CtI.mk (by decide) rfl (Nat.le_of_ble_eq_true rfl) (fun E hE hR => ?_)
  show E 0 [(0, rv G 312), (1, .int a1)] [] M
  unfold wp_M_run at h
  refine e_iload_n (pc := 0) hE rfl 1 rfl dX10_run_0 ?_
  refine c_M_isRow (pc := 1) (d := d + 2 + 1) hE (t_M_isRow (d := d + 2)  h) tw_1161 (Nat.le_of_ble_eq_true rfl) dX10_run_1 (fun r1 M1 h => ?_)
  refine e_if_ne (pc := 4) hE 9 dX10_run_4 (by decide) (fun c0 => ?_) (fun c0 => ?_)
  · have h := h.1 c0
    refine e_aload_n (pc := 9) hE rfl 0 rfl dX10_run_9 ?_
    refine g_Md_n (pc := 10) hE tw_1009 dX10_run_10 ?_
    refine e_if_ne (pc := 13) hE 19 dX10_run_13 (by decide) (fun c0 => ?_) (fun c0 => ?_)
    · have h := h.1 c0
      refine e_aload_n (pc := 19) hE rfl 0 rfl dX10_run_19 ?_
      refine g_Md_sizes (pc := 20) hE tw_1004 dX10_run_20 ?_
      refine e_iload_n (pc := 23) hE rfl 1 rfl dX10_run_23 ?_
      refine e_iald (pc := 24) hE ar_314 h.1 dX10_run_24 ?_
      have h := h.2
      refine e_if_ge (pc := 25) hE 34 dX10_run_25 (by decide) (fun c0 => ?_) (fun c0 => ?_)
      · have h := h.1 c0
        refine e_aload_n (pc := 34) hE rfl 0 rfl dX10_run_34 ?_
        refine g_Md_sizes (pc := 35) hE tw_1004 dX10_run_35 ?_
        refine e_iload_n (pc := 38) hE rfl 1 rfl dX10_run_38 ?_
        refine e_iald (pc := 39) hE ar_314 h.1 dX10_run_39 ?_
        have h := h.2
        refine e_bipush (pc := 40) (v := 12) hE kb_12 dX10_run_40 ?_
        refine e_icmp_le (pc := 42) hE 51 dX10_run_42 (by decide) (fun c0 => ?_) (fun c0 => ?_)
        · have h := h.1 c0
          refine e_iconst (pc := 51) (v := 1) hE ki_1 dX10_run_51 ?_
          refine e_istore_n (pc := 52) (lv' := [(2, .int (1 : Int32)), (0, rv G 312), (1, .int a1)]) hE dX10_run_52 rfl (by decide) rfl ?_
          refine e_iconst (pc := 53) (v := 0) hE ki_0 dX10_run_53 ?_
          refine e_istore_n (pc := 54) (lv' := [(3, .int (0 : Int32)), (2, .int (1 : Int32)), (0, rv G 312), (1, .int a1)]) hE dX10_run_54 rfl (by decide) rfl ?_
          obtain ⟨n, h⟩ := h
          refine e_sub hE [2, 3, 1, 0] rfl ?_
          refine w_lp_M_run_55 hE hR  h (fun v2 M h => ?_)
          refine e_iload_n (pc := 100) hE rfl 2 rfl dX10_run_100 ?_
          refine e_if_ne (pc := 101) hE 110 dX10_run_101 (by decide) (fun c0 => ?_) (fun c0 => ?_)
          · have h := h.1 c0
            refine e_aload_n (pc := 110) hE rfl 0 rfl dX10_run_110 ?_
            refine e_iconst (pc := 111) (v := 0) hE ki_0 dX10_run_111 ?_
            refine e_iconst (pc := 112) (v := 1) hE ki_1 dX10_run_112 ?_
            refine c_M_copyTo (pc := 113) (d := d + 3 + 0) hE (t_M_copyTo (d := d + 3)  h) tw_1374 (Nat.le_of_ble_eq_true rfl) dX10_run_113 (fun M113 h => ?_)
            refine e_iconst (pc := 116) (v := 0) hE ki_0 dX10_run_116 ?_
            refine e_istore_n (pc := 117) (lv' := [(3, .int (0 : Int32)), (0, rv G 312), (1, .int a1), (2, .int v2)]) hE dX10_run_117 rfl (by decide) rfl ?_
            refine e_iconst (pc := 118) (v := 0) hE ki_0 dX10_run_118 ?_
            refine e_istore (pc := 119) (lv' := [(4, .int (0 : Int32)), (3, .int (0 : Int32)), (0, rv G 312), (1, .int a1), (2, .int v2)]) hE dX10_run_119 (by decide) rfl ?_
            refine e_iconst (pc := 121) (v := 0) hE ki_0 dX10_run_121 ?_
            refine e_istore (pc := 122) (lv' := [(5, .int (0 : Int32)), (4, .int (0 : Int32)), (3, .int (0 : Int32)), (0, rv G 312), (1, .int a1), (2, .int v2)]) hE dX10_run_122 (by decide) rfl ?_
            obtain ⟨n, h⟩ := h
            refine e_sub hE [3, 4, 2, 1, 0] rfl ?_
            refine w_lp_M_run_124 hE hR  h (fun v3 v4 M h => ?_)
            refine e_aload_n (pc := 169) hE rfl 0 rfl dX10_run_169 ?_
            refine e_iload_n (pc := 170) hE rfl 1 rfl dX10_run_170 ?_
            refine e_iload (pc := 171) hE 2 rfl dX10_run_171 ?_
            refine c_M_tells (pc := 173) (d := d + 3 + 0) hE (t_M_tells (d := d + 3)  h) tw_1176 (Nat.le_of_ble_eq_true rfl) dX10_run_173 (fun r173 M173 h => ?_)
            exact hR dX10_run_176 h
          · have h := h.2 c0
            refine e_aload_n (pc := 104) hE rfl 0 rfl dX10_run_104 ?_
            refine e_iconst (pc := 105) (v := 3) hE ki_3 dX10_run_105 ?_
            refine c_M_meets (pc := 106) (d := d + 3 + 0) hE (t_M_meets (d := d + 3)  h) tw_1164 (Nat.le_of_ble_eq_true rfl) dX10_run_106 (fun r106 M106 h => ?_)
            exact hR dX10_run_109 h
        · have h := h.2 c0
          refine e_aload_n (pc := 45) hE rfl 0 rfl dX10_run_45 ?_
          refine e_iconst (pc := 46) (v := 5) hE ki_5 dX10_run_46 ?_
          refine c_M_meets (pc := 47) (d := d + 3 + 0) hE (t_M_meets (d := d + 3)  h) tw_1164 (Nat.le_of_ble_eq_true rfl) dX10_run_47 (fun r47 M47 h => ?_)
          exact hR dX10_run_50 h
      · have h := h.2 c0
        refine e_aload_n (pc := 28) hE rfl 0 rfl dX10_run_28 ?_
        refine e_iconst (pc := 29) (v := 1) hE ki_1 dX10_run_29 ?_
        refine c_M_meets (pc := 30) (d := d + 3 + 0) hE (t_M_meets (d := d + 3)  h) tw_1164 (Nat.le_of_ble_eq_true rfl) dX10_run_30 (fun r30 M30 h => ?_)
        exact hR dX10_run_33 h
    · have h := h.2 c0
      refine e_bipush (pc := 16) (v := -4) hE kb_m4 dX10_run_16 ?_
      exact hR dX10_run_18 h
  · have h := h.2 c0
    refine e_iconst (pc := 7) (v := -1) hE ki_m1 dX10_run_7 ?_
    exact hR dX10_run_8 h
set_option maxHeartbeats 4000000 in
set_option maxRecDepth 20000 in
theorem w_M_takes_13 {l : Launch} {G : Gs} {d : Nat} {E : EE} {a1 : Int32} {a2 : Int32} {a3 : Int32} {Q : Mm → Prop} (hE : Mach l G RX10 cX10_takes 5 (d + 0) E) (hR : RtV cX10_takes E Q)   {KB : Int32 → Mm → Prop} {v4 : Int32} {M : Mm} (h : k_M_takes_13 a1 a2 a3 Q KB v4 M) (hKB : ∀ (v4 : Int32)  (M : Mm), KB v4 M → E 13 [(0, rv G 312), (1, .int a1), (4, .int v4)] [] M) : E 13 [(0, rv G 312), (1, .int a1), (4, .int v4)] [] M := by
  unfold k_M_takes_13 at h
  refine e_iload (pc := 13) hE 2 rfl dX10_takes_13 ?_
  refine e_iload_n (pc := 15) hE rfl 1 rfl dX10_takes_15 ?_
  refine e_icmp_ge (pc := 16) hE 39 dX10_takes_16 (by decide) (fun c0 => ?_) (fun c0 => ?_)
  · have h := h.1 c0
    exact hR dX10_takes_39 h
  · have h := h.2 c0
    refine e_aload_n (pc := 19) hE rfl 0 rfl dX10_takes_19 ?_
    refine g_Md_bestTried (pc := 20) hE tw_1035 dX10_takes_20 ?_
    refine e_iload (pc := 23) hE 2 rfl dX10_takes_23 ?_
    refine e_aload_n (pc := 25) hE rfl 0 rfl dX10_takes_25 ?_
    refine g_Md_tried (pc := 26) hE tw_1034 dX10_takes_26 ?_
    refine e_iload (pc := 29) hE 2 rfl dX10_takes_29 ?_
    refine e_iald (pc := 31) hE ar_335 h.1 dX10_takes_31 ?_
    have h := h.2
    refine e_topi (fun x32 ex32 => ?_)
    have h := h x32 ex32
    refine e_iast (pc := 32) hE ar_336 h.1 dX10_takes_32 ?_
    have h := h.2
    obtain ⟨x33, ex33⟩ : ∃ y : Int32, y = v4 + (1 : Int32) := ⟨_, rfl⟩
    have h := h x33 ex33
    refine e_iinc (pc := 33) (k := 2) (v := x33) (lv' := [(4, .int x33), (0, rv G 312), (1, .int a1)]) hE dX10_takes_33 rfl (by rw [ex33, ki_1]) (by decide) rfl ?_
    refine e_goto (pc := 36) hE 13 dX10_takes_36 (by decide) ?_
    refine e_sub hE [1, 2, 0] rfl ?_
    exact hKB _ _ h
set_option maxHeartbeats 4000000 in
set_option maxRecDepth 20000 in
theorem w_lp_M_takes_13 {l : Launch} {G : Gs} {d : Nat} {E : EE} {a1 : Int32} {a2 : Int32} {a3 : Int32} {Q : Mm → Prop} (hE : Mach l G RX10 cX10_takes 5 (d + 0) E) (hR : RtV cX10_takes E Q)    {n : Nat} {v4 : Int32} {M : Mm} (h : lp_M_takes_13 a1 a2 a3 Q n v4 M)  : E 13 [(0, rv G 312), (1, .int a1), (4, .int v4)] [] M := by
  have key : ∀ (n : Nat) (v4 : Int32) (M : Mm), lp_M_takes_13 a1 a2 a3 Q n v4 M → E 13 [(0, rv G 312), (1, .int a1), (4, .int v4)] [] M := by
    intro n
    induction n with
    | zero => intro v4 M h; exact h.elim
    | succ n ih => intro v4 M h; exact w_M_takes_13 hE hR  (show k_M_takes_13 a1 a2 a3 Q (lp_M_takes_13 a1 a2 a3 Q n)  v4 M from h) ih 
  exact key n _ _ h
set_option maxHeartbeats 4000000 in
set_option maxRecDepth 20000 in
theorem t_M_takes {l : Launch} {G : Gs} {d : Nat} {a1 : Int32} {a2 : Int32} {a3 : Int32} {M : Mm} {Q : Mm → Prop}  (h : wp_M_takes a1 a2 a3 M Q) : CtV l G (d + 0) yX10_takes cX10_takes 5 (none) [rv G 312, .int a1, .int a2, .int a3] M Q := by
  refine CtV.mk (by decide) rfl (Nat.le_of_ble_eq_true rfl) (fun E hE hR => ?_)
  show E 0 [(0, rv G 312), (1, .int a1), (2, .int a2), (3, .int a3)] [] M
  unfold wp_M_takes at h
  refine e_aload_n (pc := 0) hE rfl 0 rfl dX10_takes_0 ?_
  refine e_iload_n (pc := 1) hE rfl 2 rfl dX10_takes_1 ?_
  refine p_Md_bestHarvests (pc := 2) hE tw_1036 dX10_takes_2 ?_
  refine e_aload_n (pc := 5) hE rfl 0 rfl dX10_takes_5 ?_
  refine e_iload_n (pc := 6) hE rfl 3 rfl dX10_takes_6 ?_
  refine p_Md_bestStamps (pc := 7) hE tw_1037 dX10_takes_7 ?_
  refine e_iconst (pc := 10) (v := 0) hE ki_0 dX10_takes_10 ?_
  refine e_istore (pc := 11) (lv' := [(4, .int (0 : Int32)), (0, rv G 312), (1, .int a1), (2, .int a2), (3, .int a3)]) hE dX10_takes_11 (by decide) rfl ?_
  obtain ⟨n, h⟩ := h
  refine e_sub hE [1, 2, 0] rfl ?_
  refine w_lp_M_takes_13 hE hR  h 
set_option maxHeartbeats 4000000 in
set_option maxRecDepth 20000 in
theorem w_M_layPlans_103 {l : Launch} {G : Gs} {d : Nat} {E : EE} {RC : Int32 → Int32 → Int32 → Int32 → Int32 → Mm → (Mm → Prop) → Prop} {a1 : Int32} {a2 : Int32} {a3 : Int32} {a4 : Int32} {a5 : Int32} {Q : Mm → Prop} (hE : Mach l G RX10 cX10_layPlans 9 (d + 4) E) (hR : RtV cX10_layPlans E Q) (hRC : ∀ {a1 : Int32} {a2 : Int32} {a3 : Int32} {a4 : Int32} {a5 : Int32} {M : Mm} {Q : Mm → Prop}, RC a1 a2 a3 a4 a5 M Q → CtV l G (d + 3) yX10_layPlans cX10_layPlans 9 (none) [rv G 312, .int a1, .int a2, .int a3, .int a4, .int a5] M Q)   {KB : Int32 → Mm → Prop} {v6 : Int32} {M : Mm} (h : k_M_layPlans_103 RC a1 a2 a3 a4 a5 Q KB v6 M) (hKB : ∀ (v6 : Int32)  (M : Mm), KB v6 M → E 103 [(0, rv G 312), (1, .int a1), (2, .int a2), (3, .int a3), (4, .int a4), (5, .int a5), (6, .int v6)] [] M) : E 103 [(0, rv G 312), (1, .int a1), (2, .int a2), (3, .int a3), (4, .int a4), (5, .int a5), (6, .int v6)] [] M := by
  unfold k_M_layPlans_103 at h
  refine e_iload (pc := 103) hE 6 rfl dX10_layPlans_103 ?_
  refine e_aload_n (pc := 105) hE rfl 0 rfl dX10_layPlans_105 ?_
  refine c_M_setMany (pc := 106) (d := d + 3 + 0) hE (t_M_setMany (d := d + 3)  h) tw_1370 (Nat.le_of_ble_eq_true rfl) dX10_layPlans_106 (fun r106 M106 h => ?_)
  refine e_icmp_ge (pc := 109) hE 178 dX10_layPlans_109 (by decide) (fun c0 => ?_) (fun c0 => ?_)
  · have h := h.1 c0
    exact hR dX10_layPlans_178 h
  · have h := h.2 c0
    refine e_aload_n (pc := 112) hE rfl 0 rfl dX10_layPlans_112 ?_
    refine e_iconst (pc := 113) (v := 1) hE ki_1 dX10_layPlans_113 ?_
    refine e_iload_n (pc := 114) hE rfl 1 rfl dX10_layPlans_114 ?_
    refine e_iadd (pc := 115) hE dX10_layPlans_115 ?_
    refine e_iconst (pc := 116) (v := 2) hE ki_2 dX10_layPlans_116 ?_
    refine e_iload_n (pc := 117) hE rfl 1 rfl dX10_layPlans_117 ?_
    refine e_iadd (pc := 118) hE dX10_layPlans_118 ?_
    refine c_M_copyTo (pc := 119) (d := d + 3 + 0) hE (t_M_copyTo (d := d + 3)  h) tw_1374 (Nat.le_of_ble_eq_true rfl) dX10_layPlans_119 (fun M119 h => ?_)
    refine e_aload_n (pc := 122) hE rfl 0 rfl dX10_layPlans_122 ?_
    refine g_Md_tried (pc := 123) hE tw_1034 dX10_layPlans_123 ?_
    refine e_iload_n (pc := 126) hE rfl 1 rfl dX10_layPlans_126 ?_
    refine e_iload (pc := 127) hE 6 rfl dX10_layPlans_127 ?_
    refine e_iast (pc := 129) hE ar_335 h.1 dX10_layPlans_129 ?_
    have h := h.2
    refine e_aload_n (pc := 130) hE rfl 0 rfl dX10_layPlans_130 ?_
    refine e_iconst (pc := 131) (v := 2) hE ki_2 dX10_layPlans_131 ?_
    refine e_iload_n (pc := 132) hE rfl 1 rfl dX10_layPlans_132 ?_
    refine e_iadd (pc := 133) hE dX10_layPlans_133 ?_
    refine e_iload (pc := 134) hE 6 rfl dX10_layPlans_134 ?_
    refine c_M_stampsOf (pc := 136) (d := d + 3) hE (t_M_stampsOf (d := d)  h) tw_1378 (Nat.le_of_ble_eq_true rfl) dX10_layPlans_136 (fun r136 M136 h => ?_)
    refine c_M_bits (pc := 139) (d := d + 3 + 0) hE (t_M_bits (d := d + 3)  h) tw_1335 (Nat.le_of_ble_eq_true rfl) dX10_layPlans_139 (fun r139 M139 h => ?_)
    refine e_istore (pc := 142) (lv' := [(7, .int r139), (0, rv G 312), (1, .int a1), (2, .int a2), (3, .int a3), (4, .int a4), (5, .int a5), (6, .int v6)]) hE dX10_layPlans_142 (by decide) rfl ?_
    refine e_aload_n (pc := 144) hE rfl 1 rfl dX10_layPlans_144 ?_
    refine e_iconst (pc := 145) (v := 2) hE ki_2 dX10_layPlans_145 ?_
    refine e_iload_n (pc := 146) hE rfl 2 rfl dX10_layPlans_146 ?_
    refine e_iadd (pc := 147) hE dX10_layPlans_147 ?_
    refine c_M_passes (pc := 148) (d := d + 3) hE (t_M_passes (d := d)  h) tw_1324 (Nat.le_of_ble_eq_true rfl) dX10_layPlans_148 (fun r148 M148 h => ?_)
    refine e_istore (pc := 151) (lv' := [(8, .int r148), (7, .int r139), (0, rv G 312), (1, .int a1), (2, .int a2), (3, .int a3), (4, .int a4), (5, .int a5), (6, .int v6)]) hE dX10_layPlans_151 (by decide) rfl ?_
    refine e_aload_n (pc := 153) hE rfl 2 rfl dX10_layPlans_153 ?_
    refine e_iload_n (pc := 154) hE rfl 3 rfl dX10_layPlans_154 ?_
    refine e_iconst (pc := 155) (v := 1) hE ki_1 dX10_layPlans_155 ?_
    refine e_iadd (pc := 156) hE dX10_layPlans_156 ?_
    refine e_iload_n (pc := 157) hE rfl 4 rfl dX10_layPlans_157 ?_
    refine e_iload_n (pc := 158) hE rfl 5 rfl dX10_layPlans_158 ?_
    refine e_iload (pc := 159) hE 6 rfl dX10_layPlans_159 ?_
    refine e_iload (pc := 161) hE 0 rfl dX10_layPlans_161 ?_
    refine e_iadd (pc := 163) hE dX10_layPlans_163 ?_
    refine e_iload (pc := 164) hE 7 rfl dX10_layPlans_164 ?_
    refine e_iload (pc := 166) hE 1 rfl dX10_layPlans_166 ?_
    refine e_iadd (pc := 168) hE dX10_layPlans_168 ?_
    refine c_M_layPlans (pc := 169) (d := d + 3) hE (hRC h) tw_1390 (Nat.le_of_ble_eq_true rfl) dX10_layPlans_169 (fun M169 h => ?_)
    obtain ⟨x172, ex172⟩ : ∃ y : Int32, y = v6 + (1 : Int32) := ⟨_, rfl⟩
    have h := h x172 ex172
    refine e_iinc (pc := 172) (k := 8) (v := x172) (lv' := [(6, .int x172), (8, .int r148), (7, .int r139), (0, rv G 312), (1, .int a1), (2, .int a2), (3, .int a3), (4, .int a4), (5, .int a5)]) hE dX10_layPlans_172 rfl (by rw [ex172, ki_1]) (by decide) rfl ?_
    refine e_goto (pc := 175) hE 103 dX10_layPlans_175 (by decide) ?_
    refine e_sub hE [3, 4, 5, 6, 7, 8, 0] rfl ?_
    exact hKB _ _ h
set_option maxHeartbeats 4000000 in
set_option maxRecDepth 20000 in
theorem w_lp_M_layPlans_103 {l : Launch} {G : Gs} {d : Nat} {E : EE} {RC : Int32 → Int32 → Int32 → Int32 → Int32 → Mm → (Mm → Prop) → Prop} {a1 : Int32} {a2 : Int32} {a3 : Int32} {a4 : Int32} {a5 : Int32} {Q : Mm → Prop} (hE : Mach l G RX10 cX10_layPlans 9 (d + 4) E) (hR : RtV cX10_layPlans E Q) (hRC : ∀ {a1 : Int32} {a2 : Int32} {a3 : Int32} {a4 : Int32} {a5 : Int32} {M : Mm} {Q : Mm → Prop}, RC a1 a2 a3 a4 a5 M Q → CtV l G (d + 3) yX10_layPlans cX10_layPlans 9 (none) [rv G 312, .int a1, .int a2, .int a3, .int a4, .int a5] M Q)    {n : Nat} {v6 : Int32} {M : Mm} (h : lp_M_layPlans_103 RC a1 a2 a3 a4 a5 Q n v6 M)  : E 103 [(0, rv G 312), (1, .int a1), (2, .int a2), (3, .int a3), (4, .int a4), (5, .int a5), (6, .int v6)] [] M := by
  have key : ∀ (n : Nat) (v6 : Int32) (M : Mm), lp_M_layPlans_103 RC a1 a2 a3 a4 a5 Q n v6 M → E 103 [(0, rv G 312), (1, .int a1), (2, .int a2), (3, .int a3), (4, .int a4), (5, .int a5), (6, .int v6)] [] M := by
    intro n
    induction n with
    | zero => intro v6 M h; exact h.elim
    | succ n ih => intro v6 M h; exact w_M_layPlans_103 hE hR hRC (show k_M_layPlans_103 RC a1 a2 a3 a4 a5 Q (lp_M_layPlans_103 RC a1 a2 a3 a4 a5 Q n)  v6 M from h) ih 
  exact key n _ _ h
set_option maxHeartbeats 4000000 in
set_option maxRecDepth 20000 in
theorem w_M_layPlans_94 {l : Launch} {G : Gs} {d : Nat} {E : EE} {RC : Int32 → Int32 → Int32 → Int32 → Int32 → Mm → (Mm → Prop) → Prop} {a1 : Int32} {a2 : Int32} {a3 : Int32} {a4 : Int32} {a5 : Int32} {Q : Mm → Prop} (hE : Mach l G RX10 cX10_layPlans 9 (d + 4) E) (hR : RtV cX10_layPlans E Q) (hRC : ∀ {a1 : Int32} {a2 : Int32} {a3 : Int32} {a4 : Int32} {a5 : Int32} {M : Mm} {Q : Mm → Prop}, RC a1 a2 a3 a4 a5 M Q → CtV l G (d + 3) yX10_layPlans cX10_layPlans 9 (none) [rv G 312, .int a1, .int a2, .int a3, .int a4, .int a5] M Q)    {s0 : Int32} {s1 : Int32} {M : Mm} (h : k_M_layPlans_94 RC a1 a2 a3 a4 a5 Q s0 s1 M)  : E 94 [(5, .int a5)] [.int s0, .int s1, rv G 312] M := by
  unfold k_M_layPlans_94 at h
  refine e_iload (pc := 94) hE 0 rfl dX10_layPlans_94 ?_
  refine c_M_takes (pc := 96) (d := d + 3 + 0) hE (t_M_takes (d := d + 3)  h) tw_1394 (Nat.le_of_ble_eq_true rfl) dX10_layPlans_96 (fun M96 h => ?_)
  exact hR dX10_layPlans_99 h
set_option maxHeartbeats 4000000 in
set_option maxRecDepth 20000 in
theorem w_M_layPlans_80 {l : Launch} {G : Gs} {d : Nat} {E : EE} {RC : Int32 → Int32 → Int32 → Int32 → Int32 → Mm → (Mm → Prop) → Prop} {a1 : Int32} {a2 : Int32} {a3 : Int32} {a4 : Int32} {a5 : Int32} {Q : Mm → Prop} (hE : Mach l G RX10 cX10_layPlans 9 (d + 4) E) (hR : RtV cX10_layPlans E Q) (hRC : ∀ {a1 : Int32} {a2 : Int32} {a3 : Int32} {a4 : Int32} {a5 : Int32} {M : Mm} {Q : Mm → Prop}, RC a1 a2 a3 a4 a5 M Q → CtV l G (d + 3) yX10_layPlans cX10_layPlans 9 (none) [rv G 312, .int a1, .int a2, .int a3, .int a4, .int a5] M Q)     {M : Mm} (h : k_M_layPlans_80 RC a1 a2 a3 a4 a5 Q M)  : E 80 [(0, rv G 312), (2, .int a2), (3, .int a3), (4, .int a4), (5, .int a5)] [] M := by
  unfold k_M_layPlans_80 at h
  refine e_aload_n (pc := 80) hE rfl 0 rfl dX10_layPlans_80 ?_
  refine e_iload_n (pc := 81) hE rfl 1 rfl dX10_layPlans_81 ?_
  refine e_iload_n (pc := 82) hE rfl 2 rfl dX10_layPlans_82 ?_
  refine e_bipush (pc := 83) (v := -9) hE kb_m9 dX10_layPlans_83 ?_
  refine e_icmp_ne (pc := 85) hE 93 dX10_layPlans_85 (by decide) (fun c0 => ?_) (fun c0 => ?_)
  · have h := h.1 c0
    refine e_iconst (pc := 93) (v := 0) hE ki_0 dX10_layPlans_93 ?_
    refine e_sub hE [4] rfl ?_
    exact w_M_layPlans_94 hE hR hRC h
  · have h := h.2 c0
    refine e_iload (pc := 88) hE 3 rfl dX10_layPlans_88 ?_
    refine e_goto (pc := 90) hE 94 dX10_layPlans_90 (by decide) ?_
    refine e_sub hE [4] rfl ?_
    exact w_M_layPlans_94 hE hR hRC h
set_option maxHeartbeats 4000000 in
set_option maxRecDepth 20000 in
theorem w_M_layPlans_37 {l : Launch} {G : Gs} {d : Nat} {E : EE} {RC : Int32 → Int32 → Int32 → Int32 → Int32 → Mm → (Mm → Prop) → Prop} {a1 : Int32} {a2 : Int32} {a3 : Int32} {a4 : Int32} {a5 : Int32} {Q : Mm → Prop} (hE : Mach l G RX10 cX10_layPlans 9 (d + 4) E) (hR : RtV cX10_layPlans E Q) (hRC : ∀ {a1 : Int32} {a2 : Int32} {a3 : Int32} {a4 : Int32} {a5 : Int32} {M : Mm} {Q : Mm → Prop}, RC a1 a2 a3 a4 a5 M Q → CtV l G (d + 3) yX10_layPlans cX10_layPlans 9 (none) [rv G 312, .int a1, .int a2, .int a3, .int a4, .int a5] M Q)    {s0 : Int32} {M : Mm} (h : k_M_layPlans_37 RC a1 a2 a3 a4 a5 Q s0 M)  : E 37 [(0, rv G 312), (2, .int a2), (3, .int a3), (4, .int a4), (5, .int a5)] [.int s0] M := by
  unfold k_M_layPlans_37 at h
  refine e_istore (pc := 37) (lv' := [(6, .int s0), (0, rv G 312), (2, .int a2), (3, .int a3), (4, .int a4), (5, .int a5)]) hE dX10_layPlans_37 (by decide) rfl ?_
  refine e_iload_n (pc := 39) hE rfl 3 rfl dX10_layPlans_39 ?_
  refine e_bipush (pc := 40) (v := -9) hE kb_m9 dX10_layPlans_40 ?_
  refine e_icmp_ne (pc := 42) hE 53 dX10_layPlans_42 (by decide) (fun c0 => ?_) (fun c0 => ?_)
  · have h := h.1 c0
    refine e_aload_n (pc := 53) hE rfl 1 rfl dX10_layPlans_53 ?_
    refine g_Md_inSet (pc := 54) hE tw_1025 dX10_layPlans_54 ?_
    refine e_iload_n (pc := 57) hE rfl 3 rfl dX10_layPlans_57 ?_
    refine c_M_has (pc := 58) (d := d + 3 + 0) hE (t_M_has (d := d + 3)  h) tw_1235 (Nat.le_of_ble_eq_true rfl) dX10_layPlans_58 (fun r58 M58 h => ?_)
    refine e_if_eq (pc := 61) hE 99 dX10_layPlans_61 (by decide) (fun c0 => ?_) (fun c0 => ?_)
    · have h := h.1 c0
      exact hR dX10_layPlans_99 h
    · have h := h.2 c0
      refine e_aload_n (pc := 64) hE rfl 1 rfl dX10_layPlans_64 ?_
      refine g_Md_bestHarvests (pc := 65) hE tw_1036 dX10_layPlans_65 ?_
      refine e_if_lt (pc := 68) hE 80 dX10_layPlans_68 (by decide) (fun c0 => ?_) (fun c0 => ?_)
      · have h := h.1 c0
        refine e_sub hE [1, 2, 3, 4, 5] rfl ?_
        exact w_M_layPlans_80 hE hR hRC h
      · have h := h.2 c0
        refine e_iload (pc := 71) hE 5 rfl dX10_layPlans_71 ?_
        refine e_aload_n (pc := 73) hE rfl 1 rfl dX10_layPlans_73 ?_
        refine g_Md_bestStamps (pc := 74) hE tw_1037 dX10_layPlans_74 ?_
        refine e_icmp_ge (pc := 77) hE 99 dX10_layPlans_77 (by decide) (fun c0 => ?_) (fun c0 => ?_)
        · have h := h.1 c0
          exact hR dX10_layPlans_99 h
        · have h := h.2 c0
          refine e_sub hE [1, 2, 3, 4, 5] rfl ?_
          exact w_M_layPlans_80 hE hR hRC h
  · have h := h.2 c0
    refine e_iload (pc := 45) hE 0 rfl dX10_layPlans_45 ?_
    refine e_if_eq (pc := 47) hE 99 dX10_layPlans_47 (by decide) (fun c0 => ?_) (fun c0 => ?_)
    · have h := h.1 c0
      exact hR dX10_layPlans_99 h
    · have h := h.2 c0
      refine e_goto (pc := 50) hE 80 dX10_layPlans_50 (by decide) ?_
      refine e_sub hE [1, 2, 3, 4, 5] rfl ?_
      exact w_M_layPlans_80 hE hR hRC h
set_option maxHeartbeats 4000000 in
set_option maxRecDepth 20000 in
theorem w_M_layPlans_32 {l : Launch} {G : Gs} {d : Nat} {E : EE} {RC : Int32 → Int32 → Int32 → Int32 → Int32 → Mm → (Mm → Prop) → Prop} {a1 : Int32} {a2 : Int32} {a3 : Int32} {a4 : Int32} {a5 : Int32} {Q : Mm → Prop} (hE : Mach l G RX10 cX10_layPlans 9 (d + 4) E) (hR : RtV cX10_layPlans E Q) (hRC : ∀ {a1 : Int32} {a2 : Int32} {a3 : Int32} {a4 : Int32} {a5 : Int32} {M : Mm} {Q : Mm → Prop}, RC a1 a2 a3 a4 a5 M Q → CtV l G (d + 3) yX10_layPlans cX10_layPlans 9 (none) [rv G 312, .int a1, .int a2, .int a3, .int a4, .int a5] M Q)     {M : Mm} (h : k_M_layPlans_32 RC a1 a2 a3 a4 a5 Q M)  : E 32 [(0, rv G 312), (2, .int a2), (3, .int a3), (4, .int a4), (5, .int a5)] [] M := by
  unfold k_M_layPlans_32 at h
  refine e_iconst (pc := 32) (v := 1) hE ki_1 dX10_layPlans_32 ?_
  refine e_goto (pc := 33) hE 37 dX10_layPlans_33 (by decide) ?_
  exact w_M_layPlans_37 hE hR hRC h
set_option maxHeartbeats 4000000 in
set_option maxRecDepth 20000 in
theorem w_M_layPlans_36 {l : Launch} {G : Gs} {d : Nat} {E : EE} {RC : Int32 → Int32 → Int32 → Int32 → Int32 → Mm → (Mm → Prop) → Prop} {a1 : Int32} {a2 : Int32} {a3 : Int32} {a4 : Int32} {a5 : Int32} {Q : Mm → Prop} (hE : Mach l G RX10 cX10_layPlans 9 (d + 4) E) (hR : RtV cX10_layPlans E Q) (hRC : ∀ {a1 : Int32} {a2 : Int32} {a3 : Int32} {a4 : Int32} {a5 : Int32} {M : Mm} {Q : Mm → Prop}, RC a1 a2 a3 a4 a5 M Q → CtV l G (d + 3) yX10_layPlans cX10_layPlans 9 (none) [rv G 312, .int a1, .int a2, .int a3, .int a4, .int a5] M Q)     {M : Mm} (h : k_M_layPlans_36 RC a1 a2 a3 a4 a5 Q M)  : E 36 [(0, rv G 312), (2, .int a2), (3, .int a3), (4, .int a4), (5, .int a5)] [] M := by
  unfold k_M_layPlans_36 at h
  refine e_iconst (pc := 36) (v := 0) hE ki_0 dX10_layPlans_36 ?_
  exact w_M_layPlans_37 hE hR hRC h
set_option maxHeartbeats 4000000 in
set_option maxRecDepth 20000 in
theorem tB_M_layPlans {l : Launch} {G : Gs} {d : Nat} {RC : Int32 → Int32 → Int32 → Int32 → Int32 → Mm → (Mm → Prop) → Prop} {a1 : Int32} {a2 : Int32} {a3 : Int32} {a4 : Int32} {a5 : Int32} {M : Mm} {Q : Mm → Prop} (hRC : ∀ {a1 : Int32} {a2 : Int32} {a3 : Int32} {a4 : Int32} {a5 : Int32} {M : Mm} {Q : Mm → Prop}, RC a1 a2 a3 a4 a5 M Q → CtV l G (d + 3) yX10_layPlans cX10_layPlans 9 (none) [rv G 312, .int a1, .int a2, .int a3, .int a4, .int a5] M Q) (h : wpB_M_layPlans RC a1 a2 a3 a4 a5 M Q) : CtV l G (d + 4) yX10_layPlans cX10_layPlans 9 (none) [rv G 312, .int a1, .int a2, .int a3, .int a4, .int a5] M Q := by
  refine CtV.mk (by decide) rfl (Nat.le_of_ble_eq_true rfl) (fun E hE hR => ?_)
  show E 0 [(0, rv G 312), (1, .int a1), (2, .int a2), (3, .int a3), (4, .int a4), (5, .int a5)] [] M
  unfold wpB_M_layPlans at h
  refine e_iload_n (pc := 0) hE rfl 1 rfl dX10_layPlans_0 ?_
  refine e_iload_n (pc := 1) hE rfl 2 rfl dX10_layPlans_1 ?_
  refine e_icmp_ne (pc := 2) hE 100 dX10_layPlans_2 (by decide) (fun c0 => ?_) (fun c0 => ?_)
  · have h := h.1 c0
    refine e_iconst (pc := 100) (v := 0) hE ki_0 dX10_layPlans_100 ?_
    refine e_istore (pc := 101) (lv' := [(6, .int (0 : Int32)), (0, rv G 312), (1, .int a1), (2, .int a2), (3, .int a3), (4, .int a4), (5, .int a5)]) hE dX10_layPlans_101 (by decide) rfl ?_
    obtain ⟨n, h⟩ := h
    refine e_sub hE [1, 2, 3, 4, 5, 6, 0] rfl ?_
    refine w_lp_M_layPlans_103 hE hR hRC h 
  · have h := h.2 c0
    refine e_iload (pc := 5) hE 4 rfl dX10_layPlans_5 ?_
    refine e_aload_n (pc := 7) hE rfl 0 rfl dX10_layPlans_7 ?_
    refine g_Md_bestHarvests (pc := 8) hE tw_1036 dX10_layPlans_8 ?_
    refine e_icmp_gt (pc := 11) hE 32 dX10_layPlans_11 (by decide) (fun c0 => ?_) (fun c0 => ?_)
    · have h := h.1 c0
      refine e_sub hE [0, 2, 3, 4, 5] rfl ?_
      exact w_M_layPlans_32 hE hR hRC h
    · have h := h.2 c0
      refine e_iload (pc := 14) hE 4 rfl dX10_layPlans_14 ?_
      refine e_aload_n (pc := 16) hE rfl 0 rfl dX10_layPlans_16 ?_
      refine g_Md_bestHarvests (pc := 17) hE tw_1036 dX10_layPlans_17 ?_
      refine e_icmp_ne (pc := 20) hE 36 dX10_layPlans_20 (by decide) (fun c0 => ?_) (fun c0 => ?_)
      · have h := h.1 c0
        refine e_sub hE [0, 2, 3, 4, 5] rfl ?_
        exact w_M_layPlans_36 hE hR hRC h
      · have h := h.2 c0
        refine e_iload (pc := 23) hE 5 rfl dX10_layPlans_23 ?_
        refine e_aload_n (pc := 25) hE rfl 0 rfl dX10_layPlans_25 ?_
        refine g_Md_bestStamps (pc := 26) hE tw_1037 dX10_layPlans_26 ?_
        refine e_icmp_ge (pc := 29) hE 36 dX10_layPlans_29 (by decide) (fun c0 => ?_) (fun c0 => ?_)
        · have h := h.1 c0
          refine e_sub hE [0, 2, 3, 4, 5] rfl ?_
          exact w_M_layPlans_36 hE hR hRC h
        · have h := h.2 c0
          refine e_sub hE [0, 2, 3, 4, 5] rfl ?_
          exact w_M_layPlans_32 hE hR hRC h
theorem t_M_layPlans {l : Launch} {G : Gs} : ∀ {n d : Nat} {a1 : Int32} {a2 : Int32} {a3 : Int32} {a4 : Int32} {a5 : Int32} {M : Mm} {Q : Mm → Prop}, wp_M_layPlans n a1 a2 a3 a4 a5 M Q → CtV l G (d + 4 + n) yX10_layPlans cX10_layPlans 9 (none) [rv G 312, .int a1, .int a2, .int a3, .int a4, .int a5] M Q := by
  intro n
  induction n with
  | zero => intro d a1 a2 a3 a4 a5 M Q h; exact h.elim
  | succ n ih => intro d a1 a2 a3 a4 a5 M Q h; exact cast (by rw [show d + n + 1 + 4 = d + 4 + (n + 1) by omega]) (tB_M_layPlans (d := d + n + 1) (RC := wp_M_layPlans n) (fun {a1 a2 a3 a4 a5 M Q} h => cast (by rw [show d + 4 + n = d + n + 1 + 3 by omega]) (ih (d := d) h)) h)
set_option maxHeartbeats 4000000 in
set_option maxRecDepth 20000 in
theorem t_M_allPlans {l : Launch} {G : Gs} {d : Nat} {a1 : Int32} {a2 : Int32} {M : Mm} {Q : Mm → Prop}  (h : wp_M_allPlans a1 a2 M Q) : CtV l G (d + 13) yX10_allPlans cX10_allPlans 3 (none) [rv G 312, .int a1, .int a2] M Q := by
  refine CtV.mk (by decide) rfl (Nat.le_of_ble_eq_true rfl) (fun E hE hR => ?_)
  show E 0 [(0, rv G 312), (1, .int a1), (2, .int a2)] [] M
  unfold wp_M_allPlans at h
  refine e_aload_n (pc := 0) hE rfl 0 rfl dX10_allPlans_0 ?_
  refine e_iconst (pc := 1) (v := -1) hE ki_m1 dX10_allPlans_1 ?_
  refine p_Md_bestHarvests (pc := 2) hE tw_1036 dX10_allPlans_2 ?_
  refine e_aload_n (pc := 5) hE rfl 0 rfl dX10_allPlans_5 ?_
  refine e_iconst (pc := 6) (v := 0) hE ki_0 dX10_allPlans_6 ?_
  refine p_Md_bestStamps (pc := 7) hE tw_1037 dX10_allPlans_7 ?_
  refine e_aload_n (pc := 10) hE rfl 0 rfl dX10_allPlans_10 ?_
  refine e_iconst (pc := 11) (v := 0) hE ki_0 dX10_allPlans_11 ?_
  refine p_Md_inSet (pc := 12) hE tw_1025 dX10_allPlans_12 ?_
  refine e_aload_n (pc := 15) hE rfl 0 rfl dX10_allPlans_15 ?_
  refine e_iconst (pc := 16) (v := 0) hE ki_0 dX10_allPlans_16 ?_
  refine e_iconst (pc := 17) (v := 1) hE ki_1 dX10_allPlans_17 ?_
  refine c_M_copyTo (pc := 18) (d := d + 12 + 0) hE (t_M_copyTo (d := d + 12)  h) tw_1374 (Nat.le_of_ble_eq_true rfl) dX10_allPlans_18 (fun M18 h => ?_)
  refine e_aload_n (pc := 21) hE rfl 0 rfl dX10_allPlans_21 ?_
  refine e_iconst (pc := 22) (v := 0) hE ki_0 dX10_allPlans_22 ?_
  refine e_iload_n (pc := 23) hE rfl 1 rfl dX10_allPlans_23 ?_
  refine e_iload_n (pc := 24) hE rfl 2 rfl dX10_allPlans_24 ?_
  refine e_iconst (pc := 25) (v := 0) hE ki_0 dX10_allPlans_25 ?_
  refine e_iconst (pc := 26) (v := 0) hE ki_0 dX10_allPlans_26 ?_
  refine c_M_layPlans (pc := 27) (d := d + 4 + 8) hE (t_M_layPlans (d := d)  h) tw_1390 (Nat.le_of_ble_eq_true rfl) dX10_allPlans_27 (fun M27 h => ?_)
  exact hR dX10_allPlans_30 h
set_option maxHeartbeats 4000000 in
set_option maxRecDepth 20000 in
theorem w_M_layRow_42 {l : Launch} {G : Gs} {d : Nat} {E : EE} {a1 : Int32} {a2 n2 : Nat} {a3 : Int32} {Q : Mm → Prop} (hE : Mach l G RX10 cX10_layRow 5 (d + 0) E) (hR : RtV cX10_layRow E Q) (f2 : kd a2 = 12 ∧ ln a2 = n2)  {KB : Int32 → Mm → Prop} {v4 : Int32} {s0 : Int32} {s1 : Int32} {M : Mm} (h : k_M_layRow_42 a1 a2 n2 a3 Q KB v4 s0 s1 M) (hKB : ∀ (v4 : Int32)  (M : Mm), KB v4 M → E 10 [(0, rv G 312), (1, .int a1), (2, rv G a2), (3, .int a3), (4, .int v4)] [] M) : E 42 [(0, rv G 312), (1, .int a1), (2, rv G a2), (3, .int a3), (4, .int v4)] [.int s0, .int s1, rv G 315] M := by
  unfold k_M_layRow_42 at h
  refine e_iast (pc := 42) hE ar_315 h.1 dX10_layRow_42 ?_
  have h := h.2
  obtain ⟨x43, ex43⟩ : ∃ y : Int32, y = v4 + (1 : Int32) := ⟨_, rfl⟩
  have h := h x43 ex43
  refine e_iinc (pc := 43) (k := 4) (v := x43) (lv' := [(4, .int x43), (0, rv G 312), (1, .int a1), (2, rv G a2), (3, .int a3)]) hE dX10_layRow_43 rfl (by rw [ex43, ki_1]) (by decide) rfl ?_
  refine e_goto (pc := 46) hE 10 dX10_layRow_46 (by decide) ?_
  refine e_sub hE [1, 2, 3, 4, 0] rfl ?_
  exact hKB _ _ h
set_option maxHeartbeats 4000000 in
set_option maxRecDepth 20000 in
theorem w_M_layRow_10 {l : Launch} {G : Gs} {d : Nat} {E : EE} {a1 : Int32} {a2 n2 : Nat} {a3 : Int32} {Q : Mm → Prop} (hE : Mach l G RX10 cX10_layRow 5 (d + 0) E) (hR : RtV cX10_layRow E Q) (f2 : kd a2 = 12 ∧ ln a2 = n2)  {KB : Int32 → Mm → Prop} {v4 : Int32} {M : Mm} (h : k_M_layRow_10 a1 a2 n2 a3 Q KB v4 M) (hKB : ∀ (v4 : Int32)  (M : Mm), KB v4 M → E 10 [(0, rv G 312), (1, .int a1), (2, rv G a2), (3, .int a3), (4, .int v4)] [] M) : E 10 [(0, rv G 312), (1, .int a1), (2, rv G a2), (3, .int a3), (4, .int v4)] [] M := by
  unfold k_M_layRow_10 at h
  refine e_iload (pc := 10) hE 4 rfl dX10_layRow_10 ?_
  refine e_bipush (pc := 12) (v := 40) hE kb_40 dX10_layRow_12 ?_
  refine e_icmp_ge (pc := 14) hE 49 dX10_layRow_14 (by decide) (fun c0 => ?_) (fun c0 => ?_)
  · have h := h.1 c0
    exact hR dX10_layRow_49 h
  · have h := h.2 c0
    refine e_aload_n (pc := 17) hE rfl 0 rfl dX10_layRow_17 ?_
    refine g_Md_rows (pc := 18) hE tw_1005 dX10_layRow_18 ?_
    refine e_bipush (pc := 21) (v := 40) hE kb_40 dX10_layRow_21 ?_
    refine e_iload_n (pc := 23) hE rfl 1 rfl dX10_layRow_23 ?_
    refine e_imul (pc := 24) hE dX10_layRow_24 ?_
    refine e_iload (pc := 25) hE 4 rfl dX10_layRow_25 ?_
    refine e_iadd (pc := 27) hE dX10_layRow_27 ?_
    refine e_iload (pc := 28) hE 4 rfl dX10_layRow_28 ?_
    refine e_iload_n (pc := 30) hE rfl 3 rfl dX10_layRow_30 ?_
    refine e_icmp_ge (pc := 31) hE 41 dX10_layRow_31 (by decide) (fun c0 => ?_) (fun c0 => ?_)
    · have h := h.1 c0
      refine e_iconst (pc := 41) (v := 0) hE ki_0 dX10_layRow_41 ?_
      exact w_M_layRow_42 hE hR f2 h hKB
    · have h := h.2 c0
      refine e_aload_n (pc := 34) hE rfl 2 rfl dX10_layRow_34 ?_
      refine e_iload (pc := 35) hE 4 rfl dX10_layRow_35 ?_
      refine e_iald (pc := 37) hE f2 h.1 dX10_layRow_37 ?_
      have h := h.2
      refine e_goto (pc := 38) hE 42 dX10_layRow_38 (by decide) ?_
      exact w_M_layRow_42 hE hR f2 h hKB
set_option maxHeartbeats 4000000 in
set_option maxRecDepth 20000 in
theorem w_lp_M_layRow_10 {l : Launch} {G : Gs} {d : Nat} {E : EE} {a1 : Int32} {a2 n2 : Nat} {a3 : Int32} {Q : Mm → Prop} (hE : Mach l G RX10 cX10_layRow 5 (d + 0) E) (hR : RtV cX10_layRow E Q) (f2 : kd a2 = 12 ∧ ln a2 = n2)   {n : Nat} {v4 : Int32} {M : Mm} (h : lp_M_layRow_10 a1 a2 n2 a3 Q n v4 M)  : E 10 [(0, rv G 312), (1, .int a1), (2, rv G a2), (3, .int a3), (4, .int v4)] [] M := by
  have key : ∀ (n : Nat) (v4 : Int32) (M : Mm), lp_M_layRow_10 a1 a2 n2 a3 Q n v4 M → E 10 [(0, rv G 312), (1, .int a1), (2, rv G a2), (3, .int a3), (4, .int v4)] [] M := by
    intro n
    induction n with
    | zero => intro v4 M h; exact h.elim
    | succ n ih => intro v4 M h; exact w_M_layRow_10 hE hR f2 (show k_M_layRow_10 a1 a2 n2 a3 Q (lp_M_layRow_10 a1 a2 n2 a3 Q n)  v4 M from h) ih 
  exact key n _ _ h
set_option maxHeartbeats 4000000 in
set_option maxRecDepth 20000 in
theorem t_M_layRow {l : Launch} {G : Gs} {d : Nat} {a1 : Int32} {a2 n2 : Nat} {a3 : Int32} {M : Mm} {Q : Mm → Prop} (f2 : kd a2 = 12 ∧ ln a2 = n2) (h : wp_M_layRow a1 a2 n2 a3 M Q) : CtV l G (d + 0) yX10_layRow cX10_layRow 5 (none) [rv G 312, .int a1, rv G a2, .int a3] M Q := by
  refine CtV.mk (by decide) rfl (Nat.le_of_ble_eq_true rfl) (fun E hE hR => ?_)
  show E 0 [(0, rv G 312), (1, .int a1), (2, rv G a2), (3, .int a3)] [] M
  unfold wp_M_layRow at h
  refine e_aload_n (pc := 0) hE rfl 0 rfl dX10_layRow_0 ?_
  refine g_Md_sizes (pc := 1) hE tw_1004 dX10_layRow_1 ?_
  refine e_iload_n (pc := 4) hE rfl 1 rfl dX10_layRow_4 ?_
  refine e_iload_n (pc := 5) hE rfl 3 rfl dX10_layRow_5 ?_
  refine e_iast (pc := 6) hE ar_314 h.1 dX10_layRow_6 ?_
  have h := h.2
  refine e_iconst (pc := 7) (v := 0) hE ki_0 dX10_layRow_7 ?_
  refine e_istore (pc := 8) (lv' := [(4, .int (0 : Int32)), (0, rv G 312), (1, .int a1), (2, rv G a2), (3, .int a3)]) hE dX10_layRow_8 (by decide) rfl ?_
  obtain ⟨n, h⟩ := h
  refine e_sub hE [1, 2, 3, 4, 0] rfl ?_
  refine w_lp_M_layRow_10 hE hR f2 h 
set_option maxHeartbeats 4000000 in
set_option maxRecDepth 20000 in
theorem t_M_best {l : Launch} {G : Gs} {d : Nat} {a1 : Int32} {a2 : Int32} {M : Mm} {Q : Int32 → Mm → Prop}  (h : wp_M_best a1 a2 M Q) : CtI l G (d + 14) yX10_best cX10_best 3 (some .int) [rv G 312, .int a1, .int a2] M Q := by
  refine CtI.mk (by decide) rfl (Nat.le_of_ble_eq_true rfl) (fun E hE hR => ?_)
  show E 0 [(0, rv G 312), (1, .int a1), (2, .int a2)] [] M
  unfold wp_M_best at h
  refine e_iload_n (pc := 0) hE rfl 1 rfl dX10_best_0 ?_
  refine e_iconst (pc := 1) (v := 0) hE ki_0 dX10_best_1 ?_
  refine e_iconst (pc := 2) (v := 3) hE ki_3 dX10_best_2 ?_
  refine c_M_in (pc := 3) (d := d + 13 + 0) hE (t_M_in (d := d + 13)  h) tw_1142 (Nat.le_of_ble_eq_true rfl) dX10_best_3 (fun r3 M3 h => ?_)
  refine e_if_eq (pc := 6) hE 16 dX10_best_6 (by decide) (fun c0 => ?_) (fun c0 => ?_)
  · have h := h.1 c0
    refine e_iconst (pc := 16) (v := -1) hE ki_m1 dX10_best_16 ?_
    exact hR dX10_best_17 h
  · have h := h.2 c0
    refine e_iload_n (pc := 9) hE rfl 2 rfl dX10_best_9 ?_
    refine c_M_isRow (pc := 10) (d := d + 12 + 1) hE (t_M_isRow (d := d + 12)  h) tw_1161 (Nat.le_of_ble_eq_true rfl) dX10_best_10 (fun r10 M10 h => ?_)
    refine e_if_ne (pc := 13) hE 18 dX10_best_13 (by decide) (fun c0 => ?_) (fun c0 => ?_)
    · have h := h.1 c0
      refine e_aload_n (pc := 18) hE rfl 0 rfl dX10_best_18 ?_
      refine g_Md_n (pc := 19) hE tw_1009 dX10_best_19 ?_
      refine e_if_ne (pc := 22) hE 28 dX10_best_22 (by decide) (fun c0 => ?_) (fun c0 => ?_)
      · have h := h.1 c0
        refine e_aload_n (pc := 28) hE rfl 0 rfl dX10_best_28 ?_
        refine e_iload_n (pc := 29) hE rfl 1 rfl dX10_best_29 ?_
        refine e_bipush (pc := 30) (v := -9) hE kb_m9 dX10_best_30 ?_
        refine c_M_allPlans (pc := 32) (d := d + 13) hE (t_M_allPlans (d := d)  h) tw_1386 (Nat.le_of_ble_eq_true rfl) dX10_best_32 (fun M32 h => ?_)
        refine e_aload_n (pc := 35) hE rfl 0 rfl dX10_best_35 ?_
        refine e_iload_n (pc := 36) hE rfl 2 rfl dX10_best_36 ?_
        refine e_aload_n (pc := 37) hE rfl 0 rfl dX10_best_37 ?_
        refine g_Md_bestTried (pc := 38) hE tw_1035 dX10_best_38 ?_
        refine e_iload_n (pc := 41) hE rfl 1 rfl dX10_best_41 ?_
        refine c_M_layRow (pc := 42) (d := d + 13 + 0) hE (t_M_layRow (d := d + 13) ar_336 h) tw_1398 (Nat.le_of_ble_eq_true rfl) dX10_best_42 (fun M42 h => ?_)
        refine e_aload_n (pc := 45) hE rfl 0 rfl dX10_best_45 ?_
        refine e_aload_n (pc := 46) hE rfl 0 rfl dX10_best_46 ?_
        refine g_Md_bestStamps (pc := 47) hE tw_1037 dX10_best_47 ?_
        refine e_aload_n (pc := 50) hE rfl 0 rfl dX10_best_50 ?_
        refine g_Md_bestHarvests (pc := 51) hE tw_1036 dX10_best_51 ?_
        refine c_M_tells (pc := 54) (d := d + 13 + 0) hE (t_M_tells (d := d + 13)  h) tw_1176 (Nat.le_of_ble_eq_true rfl) dX10_best_54 (fun r54 M54 h => ?_)
        exact hR dX10_best_57 h
      · have h := h.2 c0
        refine e_bipush (pc := 25) (v := -4) hE kb_m4 dX10_best_25 ?_
        exact hR dX10_best_27 h
    · have h := h.2 c0
      refine e_iconst (pc := 16) (v := -1) hE ki_m1 dX10_best_16 ?_
      exact hR dX10_best_17 h
set_option maxHeartbeats 4000000 in
set_option maxRecDepth 20000 in
theorem t_M_fewest {l : Launch} {G : Gs} {d : Nat} {a1 : Int32} {a2 : Int32} {a3 : Int32} {M : Mm} {Q : Int32 → Mm → Prop}  (h : wp_M_fewest a1 a2 a3 M Q) : CtI l G (d + 14) yX10_fewest cX10_fewest 4 (some .int) [rv G 312, .int a1, .int a2, .int a3] M Q := by
  refine CtI.mk (by decide) rfl (Nat.le_of_ble_eq_true rfl) (fun E hE hR => ?_)
  show E 0 [(0, rv G 312), (1, .int a1), (2, .int a2), (3, .int a3)] [] M
  unfold wp_M_fewest at h
  refine e_aload_n (pc := 0) hE rfl 0 rfl dX10_fewest_0 ?_
  refine e_iload_n (pc := 1) hE rfl 1 rfl dX10_fewest_1 ?_
  refine c_M_isArm (pc := 2) (d := d + 12 + 1) hE (t_M_isArm (d := d + 12)  h) tw_1253 (Nat.le_of_ble_eq_true rfl) dX10_fewest_2 (fun r2 M2 h => ?_)
  refine e_if_eq (pc := 5) hE 24 dX10_fewest_5 (by decide) (fun c0 => ?_) (fun c0 => ?_)
  · have h := h.1 c0
    refine e_iconst (pc := 24) (v := -1) hE ki_m1 dX10_fewest_24 ?_
    exact hR dX10_fewest_25 h
  · have h := h.2 c0
    refine e_iload_n (pc := 8) hE rfl 2 rfl dX10_fewest_8 ?_
    refine e_iconst (pc := 9) (v := 0) hE ki_0 dX10_fewest_9 ?_
    refine e_iconst (pc := 10) (v := 3) hE ki_3 dX10_fewest_10 ?_
    refine c_M_in (pc := 11) (d := d + 13 + 0) hE (t_M_in (d := d + 13)  h) tw_1142 (Nat.le_of_ble_eq_true rfl) dX10_fewest_11 (fun r11 M11 h => ?_)
    refine e_if_eq (pc := 14) hE 24 dX10_fewest_14 (by decide) (fun c0 => ?_) (fun c0 => ?_)
    · have h := h.1 c0
      refine e_iconst (pc := 24) (v := -1) hE ki_m1 dX10_fewest_24 ?_
      exact hR dX10_fewest_25 h
    · have h := h.2 c0
      refine e_iload_n (pc := 17) hE rfl 3 rfl dX10_fewest_17 ?_
      refine c_M_isRow (pc := 18) (d := d + 12 + 1) hE (t_M_isRow (d := d + 12)  h) tw_1161 (Nat.le_of_ble_eq_true rfl) dX10_fewest_18 (fun r18 M18 h => ?_)
      refine e_if_ne (pc := 21) hE 26 dX10_fewest_21 (by decide) (fun c0 => ?_) (fun c0 => ?_)
      · have h := h.1 c0
        refine e_aload_n (pc := 26) hE rfl 0 rfl dX10_fewest_26 ?_
        refine e_iload_n (pc := 27) hE rfl 2 rfl dX10_fewest_27 ?_
        refine e_iload_n (pc := 28) hE rfl 1 rfl dX10_fewest_28 ?_
        refine c_M_allPlans (pc := 29) (d := d + 13) hE (t_M_allPlans (d := d)  h) tw_1386 (Nat.le_of_ble_eq_true rfl) dX10_fewest_29 (fun M29 h => ?_)
        refine e_aload_n (pc := 32) hE rfl 0 rfl dX10_fewest_32 ?_
        refine g_Md_bestHarvests (pc := 33) hE tw_1036 dX10_fewest_33 ?_
        refine e_if_ge (pc := 36) hE 42 dX10_fewest_36 (by decide) (fun c0 => ?_) (fun c0 => ?_)
        · have h := h.1 c0
          refine e_aload_n (pc := 42) hE rfl 0 rfl dX10_fewest_42 ?_
          refine e_iload_n (pc := 43) hE rfl 3 rfl dX10_fewest_43 ?_
          refine e_aload_n (pc := 44) hE rfl 0 rfl dX10_fewest_44 ?_
          refine g_Md_bestTried (pc := 45) hE tw_1035 dX10_fewest_45 ?_
          refine e_iload_n (pc := 48) hE rfl 2 rfl dX10_fewest_48 ?_
          refine c_M_layRow (pc := 49) (d := d + 13 + 0) hE (t_M_layRow (d := d + 13) ar_336 h) tw_1398 (Nat.le_of_ble_eq_true rfl) dX10_fewest_49 (fun M49 h => ?_)
          refine e_aload_n (pc := 52) hE rfl 0 rfl dX10_fewest_52 ?_
          refine g_Md_bestStamps (pc := 53) hE tw_1037 dX10_fewest_53 ?_
          exact hR dX10_fewest_56 h
        · have h := h.2 c0
          refine e_bipush (pc := 39) (v := -9) hE kb_m9 dX10_fewest_39 ?_
          exact hR dX10_fewest_41 h
      · have h := h.2 c0
        refine e_iconst (pc := 24) (v := -1) hE ki_m1 dX10_fewest_24 ?_
        exact hR dX10_fewest_25 h
set_option maxHeartbeats 4000000 in
set_option maxRecDepth 20000 in
theorem w_M_dies_65 {l : Launch} {G : Gs} {d : Nat} {E : EE}  {Q : Int32 → Mm → Prop} (hE : Mach l G RX10 cX10_dies 3 (d + 4) E) (hR : RtI cX10_dies E Q)   {KB : Int32 → Int32 → Mm → Prop} {K58 : Int32 → Int32 → Mm → Prop} {K71 : Int32 → Mm → Prop} {v1 : Int32} {v2 : Int32} {M : Mm} (h : k_M_dies_65 Q KB K58 K71 v1 v2 M) (hKB : ∀ (v1 : Int32) (v2 : Int32)  (M : Mm), KB v1 v2 M → E 32 [(0, rv G 312), (1, .int v1), (2, .int v2)] [] M) (hK58 : ∀ (v1 : Int32) (v2 : Int32)  (M : Mm), K58 v1 v2 M → E 58 [(0, rv G 312), (1, .int v1), (2, .int v2)] [] M) (hK71 : ∀ (v1 : Int32)  (M : Mm), K71 v1 M → E 71 [(0, rv G 312), (1, .int v1)] [] M) : E 65 [(0, rv G 312), (1, .int v1), (2, .int v2)] [] M := by
  unfold k_M_dies_65 at h
  obtain ⟨x65, ex65⟩ : ∃ y : Int32, y = v2 + (1 : Int32) := ⟨_, rfl⟩
  have h := h x65 ex65
  refine e_iinc (pc := 65) (k := 2) (v := x65) (lv' := [(2, .int x65), (0, rv G 312), (1, .int v1)]) hE dX10_dies_65 rfl (by rw [ex65, ki_1]) (by decide) rfl ?_
  refine e_goto (pc := 68) hE 32 dX10_dies_68 (by decide) ?_
  refine e_sub hE [1, 2, 0] rfl ?_
  exact hKB _ _ _ h
set_option maxHeartbeats 4000000 in
set_option maxRecDepth 20000 in
theorem w_M_dies_32 {l : Launch} {G : Gs} {d : Nat} {E : EE}  {Q : Int32 → Mm → Prop} (hE : Mach l G RX10 cX10_dies 3 (d + 4) E) (hR : RtI cX10_dies E Q)   {KB : Int32 → Int32 → Mm → Prop} {K58 : Int32 → Int32 → Mm → Prop} {K71 : Int32 → Mm → Prop} {v1 : Int32} {v2 : Int32} {M : Mm} (h : k_M_dies_32 Q KB K58 K71 v1 v2 M) (hKB : ∀ (v1 : Int32) (v2 : Int32)  (M : Mm), KB v1 v2 M → E 32 [(0, rv G 312), (1, .int v1), (2, .int v2)] [] M) (hK58 : ∀ (v1 : Int32) (v2 : Int32)  (M : Mm), K58 v1 v2 M → E 58 [(0, rv G 312), (1, .int v1), (2, .int v2)] [] M) (hK71 : ∀ (v1 : Int32)  (M : Mm), K71 v1 M → E 71 [(0, rv G 312), (1, .int v1)] [] M) : E 32 [(0, rv G 312), (1, .int v1), (2, .int v2)] [] M := by
  unfold k_M_dies_32 at h
  refine e_iload_n (pc := 32) hE rfl 2 rfl dX10_dies_32 ?_
  refine e_aload_n (pc := 33) hE rfl 0 rfl dX10_dies_33 ?_
  refine g_Md_n (pc := 34) hE tw_1009 dX10_dies_34 ?_
  refine e_icmp_ge (pc := 37) hE 71 dX10_dies_37 (by decide) (fun c0 => ?_) (fun c0 => ?_)
  · have h := h.1 c0
    refine e_sub hE [0, 1] rfl ?_
    exact hK71 _ _ h
  · have h := h.2 c0
    refine e_aload_n (pc := 40) hE rfl 0 rfl dX10_dies_40 ?_
    refine e_iconst (pc := 41) (v := 1) hE ki_1 dX10_dies_41 ?_
    refine e_iload_n (pc := 42) hE rfl 2 rfl dX10_dies_42 ?_
    refine c_M_isDead (pc := 43) (d := d + 3 + 0) hE (t_M_isDead (d := d + 3)  h) tw_1265 (Nat.le_of_ble_eq_true rfl) dX10_dies_43 (fun r43 M43 h => ?_)
    refine e_if_eq (pc := 46) hE 65 dX10_dies_46 (by decide) (fun c0 => ?_) (fun c0 => ?_)
    · have h := h.1 c0
      exact w_M_dies_65 hE hR h hKB hK58 hK71
    · have h := h.2 c0
      refine e_aload_n (pc := 49) hE rfl 0 rfl dX10_dies_49 ?_
      refine e_iconst (pc := 50) (v := 0) hE ki_0 dX10_dies_50 ?_
      refine e_iload_n (pc := 51) hE rfl 2 rfl dX10_dies_51 ?_
      refine c_M_isDead (pc := 52) (d := d + 3 + 0) hE (t_M_isDead (d := d + 3)  h) tw_1265 (Nat.le_of_ble_eq_true rfl) dX10_dies_52 (fun r52 M52 h => ?_)
      refine e_if_ne (pc := 55) hE 65 dX10_dies_55 (by decide) (fun c0 => ?_) (fun c0 => ?_)
      · have h := h.1 c0
        exact w_M_dies_65 hE hR h hKB hK58 hK71
      · have h := h.2 c0
        exact hK58 _ _ _ h
set_option maxHeartbeats 4000000 in
set_option maxRecDepth 20000 in
theorem w_lp_M_dies_32 {l : Launch} {G : Gs} {d : Nat} {E : EE}  {Q : Int32 → Mm → Prop} (hE : Mach l G RX10 cX10_dies 3 (d + 4) E) (hR : RtI cX10_dies E Q)   {K58 : Int32 → Int32 → Mm → Prop} {K71 : Int32 → Mm → Prop} {n : Nat} {v1 : Int32} {v2 : Int32} {M : Mm} (h : lp_M_dies_32 Q K58 K71 n v1 v2 M) (hK58 : ∀ (v1 : Int32) (v2 : Int32)  (M : Mm), K58 v1 v2 M → E 58 [(0, rv G 312), (1, .int v1), (2, .int v2)] [] M) (hK71 : ∀ (v1 : Int32)  (M : Mm), K71 v1 M → E 71 [(0, rv G 312), (1, .int v1)] [] M) : E 32 [(0, rv G 312), (1, .int v1), (2, .int v2)] [] M := by
  have key : ∀ (n : Nat) (v1 : Int32) (v2 : Int32) (M : Mm), lp_M_dies_32 Q K58 K71 n v1 v2 M → E 32 [(0, rv G 312), (1, .int v1), (2, .int v2)] [] M := by
    intro n
    induction n with
    | zero => intro v1 v2 M h; exact h.elim
    | succ n ih => intro v1 v2 M h; exact w_M_dies_32 hE hR  (show k_M_dies_32  Q (lp_M_dies_32 Q K58 K71 n) K58 K71 v1 v2 M from h) ih hK58 hK71
  exact key n _ _ _ h
set_option maxHeartbeats 4000000 in
set_option maxRecDepth 20000 in
theorem w_M_dies_18 {l : Launch} {G : Gs} {d : Nat} {E : EE}  {Q : Int32 → Mm → Prop} (hE : Mach l G RX10 cX10_dies 3 (d + 4) E) (hR : RtI cX10_dies E Q)   {KB : Int32 → Mm → Prop} {K58 : Int32 → Int32 → Mm → Prop} {v1 : Int32} {M : Mm} (h : k_M_dies_18 Q KB K58 v1 M) (hKB : ∀ (v1 : Int32)  (M : Mm), KB v1 M → E 18 [(0, rv G 312), (1, .int v1)] [] M) (hK58 : ∀ (v1 : Int32) (v2 : Int32)  (M : Mm), K58 v1 v2 M → E 58 [(0, rv G 312), (1, .int v1), (2, .int v2)] [] M) : E 18 [(0, rv G 312), (1, .int v1)] [] M := by
  unfold k_M_dies_18 at h
  refine e_iload_n (pc := 18) hE rfl 1 rfl dX10_dies_18 ?_
  refine e_bipush (pc := 19) (v := 40) hE kb_40 dX10_dies_19 ?_
  refine e_icmp_gt (pc := 21) hE 77 dX10_dies_21 (by decide) (fun c0 => ?_) (fun c0 => ?_)
  · have h := h.1 c0
    refine e_bipush (pc := 77) (v := -9) hE kb_m9 dX10_dies_77 ?_
    exact hR dX10_dies_79 h
  · have h := h.2 c0
    refine e_aload_n (pc := 24) hE rfl 0 rfl dX10_dies_24 ?_
    refine e_iconst (pc := 25) (v := 1) hE ki_1 dX10_dies_25 ?_
    refine c_M_passes (pc := 26) (d := d + 3) hE (t_M_passes (d := d)  h) tw_1324 (Nat.le_of_ble_eq_true rfl) dX10_dies_26 (fun r26 M26 h => ?_)
    refine e_pop (pc := 29) hE rfl dX10_dies_29 ?_
    refine e_iconst (pc := 30) (v := 0) hE ki_0 dX10_dies_30 ?_
    refine e_istore_n (pc := 31) (lv' := [(2, .int (0 : Int32)), (0, rv G 312), (1, .int v1)]) hE dX10_dies_31 rfl (by decide) rfl ?_
    obtain ⟨n, h⟩ := h
    refine e_sub hE [1, 2, 0] rfl ?_
    refine w_lp_M_dies_32 hE hR  h (fun v1 v2 M h => ?_) (fun v1 M h => ?_)
    · exact hK58 _ _ _ h
    · obtain ⟨x71, ex71⟩ : ∃ y : Int32, y = v1 + (1 : Int32) := ⟨_, rfl⟩
      have h := h x71 ex71
      refine e_iinc (pc := 71) (k := 1) (v := x71) (lv' := [(1, .int x71), (0, rv G 312)]) hE dX10_dies_71 rfl (by rw [ex71, ki_1]) (by decide) rfl ?_
      refine e_goto (pc := 74) hE 18 dX10_dies_74 (by decide) ?_
      refine e_sub hE [1, 0] rfl ?_
      exact hKB _ _ h
set_option maxHeartbeats 4000000 in
set_option maxRecDepth 20000 in
theorem w_lp_M_dies_18 {l : Launch} {G : Gs} {d : Nat} {E : EE}  {Q : Int32 → Mm → Prop} (hE : Mach l G RX10 cX10_dies 3 (d + 4) E) (hR : RtI cX10_dies E Q)   {K58 : Int32 → Int32 → Mm → Prop} {n : Nat} {v1 : Int32} {M : Mm} (h : lp_M_dies_18 Q K58 n v1 M) (hK58 : ∀ (v1 : Int32) (v2 : Int32)  (M : Mm), K58 v1 v2 M → E 58 [(0, rv G 312), (1, .int v1), (2, .int v2)] [] M) : E 18 [(0, rv G 312), (1, .int v1)] [] M := by
  have key : ∀ (n : Nat) (v1 : Int32) (M : Mm), lp_M_dies_18 Q K58 n v1 M → E 18 [(0, rv G 312), (1, .int v1)] [] M := by
    intro n
    induction n with
    | zero => intro v1 M h; exact h.elim
    | succ n ih => intro v1 M h; exact w_M_dies_18 hE hR  (show k_M_dies_18  Q (lp_M_dies_18 Q K58 n) K58 v1 M from h) ih hK58
  exact key n _ _ h
set_option maxHeartbeats 4000000 in
set_option maxRecDepth 20000 in
theorem t_M_dies {l : Launch} {G : Gs} {d : Nat}  {M : Mm} {Q : Int32 → Mm → Prop}  (h : wp_M_dies  M Q) : CtI l G (d + 4) yX10_dies cX10_dies 3 (some .int) [rv G 312] M Q := by
  refine CtI.mk (by decide) rfl (Nat.le_of_ble_eq_true rfl) (fun E hE hR => ?_)
  show E 0 [(0, rv G 312)] [] M
  unfold wp_M_dies at h
  refine e_aload_n (pc := 0) hE rfl 0 rfl dX10_dies_0 ?_
  refine g_Md_n (pc := 1) hE tw_1009 dX10_dies_1 ?_
  refine e_if_ne (pc := 4) hE 10 dX10_dies_4 (by decide) (fun c0 => ?_) (fun c0 => ?_)
  · have h := h.1 c0
    refine e_aload_n (pc := 10) hE rfl 0 rfl dX10_dies_10 ?_
    refine e_iconst (pc := 11) (v := 0) hE ki_0 dX10_dies_11 ?_
    refine e_iconst (pc := 12) (v := 1) hE ki_1 dX10_dies_12 ?_
    refine c_M_copyTo (pc := 13) (d := d + 3 + 0) hE (t_M_copyTo (d := d + 3)  h) tw_1374 (Nat.le_of_ble_eq_true rfl) dX10_dies_13 (fun M13 h => ?_)
    refine e_iconst (pc := 16) (v := 1) hE ki_1 dX10_dies_16 ?_
    refine e_istore_n (pc := 17) (lv' := [(1, .int (1 : Int32)), (0, rv G 312)]) hE dX10_dies_17 rfl (by decide) rfl ?_
    obtain ⟨n, h⟩ := h
    refine e_sub hE [1, 0] rfl ?_
    refine w_lp_M_dies_18 hE hR  h (fun v1 v2 M h => ?_)
    refine e_aload_n (pc := 58) hE rfl 0 rfl dX10_dies_58 ?_
    refine e_iload_n (pc := 59) hE rfl 1 rfl dX10_dies_59 ?_
    refine e_iload_n (pc := 60) hE rfl 2 rfl dX10_dies_60 ?_
    refine c_M_tells (pc := 61) (d := d + 3 + 0) hE (t_M_tells (d := d + 3)  h) tw_1176 (Nat.le_of_ble_eq_true rfl) dX10_dies_61 (fun r61 M61 h => ?_)
    exact hR dX10_dies_64 h
  · have h := h.2 c0
    refine e_bipush (pc := 7) (v := -4) hE kb_m4 dX10_dies_7 ?_
    exact hR dX10_dies_9 h
set_option maxHeartbeats 4000000 in
set_option maxRecDepth 20000 in
theorem w_M_passesOf_5 {l : Launch} {G : Gs} {d : Nat} {E : EE} {a1 : Int32} {a2 : Int32} {Q : Int32 → Mm → Prop} (hE : Mach l G RX10 cX10_passesOf 5 (d + 4) E) (hR : RtI cX10_passesOf E Q)   {KB : Int32 → Int32 → Mm → Prop} {v3 : Int32} {v4 : Int32} {M : Mm} (h : k_M_passesOf_5 a1 a2 Q KB v3 v4 M) (hKB : ∀ (v3 : Int32) (v4 : Int32)  (M : Mm), KB v3 v4 M → E 5 [(0, rv G 312), (1, .int a1), (2, .int a2), (3, .int v3), (4, .int v4)] [] M) : E 5 [(0, rv G 312), (1, .int a1), (2, .int a2), (3, .int v3), (4, .int v4)] [] M := by
  unfold k_M_passesOf_5 at h
  refine e_iload (pc := 5) hE 4 rfl dX10_passesOf_5 ?_
  refine e_iload_n (pc := 7) hE rfl 2 rfl dX10_passesOf_7 ?_
  refine e_icmp_ge (pc := 8) hE 25 dX10_passesOf_8 (by decide) (fun c0 => ?_) (fun c0 => ?_)
  · have h := h.1 c0
    refine e_iload_n (pc := 25) hE rfl 3 rfl dX10_passesOf_25 ?_
    exact hR dX10_passesOf_26 h
  · have h := h.2 c0
    refine e_iload_n (pc := 11) hE rfl 3 rfl dX10_passesOf_11 ?_
    refine e_aload_n (pc := 12) hE rfl 0 rfl dX10_passesOf_12 ?_
    refine e_iload_n (pc := 13) hE rfl 1 rfl dX10_passesOf_13 ?_
    refine c_M_passes (pc := 14) (d := d + 3) hE (t_M_passes (d := d)  h) tw_1324 (Nat.le_of_ble_eq_true rfl) dX10_passesOf_14 (fun r14 M14 h => ?_)
    refine e_iadd (pc := 17) hE dX10_passesOf_17 ?_
    refine e_topi (fun x18 ex18 => ?_)
    have h := h x18 ex18
    refine e_istore_n (pc := 18) (lv' := [(3, .int x18), (0, rv G 312), (1, .int a1), (2, .int a2), (4, .int v4)]) hE dX10_passesOf_18 rfl (by decide) rfl ?_
    obtain ⟨x19, ex19⟩ : ∃ y : Int32, y = v4 + (1 : Int32) := ⟨_, rfl⟩
    have h := h x19 ex19
    refine e_iinc (pc := 19) (k := 4) (v := x19) (lv' := [(4, .int x19), (3, .int x18), (0, rv G 312), (1, .int a1), (2, .int a2)]) hE dX10_passesOf_19 rfl (by rw [ex19, ki_1]) (by decide) rfl ?_
    refine e_goto (pc := 22) hE 5 dX10_passesOf_22 (by decide) ?_
    refine e_sub hE [2, 3, 4, 1, 0] rfl ?_
    exact hKB _ _ _ h
set_option maxHeartbeats 4000000 in
set_option maxRecDepth 20000 in
theorem w_lp_M_passesOf_5 {l : Launch} {G : Gs} {d : Nat} {E : EE} {a1 : Int32} {a2 : Int32} {Q : Int32 → Mm → Prop} (hE : Mach l G RX10 cX10_passesOf 5 (d + 4) E) (hR : RtI cX10_passesOf E Q)    {n : Nat} {v3 : Int32} {v4 : Int32} {M : Mm} (h : lp_M_passesOf_5 a1 a2 Q n v3 v4 M)  : E 5 [(0, rv G 312), (1, .int a1), (2, .int a2), (3, .int v3), (4, .int v4)] [] M := by
  have key : ∀ (n : Nat) (v3 : Int32) (v4 : Int32) (M : Mm), lp_M_passesOf_5 a1 a2 Q n v3 v4 M → E 5 [(0, rv G 312), (1, .int a1), (2, .int a2), (3, .int v3), (4, .int v4)] [] M := by
    intro n
    induction n with
    | zero => intro v3 v4 M h; exact h.elim
    | succ n ih => intro v3 v4 M h; exact w_M_passesOf_5 hE hR  (show k_M_passesOf_5 a1 a2 Q (lp_M_passesOf_5 a1 a2 Q n)  v3 v4 M from h) ih 
  exact key n _ _ _ h
set_option maxHeartbeats 4000000 in
set_option maxRecDepth 20000 in
theorem t_M_passesOf {l : Launch} {G : Gs} {d : Nat} {a1 : Int32} {a2 : Int32} {M : Mm} {Q : Int32 → Mm → Prop}  (h : wp_M_passesOf a1 a2 M Q) : CtI l G (d + 4) yX10_passesOf cX10_passesOf 5 (some .int) [rv G 312, .int a1, .int a2] M Q := by
  refine CtI.mk (by decide) rfl (Nat.le_of_ble_eq_true rfl) (fun E hE hR => ?_)
  show E 0 [(0, rv G 312), (1, .int a1), (2, .int a2)] [] M
  unfold wp_M_passesOf at h
  refine e_iconst (pc := 0) (v := 0) hE ki_0 dX10_passesOf_0 ?_
  refine e_istore_n (pc := 1) (lv' := [(3, .int (0 : Int32)), (0, rv G 312), (1, .int a1), (2, .int a2)]) hE dX10_passesOf_1 rfl (by decide) rfl ?_
  refine e_iconst (pc := 2) (v := 0) hE ki_0 dX10_passesOf_2 ?_
  refine e_istore (pc := 3) (lv' := [(4, .int (0 : Int32)), (3, .int (0 : Int32)), (0, rv G 312), (1, .int a1), (2, .int a2)]) hE dX10_passesOf_3 (by decide) rfl ?_
  obtain ⟨n, h⟩ := h
  refine e_sub hE [2, 3, 4, 1, 0] rfl ?_
  refine w_lp_M_passesOf_5 hE hR  h 
set_option maxHeartbeats 4000000 in
set_option maxRecDepth 20000 in
theorem t_M_barge {l : Launch} {G : Gs} {d : Nat} {a1 : Int32} {a2 : Int32} {M : Mm} {Q : Int32 → Mm → Prop}  (h : wp_M_barge a1 a2 M Q) : CtI l G (d + 5) yX10_barge cX10_barge 3 (some .int) [rv G 312, .int a1, .int a2] M Q := by
  refine CtI.mk (by decide) rfl (Nat.le_of_ble_eq_true rfl) (fun E hE hR => ?_)
  show E 0 [(0, rv G 312), (1, .int a1), (2, .int a2)] [] M
  unfold wp_M_barge at h
  refine e_aload_n (pc := 0) hE rfl 0 rfl dX10_barge_0 ?_
  refine e_iload_n (pc := 1) hE rfl 1 rfl dX10_barge_1 ?_
  refine c_M_isArm (pc := 2) (d := d + 3 + 1) hE (t_M_isArm (d := d + 3)  h) tw_1253 (Nat.le_of_ble_eq_true rfl) dX10_barge_2 (fun r2 M2 h => ?_)
  refine e_if_eq (pc := 5) hE 18 dX10_barge_5 (by decide) (fun c0 => ?_) (fun c0 => ?_)
  · have h := h.1 c0
    refine e_iconst (pc := 18) (v := -1) hE ki_m1 dX10_barge_18 ?_
    exact hR dX10_barge_19 h
  · have h := h.2 c0
    refine e_iload_n (pc := 8) hE rfl 2 rfl dX10_barge_8 ?_
    refine e_iconst (pc := 9) (v := 0) hE ki_0 dX10_barge_9 ?_
    refine e_bipush (pc := 10) (v := 12) hE kb_12 dX10_barge_10 ?_
    refine c_M_in (pc := 12) (d := d + 4 + 0) hE (t_M_in (d := d + 4)  h) tw_1142 (Nat.le_of_ble_eq_true rfl) dX10_barge_12 (fun r12 M12 h => ?_)
    refine e_if_ne (pc := 15) hE 20 dX10_barge_15 (by decide) (fun c0 => ?_) (fun c0 => ?_)
    · have h := h.1 c0
      refine e_aload_n (pc := 20) hE rfl 0 rfl dX10_barge_20 ?_
      refine e_iconst (pc := 21) (v := 0) hE ki_0 dX10_barge_21 ?_
      refine e_iload_n (pc := 22) hE rfl 1 rfl dX10_barge_22 ?_
      refine c_M_isBarge (pc := 23) (d := d + 4 + 0) hE (t_M_isBarge (d := d + 4)  h) tw_1273 (Nat.le_of_ble_eq_true rfl) dX10_barge_23 (fun r23 M23 h => ?_)
      refine e_if_ne (pc := 26) hE 32 dX10_barge_26 (by decide) (fun c0 => ?_) (fun c0 => ?_)
      · have h := h.1 c0
        refine e_aload_n (pc := 32) hE rfl 0 rfl dX10_barge_32 ?_
        refine e_iconst (pc := 33) (v := 0) hE ki_0 dX10_barge_33 ?_
        refine e_iconst (pc := 34) (v := 1) hE ki_1 dX10_barge_34 ?_
        refine c_M_copyTo (pc := 35) (d := d + 4 + 0) hE (t_M_copyTo (d := d + 4)  h) tw_1374 (Nat.le_of_ble_eq_true rfl) dX10_barge_35 (fun M35 h => ?_)
        refine e_aload_n (pc := 38) hE rfl 0 rfl dX10_barge_38 ?_
        refine e_iconst (pc := 39) (v := 0) hE ki_0 dX10_barge_39 ?_
        refine e_iconst (pc := 40) (v := 2) hE ki_2 dX10_barge_40 ?_
        refine c_M_copyTo (pc := 41) (d := d + 4 + 0) hE (t_M_copyTo (d := d + 4)  h) tw_1374 (Nat.le_of_ble_eq_true rfl) dX10_barge_41 (fun M41 h => ?_)
        refine e_aload_n (pc := 44) hE rfl 0 rfl dX10_barge_44 ?_
        refine e_iconst (pc := 45) (v := 2) hE ki_2 dX10_barge_45 ?_
        refine e_iload_n (pc := 46) hE rfl 1 rfl dX10_barge_46 ?_
        refine c_M_leaves (pc := 47) (d := d + 4 + 0) hE (t_M_leaves (d := d + 4)  h) tw_1342 (Nat.le_of_ble_eq_true rfl) dX10_barge_47 (fun M47 h => ?_)
        refine e_bipush (pc := 50) (v := 100) hE kb_100 dX10_barge_50 ?_
        refine e_aload_n (pc := 52) hE rfl 0 rfl dX10_barge_52 ?_
        refine e_iconst (pc := 53) (v := 2) hE ki_2 dX10_barge_53 ?_
        refine e_iload_n (pc := 54) hE rfl 2 rfl dX10_barge_54 ?_
        refine c_M_passesOf (pc := 55) (d := d + 4) hE (t_M_passesOf (d := d)  h) tw_1414 (Nat.le_of_ble_eq_true rfl) dX10_barge_55 (fun r55 M55 h => ?_)
        refine e_iadd (pc := 58) hE dX10_barge_58 ?_
        refine e_aload_n (pc := 59) hE rfl 0 rfl dX10_barge_59 ?_
        refine e_iconst (pc := 60) (v := 1) hE ki_1 dX10_barge_60 ?_
        refine e_iload_n (pc := 61) hE rfl 2 rfl dX10_barge_61 ?_
        refine c_M_passesOf (pc := 62) (d := d + 4) hE (t_M_passesOf (d := d)  h) tw_1414 (Nat.le_of_ble_eq_true rfl) dX10_barge_62 (fun r62 M62 h => ?_)
        refine e_isub (pc := 65) hE dX10_barge_65 ?_
        exact hR dX10_barge_66 h
      · have h := h.2 c0
        refine e_bipush (pc := 29) (v := 100) hE kb_100 dX10_barge_29 ?_
        exact hR dX10_barge_31 h
    · have h := h.2 c0
      refine e_iconst (pc := 18) (v := -1) hE ki_m1 dX10_barge_18 ?_
      exact hR dX10_barge_19 h
set_option maxHeartbeats 4000000 in
set_option maxRecDepth 20000 in
theorem t_M_needArms {l : Launch} {G : Gs} {d : Nat} {a1 : Int32} {M : Mm} {Q : Int32 → Mm → Prop}  (h : wp_M_needArms a1 M Q) : CtI l G (d + 2) yX10_needArms cX10_needArms 2 (some .int) [rv G 312, .int a1] M Q := by
  refine CtI.mk (by decide) rfl (Nat.le_of_ble_eq_true rfl) (fun E hE hR => ?_)
  show E 0 [(0, rv G 312), (1, .int a1)] [] M
  unfold wp_M_needArms at h
  refine e_iload_n (pc := 0) hE rfl 1 rfl dX10_needArms_0 ?_
  refine c_M_isRow (pc := 1) (d := d + 1) hE (t_M_isRow (d := d)  h) tw_1161 (Nat.le_of_ble_eq_true rfl) dX10_needArms_1 (fun r1 M1 h => ?_)
  refine e_if_ne (pc := 4) hE 9 dX10_needArms_4 (by decide) (fun c0 => ?_) (fun c0 => ?_)
  · have h := h.1 c0
    refine e_aload_n (pc := 9) hE rfl 0 rfl dX10_needArms_9 ?_
    refine g_Md_n (pc := 10) hE tw_1009 dX10_needArms_10 ?_
    refine e_if_ne (pc := 13) hE 19 dX10_needArms_13 (by decide) (fun c0 => ?_) (fun c0 => ?_)
    · have h := h.1 c0
      refine e_aload_n (pc := 19) hE rfl 0 rfl dX10_needArms_19 ?_
      refine g_Md_sizes (pc := 20) hE tw_1004 dX10_needArms_20 ?_
      refine e_iload_n (pc := 23) hE rfl 1 rfl dX10_needArms_23 ?_
      refine e_iald (pc := 24) hE ar_314 h.1 dX10_needArms_24 ?_
      have h := h.2
      refine e_if_ge (pc := 25) hE 34 dX10_needArms_25 (by decide) (fun c0 => ?_) (fun c0 => ?_)
      · have h := h.1 c0
        refine e_aload_n (pc := 34) hE rfl 0 rfl dX10_needArms_34 ?_
        refine g_Md_sizes (pc := 35) hE tw_1004 dX10_needArms_35 ?_
        refine e_iload_n (pc := 38) hE rfl 1 rfl dX10_needArms_38 ?_
        refine e_iald (pc := 39) hE ar_314 h.1 dX10_needArms_39 ?_
        have h := h.2
        refine e_aload_n (pc := 40) hE rfl 0 rfl dX10_needArms_40 ?_
        refine g_Md_n (pc := 41) hE tw_1009 dX10_needArms_41 ?_
        refine e_icmp_eq (pc := 44) hE 55 dX10_needArms_44 (by decide) (fun c0 => ?_) (fun c0 => ?_)
        · have h := h.1 c0
          refine e_iconst (pc := 55) (v := 0) hE ki_0 dX10_needArms_55 ?_
          exact hR dX10_needArms_56 h
        · have h := h.2 c0
          refine e_aload_n (pc := 47) hE rfl 0 rfl dX10_needArms_47 ?_
          refine e_iconst (pc := 48) (v := 5) hE ki_5 dX10_needArms_48 ?_
          refine c_M_meets (pc := 49) (d := d + 1 + 0) hE (t_M_meets (d := d + 1)  h) tw_1164 (Nat.le_of_ble_eq_true rfl) dX10_needArms_49 (fun r49 M49 h => ?_)
          refine e_goto (pc := 52) hE 56 dX10_needArms_52 (by decide) ?_
          exact hR dX10_needArms_56 h
      · have h := h.2 c0
        refine e_aload_n (pc := 28) hE rfl 0 rfl dX10_needArms_28 ?_
        refine e_iconst (pc := 29) (v := 1) hE ki_1 dX10_needArms_29 ?_
        refine c_M_meets (pc := 30) (d := d + 1 + 0) hE (t_M_meets (d := d + 1)  h) tw_1164 (Nat.le_of_ble_eq_true rfl) dX10_needArms_30 (fun r30 M30 h => ?_)
        exact hR dX10_needArms_33 h
    · have h := h.2 c0
      refine e_bipush (pc := 16) (v := -4) hE kb_m4 dX10_needArms_16 ?_
      exact hR dX10_needArms_18 h
  · have h := h.2 c0
    refine e_iconst (pc := 7) (v := -1) hE ki_m1 dX10_needArms_7 ?_
    exact hR dX10_needArms_8 h
set_option maxHeartbeats 4000000 in
set_option maxRecDepth 20000 in
theorem w_M_saltBy_64 {l : Launch} {G : Gs} {d : Nat} {E : EE} {a1 : Int32} {a2 : Int32} {Q : Int32 → Mm → Prop} (hE : Mach l G RX10 cX10_saltBy 6 (d + 4) E) (hR : RtI cX10_saltBy E Q)   {KB : Int32 → Int32 → Int32 → Mm → Prop} {K72 : Int32 → Int32 → Mm → Prop} {v3 : Int32} {v5 : Int32} {s0 : Int32} {M : Mm} (h : k_M_saltBy_64 a1 a2 Q KB K72 v3 v5 s0 M) (hKB : ∀ (v3 : Int32) (v4 : Int32) (v5 : Int32)  (M : Mm), KB v3 v4 v5 M → E 25 [(0, rv G 312), (1, .int a1), (3, .int v3), (4, .int v4), (5, .int v5)] [] M) (hK72 : ∀ (v3 : Int32) (v4 : Int32)  (M : Mm), K72 v3 v4 M → E 72 [(3, .int v3), (4, .int v4)] [] M) : E 64 [(0, rv G 312), (1, .int a1), (3, .int v3), (5, .int v5)] [.int s0] M := by
  unfold k_M_saltBy_64 at h
  refine e_istore (pc := 64) (lv' := [(4, .int s0), (0, rv G 312), (1, .int a1), (3, .int v3), (5, .int v5)]) hE dX10_saltBy_64 (by decide) rfl ?_
  obtain ⟨x66, ex66⟩ : ∃ y : Int32, y = v5 + (1 : Int32) := ⟨_, rfl⟩
  have h := h x66 ex66
  refine e_iinc (pc := 66) (k := 4) (v := x66) (lv' := [(5, .int x66), (4, .int s0), (0, rv G 312), (1, .int a1), (3, .int v3)]) hE dX10_saltBy_66 rfl (by rw [ex66, ki_1]) (by decide) rfl ?_
  refine e_goto (pc := 69) hE 25 dX10_saltBy_69 (by decide) ?_
  refine e_sub hE [2, 3, 4, 1, 0] rfl ?_
  exact hKB _ _ _ _ h
set_option maxHeartbeats 4000000 in
set_option maxRecDepth 20000 in
theorem w_M_saltBy_63 {l : Launch} {G : Gs} {d : Nat} {E : EE} {a1 : Int32} {a2 : Int32} {Q : Int32 → Mm → Prop} (hE : Mach l G RX10 cX10_saltBy 6 (d + 4) E) (hR : RtI cX10_saltBy E Q)   {KB : Int32 → Int32 → Int32 → Mm → Prop} {K72 : Int32 → Int32 → Mm → Prop} {v3 : Int32} {v5 : Int32} {M : Mm} (h : k_M_saltBy_63 a1 a2 Q KB K72 v3 v5 M) (hKB : ∀ (v3 : Int32) (v4 : Int32) (v5 : Int32)  (M : Mm), KB v3 v4 v5 M → E 25 [(0, rv G 312), (1, .int a1), (3, .int v3), (4, .int v4), (5, .int v5)] [] M) (hK72 : ∀ (v3 : Int32) (v4 : Int32)  (M : Mm), K72 v3 v4 M → E 72 [(3, .int v3), (4, .int v4)] [] M) : E 63 [(0, rv G 312), (1, .int a1), (3, .int v3), (5, .int v5)] [] M := by
  unfold k_M_saltBy_63 at h
  refine e_iconst (pc := 63) (v := 0) hE ki_0 dX10_saltBy_63 ?_
  exact w_M_saltBy_64 hE hR h hKB hK72
set_option maxHeartbeats 4000000 in
set_option maxRecDepth 20000 in
theorem w_M_saltBy_25 {l : Launch} {G : Gs} {d : Nat} {E : EE} {a1 : Int32} {a2 : Int32} {Q : Int32 → Mm → Prop} (hE : Mach l G RX10 cX10_saltBy 6 (d + 4) E) (hR : RtI cX10_saltBy E Q)   {KB : Int32 → Int32 → Int32 → Mm → Prop} {K72 : Int32 → Int32 → Mm → Prop} {v3 : Int32} {v4 : Int32} {v5 : Int32} {M : Mm} (h : k_M_saltBy_25 a1 a2 Q KB K72 v3 v4 v5 M) (hKB : ∀ (v3 : Int32) (v4 : Int32) (v5 : Int32)  (M : Mm), KB v3 v4 v5 M → E 25 [(0, rv G 312), (1, .int a1), (3, .int v3), (4, .int v4), (5, .int v5)] [] M) (hK72 : ∀ (v3 : Int32) (v4 : Int32)  (M : Mm), K72 v3 v4 M → E 72 [(3, .int v3), (4, .int v4)] [] M) : E 25 [(0, rv G 312), (1, .int a1), (3, .int v3), (4, .int v4), (5, .int v5)] [] M := by
  unfold k_M_saltBy_25 at h
  refine e_iload (pc := 25) hE 4 rfl dX10_saltBy_25 ?_
  refine e_aload_n (pc := 27) hE rfl 0 rfl dX10_saltBy_27 ?_
  refine g_Md_n (pc := 28) hE tw_1009 dX10_saltBy_28 ?_
  refine e_icmp_ge (pc := 31) hE 72 dX10_saltBy_31 (by decide) (fun c0 => ?_) (fun c0 => ?_)
  · have h := h.1 c0
    refine e_sub hE [2, 3] rfl ?_
    exact hK72 _ _ _ h
  · have h := h.2 c0
    refine e_iload (pc := 34) hE 3 rfl dX10_saltBy_34 ?_
    refine e_if_eq (pc := 36) hE 63 dX10_saltBy_36 (by decide) (fun c0 => ?_) (fun c0 => ?_)
    · have h := h.1 c0
      refine e_sub hE [0, 1, 2, 4] rfl ?_
      exact w_M_saltBy_63 hE hR h hKB hK72
    · have h := h.2 c0
      refine e_aload_n (pc := 39) hE rfl 0 rfl dX10_saltBy_39 ?_
      refine g_Md_all (pc := 40) hE tw_1024 dX10_saltBy_40 ?_
      refine e_bipush (pc := 43) (v := 36) hE kb_36 dX10_saltBy_43 ?_
      refine e_iload (pc := 45) hE 4 rfl dX10_saltBy_45 ?_
      refine e_iadd (pc := 47) hE dX10_saltBy_47 ?_
      refine e_iald (pc := 48) hE ar_327 h.1 dX10_saltBy_48 ?_
      have h := h.2
      refine e_aload_n (pc := 49) hE rfl 0 rfl dX10_saltBy_49 ?_
      refine e_iload_n (pc := 50) hE rfl 1 rfl dX10_saltBy_50 ?_
      refine e_iload (pc := 51) hE 4 rfl dX10_saltBy_51 ?_
      refine c_M_rowAt (pc := 53) (d := d + 3 + 0) hE (t_M_rowAt (d := d + 3)  h) tw_1172 (Nat.le_of_ble_eq_true rfl) dX10_saltBy_53 (fun r53 M53 h => ?_)
      refine e_icmp_ne (pc := 56) hE 63 dX10_saltBy_56 (by decide) (fun c0 => ?_) (fun c0 => ?_)
      · have h := h.1 c0
        refine e_sub hE [0, 1, 2, 4] rfl ?_
        exact w_M_saltBy_63 hE hR h hKB hK72
      · have h := h.2 c0
        refine e_iconst (pc := 59) (v := 1) hE ki_1 dX10_saltBy_59 ?_
        refine e_goto (pc := 60) hE 64 dX10_saltBy_60 (by decide) ?_
        refine e_sub hE [0, 1, 2, 4] rfl ?_
        exact w_M_saltBy_64 hE hR h hKB hK72
set_option maxHeartbeats 4000000 in
set_option maxRecDepth 20000 in
theorem w_lp_M_saltBy_25 {l : Launch} {G : Gs} {d : Nat} {E : EE} {a1 : Int32} {a2 : Int32} {Q : Int32 → Mm → Prop} (hE : Mach l G RX10 cX10_saltBy 6 (d + 4) E) (hR : RtI cX10_saltBy E Q)   {K72 : Int32 → Int32 → Mm → Prop} {n : Nat} {v3 : Int32} {v4 : Int32} {v5 : Int32} {M : Mm} (h : lp_M_saltBy_25 a1 a2 Q K72 n v3 v4 v5 M) (hK72 : ∀ (v3 : Int32) (v4 : Int32)  (M : Mm), K72 v3 v4 M → E 72 [(3, .int v3), (4, .int v4)] [] M) : E 25 [(0, rv G 312), (1, .int a1), (3, .int v3), (4, .int v4), (5, .int v5)] [] M := by
  have key : ∀ (n : Nat) (v3 : Int32) (v4 : Int32) (v5 : Int32) (M : Mm), lp_M_saltBy_25 a1 a2 Q K72 n v3 v4 v5 M → E 25 [(0, rv G 312), (1, .int a1), (3, .int v3), (4, .int v4), (5, .int v5)] [] M := by
    intro n
    induction n with
    | zero => intro v3 v4 v5 M h; exact h.elim
    | succ n ih => intro v3 v4 v5 M h; exact w_M_saltBy_25 hE hR  (show k_M_saltBy_25 a1 a2 Q (lp_M_saltBy_25 a1 a2 Q K72 n) K72 v3 v4 v5 M from h) ih hK72
  exact key n _ _ _ _ h
set_option maxHeartbeats 4000000 in
set_option maxRecDepth 20000 in
theorem t_M_saltBy {l : Launch} {G : Gs} {d : Nat} {a1 : Int32} {a2 : Int32} {M : Mm} {Q : Int32 → Mm → Prop}  (h : wp_M_saltBy a1 a2 M Q) : CtI l G (d + 4) yX10_saltBy cX10_saltBy 6 (some .int) [rv G 312, .int a1, .int a2] M Q := by
  refine CtI.mk (by decide) rfl (Nat.le_of_ble_eq_true rfl) (fun E hE hR => ?_)
  show E 0 [(0, rv G 312), (1, .int a1), (2, .int a2)] [] M
  unfold wp_M_saltBy at h
  refine e_aload_n (pc := 0) hE rfl 0 rfl dX10_saltBy_0 ?_
  refine e_iconst (pc := 1) (v := 0) hE ki_0 dX10_saltBy_1 ?_
  refine e_iconst (pc := 2) (v := 1) hE ki_1 dX10_saltBy_2 ?_
  refine c_M_copyTo (pc := 3) (d := d + 3 + 0) hE (t_M_copyTo (d := d + 3)  h) tw_1374 (Nat.le_of_ble_eq_true rfl) dX10_saltBy_3 (fun M3 h => ?_)
  refine e_aload_n (pc := 6) hE rfl 0 rfl dX10_saltBy_6 ?_
  refine e_iconst (pc := 7) (v := 1) hE ki_1 dX10_saltBy_7 ?_
  refine e_iload_n (pc := 8) hE rfl 2 rfl dX10_saltBy_8 ?_
  refine c_M_stampsOf (pc := 9) (d := d + 3) hE (t_M_stampsOf (d := d)  h) tw_1378 (Nat.le_of_ble_eq_true rfl) dX10_saltBy_9 (fun r9 M9 h => ?_)
  refine e_istore_n (pc := 12) (lv' := [(3, .int r9), (0, rv G 312), (1, .int a1), (2, .int a2)]) hE dX10_saltBy_12 rfl (by decide) rfl ?_
  refine e_aload_n (pc := 13) hE rfl 1 rfl dX10_saltBy_13 ?_
  refine e_iconst (pc := 14) (v := 1) hE ki_1 dX10_saltBy_14 ?_
  refine c_M_passes (pc := 15) (d := d + 3) hE (t_M_passes (d := d)  h) tw_1324 (Nat.le_of_ble_eq_true rfl) dX10_saltBy_15 (fun r15 M15 h => ?_)
  refine e_pop (pc := 18) hE rfl dX10_saltBy_18 ?_
  refine e_iconst (pc := 19) (v := 1) hE ki_1 dX10_saltBy_19 ?_
  refine e_istore (pc := 20) (lv' := [(4, .int (1 : Int32)), (3, .int r9), (0, rv G 312), (1, .int a1), (2, .int a2)]) hE dX10_saltBy_20 (by decide) rfl ?_
  refine e_iconst (pc := 22) (v := 0) hE ki_0 dX10_saltBy_22 ?_
  refine e_istore (pc := 23) (lv' := [(5, .int (0 : Int32)), (4, .int (1 : Int32)), (3, .int r9), (0, rv G 312), (1, .int a1), (2, .int a2)]) hE dX10_saltBy_23 (by decide) rfl ?_
  obtain ⟨n, h⟩ := h
  refine e_sub hE [3, 4, 2, 1, 0] rfl ?_
  refine w_lp_M_saltBy_25 hE hR  h (fun v3 v4 M h => ?_)
  refine e_iload (pc := 72) hE 1 rfl dX10_saltBy_72 ?_
  refine e_if_eq (pc := 74) hE 81 dX10_saltBy_74 (by decide) (fun c0 => ?_) (fun c0 => ?_)
  · have h := h.1 c0
    refine e_bipush (pc := 81) (v := -9) hE kb_m9 dX10_saltBy_81 ?_
    exact hR dX10_saltBy_83 h
  · have h := h.2 c0
    refine e_iload_n (pc := 77) hE rfl 0 rfl dX10_saltBy_77 ?_
    refine e_goto (pc := 78) hE 83 dX10_saltBy_78 (by decide) ?_
    exact hR dX10_saltBy_83 h
set_option maxHeartbeats 4000000 in
set_option maxRecDepth 20000 in
theorem w_M_fits_78 {l : Launch} {G : Gs} {d : Nat} {E : EE} {a1 : Int32} {Q : Int32 → Mm → Prop} (hE : Mach l G RX10 cX10_fits 7 (d + 5) E) (hR : RtI cX10_fits E Q)   {KB : Int32 → Int32 → Int32 → Mm → Prop} {K86 : Int32 → Int32 → Mm → Prop} {v4 : Int32} {v5 : Int32} {s0 : Int32} {s1 : Int32} {M : Mm} (h : k_M_fits_78 a1 Q KB K86 v4 v5 s0 s1 M) (hKB : ∀ (v3 : Int32) (v4 : Int32) (v5 : Int32)  (M : Mm), KB v3 v4 v5 M → E 21 [(0, rv G 312), (1, .int a1), (3, .int v3), (4, .int v4), (5, .int v5)] [] M) (hK86 : ∀ (v3 : Int32) (v4 : Int32)  (M : Mm), K86 v3 v4 M → E 86 [(0, rv G 312), (3, .int v3), (4, .int v4)] [] M) : E 78 [(0, rv G 312), (1, .int a1), (4, .int v4), (5, .int v5)] [.int s0, .int s1] M := by
  unfold k_M_fits_78 at h
  refine e_iadd (pc := 78) hE dX10_fits_78 ?_
  refine e_topi (fun x79 ex79 => ?_)
  have h := h x79 ex79
  refine e_istore_n (pc := 79) (lv' := [(3, .int x79), (0, rv G 312), (1, .int a1), (4, .int v4), (5, .int v5)]) hE dX10_fits_79 rfl (by decide) rfl ?_
  obtain ⟨x80, ex80⟩ : ∃ y : Int32, y = v5 + (1 : Int32) := ⟨_, rfl⟩
  have h := h x80 ex80
  refine e_iinc (pc := 80) (k := 4) (v := x80) (lv' := [(5, .int x80), (3, .int x79), (0, rv G 312), (1, .int a1), (4, .int v4)]) hE dX10_fits_80 rfl (by rw [ex80, ki_1]) (by decide) rfl ?_
  refine e_goto (pc := 83) hE 21 dX10_fits_83 (by decide) ?_
  refine e_sub hE [2, 3, 1, 4, 0] rfl ?_
  exact hKB _ _ _ _ h
set_option maxHeartbeats 4000000 in
set_option maxRecDepth 20000 in
theorem w_M_fits_65 {l : Launch} {G : Gs} {d : Nat} {E : EE} {a1 : Int32} {Q : Int32 → Mm → Prop} (hE : Mach l G RX10 cX10_fits 7 (d + 5) E) (hR : RtI cX10_fits E Q)   {KB : Int32 → Int32 → Int32 → Mm → Prop} {K86 : Int32 → Int32 → Mm → Prop} {v3 : Int32} {v5 : Int32} {v6 : Int32} {s0 : Int32} {M : Mm} (h : k_M_fits_65 a1 Q KB K86 v3 v5 v6 s0 M) (hKB : ∀ (v3 : Int32) (v4 : Int32) (v5 : Int32)  (M : Mm), KB v3 v4 v5 M → E 21 [(0, rv G 312), (1, .int a1), (3, .int v3), (4, .int v4), (5, .int v5)] [] M) (hK86 : ∀ (v3 : Int32) (v4 : Int32)  (M : Mm), K86 v3 v4 M → E 86 [(0, rv G 312), (3, .int v3), (4, .int v4)] [] M) : E 65 [(0, rv G 312), (1, .int a1), (3, .int v3), (5, .int v5), (6, .int v6)] [.int s0] M := by
  unfold k_M_fits_65 at h
  refine e_istore (pc := 65) (lv' := [(4, .int s0), (0, rv G 312), (1, .int a1), (3, .int v3), (5, .int v5), (6, .int v6)]) hE dX10_fits_65 (by decide) rfl ?_
  refine e_iload_n (pc := 67) hE rfl 3 rfl dX10_fits_67 ?_
  refine e_iload (pc := 68) hE 5 rfl dX10_fits_68 ?_
  refine e_if_eq (pc := 70) hE 77 dX10_fits_70 (by decide) (fun c0 => ?_) (fun c0 => ?_)
  · have h := h.1 c0
    refine e_iconst (pc := 77) (v := 0) hE ki_0 dX10_fits_77 ?_
    refine e_sub hE [1, 2, 0, 4] rfl ?_
    exact w_M_fits_78 hE hR h hKB hK86
  · have h := h.2 c0
    refine e_iconst (pc := 73) (v := 1) hE ki_1 dX10_fits_73 ?_
    refine e_goto (pc := 74) hE 78 dX10_fits_74 (by decide) ?_
    refine e_sub hE [1, 2, 0, 4] rfl ?_
    exact w_M_fits_78 hE hR h hKB hK86
set_option maxHeartbeats 4000000 in
set_option maxRecDepth 20000 in
theorem w_M_fits_63 {l : Launch} {G : Gs} {d : Nat} {E : EE} {a1 : Int32} {Q : Int32 → Mm → Prop} (hE : Mach l G RX10 cX10_fits 7 (d + 5) E) (hR : RtI cX10_fits E Q)   {KB : Int32 → Int32 → Int32 → Mm → Prop} {K86 : Int32 → Int32 → Mm → Prop} {v3 : Int32} {v4 : Int32} {v5 : Int32} {v6 : Int32} {M : Mm} (h : k_M_fits_63 a1 Q KB K86 v3 v4 v5 v6 M) (hKB : ∀ (v3 : Int32) (v4 : Int32) (v5 : Int32)  (M : Mm), KB v3 v4 v5 M → E 21 [(0, rv G 312), (1, .int a1), (3, .int v3), (4, .int v4), (5, .int v5)] [] M) (hK86 : ∀ (v3 : Int32) (v4 : Int32)  (M : Mm), K86 v3 v4 M → E 86 [(0, rv G 312), (3, .int v3), (4, .int v4)] [] M) : E 63 [(0, rv G 312), (1, .int a1), (3, .int v3), (4, .int v4), (5, .int v5), (6, .int v6)] [] M := by
  unfold k_M_fits_63 at h
  refine e_iload (pc := 63) hE 3 rfl dX10_fits_63 ?_
  refine e_sub hE [0, 1, 2, 4, 5] rfl ?_
  exact w_M_fits_65 hE hR h hKB hK86
set_option maxHeartbeats 4000000 in
set_option maxRecDepth 20000 in
theorem w_M_fits_47 {l : Launch} {G : Gs} {d : Nat} {E : EE} {a1 : Int32} {Q : Int32 → Mm → Prop} (hE : Mach l G RX10 cX10_fits 7 (d + 5) E) (hR : RtI cX10_fits E Q)   {KB : Int32 → Int32 → Int32 → Mm → Prop} {K86 : Int32 → Int32 → Mm → Prop} {v3 : Int32} {v4 : Int32} {v5 : Int32} {s0 : Int32} {M : Mm} (h : k_M_fits_47 a1 Q KB K86 v3 v4 v5 s0 M) (hKB : ∀ (v3 : Int32) (v4 : Int32) (v5 : Int32)  (M : Mm), KB v3 v4 v5 M → E 21 [(0, rv G 312), (1, .int a1), (3, .int v3), (4, .int v4), (5, .int v5)] [] M) (hK86 : ∀ (v3 : Int32) (v4 : Int32)  (M : Mm), K86 v3 v4 M → E 86 [(0, rv G 312), (3, .int v3), (4, .int v4)] [] M) : E 47 [(0, rv G 312), (1, .int a1), (3, .int v3), (4, .int v4), (5, .int v5)] [.int s0] M := by
  unfold k_M_fits_47 at h
  refine e_istore (pc := 47) (lv' := [(6, .int s0), (0, rv G 312), (1, .int a1), (3, .int v3), (4, .int v4), (5, .int v5)]) hE dX10_fits_47 (by decide) rfl ?_
  refine e_iload (pc := 49) hE 0 rfl dX10_fits_49 ?_
  refine e_if_eq (pc := 51) hE 63 dX10_fits_51 (by decide) (fun c0 => ?_) (fun c0 => ?_)
  · have h := h.1 c0
    refine e_sub hE [1, 2, 3, 4, 5, 0] rfl ?_
    exact w_M_fits_63 hE hR h hKB hK86
  · have h := h.2 c0
    refine e_iload_n (pc := 54) hE rfl 3 rfl dX10_fits_54 ?_
    refine e_if_ne (pc := 55) hE 63 dX10_fits_55 (by decide) (fun c0 => ?_) (fun c0 => ?_)
    · have h := h.1 c0
      refine e_sub hE [1, 2, 3, 4, 5, 0] rfl ?_
      exact w_M_fits_63 hE hR h hKB hK86
    · have h := h.2 c0
      refine e_iload (pc := 58) hE 5 rfl dX10_fits_58 ?_
      refine e_goto (pc := 60) hE 65 dX10_fits_60 (by decide) ?_
      refine e_sub hE [1, 2, 3, 5, 0] rfl ?_
      exact w_M_fits_65 hE hR h hKB hK86
set_option maxHeartbeats 4000000 in
set_option maxRecDepth 20000 in
theorem w_M_fits_21 {l : Launch} {G : Gs} {d : Nat} {E : EE} {a1 : Int32} {Q : Int32 → Mm → Prop} (hE : Mach l G RX10 cX10_fits 7 (d + 5) E) (hR : RtI cX10_fits E Q)   {KB : Int32 → Int32 → Int32 → Mm → Prop} {K86 : Int32 → Int32 → Mm → Prop} {v3 : Int32} {v4 : Int32} {v5 : Int32} {M : Mm} (h : k_M_fits_21 a1 Q KB K86 v3 v4 v5 M) (hKB : ∀ (v3 : Int32) (v4 : Int32) (v5 : Int32)  (M : Mm), KB v3 v4 v5 M → E 21 [(0, rv G 312), (1, .int a1), (3, .int v3), (4, .int v4), (5, .int v5)] [] M) (hK86 : ∀ (v3 : Int32) (v4 : Int32)  (M : Mm), K86 v3 v4 M → E 86 [(0, rv G 312), (3, .int v3), (4, .int v4)] [] M) : E 21 [(0, rv G 312), (1, .int a1), (3, .int v3), (4, .int v4), (5, .int v5)] [] M := by
  unfold k_M_fits_21 at h
  refine e_iload (pc := 21) hE 4 rfl dX10_fits_21 ?_
  refine e_aload_n (pc := 23) hE rfl 0 rfl dX10_fits_23 ?_
  refine c_M_setMany (pc := 24) (d := d + 4 + 0) hE (t_M_setMany (d := d + 4)  h) tw_1370 (Nat.le_of_ble_eq_true rfl) dX10_fits_24 (fun r24 M24 h => ?_)
  refine e_icmp_ge (pc := 27) hE 86 dX10_fits_27 (by decide) (fun c0 => ?_) (fun c0 => ?_)
  · have h := h.1 c0
    refine e_sub hE [0, 2, 3] rfl ?_
    exact hK86 _ _ _ h
  · have h := h.2 c0
    refine e_aload_n (pc := 30) hE rfl 0 rfl dX10_fits_30 ?_
    refine e_iload_n (pc := 31) hE rfl 1 rfl dX10_fits_31 ?_
    refine e_iload (pc := 32) hE 4 rfl dX10_fits_32 ?_
    refine c_M_saltBy (pc := 34) (d := d + 4) hE (t_M_saltBy (d := d)  h) tw_1426 (Nat.le_of_ble_eq_true rfl) dX10_fits_34 (fun r34 M34 h => ?_)
    refine e_bipush (pc := 37) (v := -9) hE kb_m9 dX10_fits_37 ?_
    refine e_icmp_eq (pc := 39) hE 46 dX10_fits_39 (by decide) (fun c0 => ?_) (fun c0 => ?_)
    · have h := h.1 c0
      refine e_iconst (pc := 46) (v := 0) hE ki_0 dX10_fits_46 ?_
      exact w_M_fits_47 hE hR h hKB hK86
    · have h := h.2 c0
      refine e_iconst (pc := 42) (v := 1) hE ki_1 dX10_fits_42 ?_
      refine e_goto (pc := 43) hE 47 dX10_fits_43 (by decide) ?_
      exact w_M_fits_47 hE hR h hKB hK86
set_option maxHeartbeats 4000000 in
set_option maxRecDepth 20000 in
theorem w_lp_M_fits_21 {l : Launch} {G : Gs} {d : Nat} {E : EE} {a1 : Int32} {Q : Int32 → Mm → Prop} (hE : Mach l G RX10 cX10_fits 7 (d + 5) E) (hR : RtI cX10_fits E Q)   {K86 : Int32 → Int32 → Mm → Prop} {n : Nat} {v3 : Int32} {v4 : Int32} {v5 : Int32} {M : Mm} (h : lp_M_fits_21 a1 Q K86 n v3 v4 v5 M) (hK86 : ∀ (v3 : Int32) (v4 : Int32)  (M : Mm), K86 v3 v4 M → E 86 [(0, rv G 312), (3, .int v3), (4, .int v4)] [] M) : E 21 [(0, rv G 312), (1, .int a1), (3, .int v3), (4, .int v4), (5, .int v5)] [] M := by
  have key : ∀ (n : Nat) (v3 : Int32) (v4 : Int32) (v5 : Int32) (M : Mm), lp_M_fits_21 a1 Q K86 n v3 v4 v5 M → E 21 [(0, rv G 312), (1, .int a1), (3, .int v3), (4, .int v4), (5, .int v5)] [] M := by
    intro n
    induction n with
    | zero => intro v3 v4 v5 M h; exact h.elim
    | succ n ih => intro v3 v4 v5 M h; exact w_M_fits_21 hE hR  (show k_M_fits_21 a1 Q (lp_M_fits_21 a1 Q K86 n) K86 v3 v4 v5 M from h) ih hK86
  exact key n _ _ _ _ h
set_option maxHeartbeats 4000000 in
set_option maxRecDepth 20000 in
theorem t_M_fits {l : Launch} {G : Gs} {d : Nat} {a1 : Int32} {M : Mm} {Q : Int32 → Mm → Prop}  (h : wp_M_fits a1 M Q) : CtI l G (d + 5) yX10_fits cX10_fits 7 (some .int) [rv G 312, .int a1] M Q := by
  refine CtI.mk (by decide) rfl (Nat.le_of_ble_eq_true rfl) (fun E hE hR => ?_)
  show E 0 [(0, rv G 312), (1, .int a1)] [] M
  unfold wp_M_fits at h
  refine e_aload_n (pc := 0) hE rfl 0 rfl dX10_fits_0 ?_
  refine e_iload_n (pc := 1) hE rfl 1 rfl dX10_fits_1 ?_
  refine c_M_needArms (pc := 2) (d := d + 2 + 2) hE (t_M_needArms (d := d + 2)  h) tw_1422 (Nat.le_of_ble_eq_true rfl) dX10_fits_2 (fun r2 M2 h => ?_)
  refine e_istore_n (pc := 5) (lv' := [(2, .int r2), (0, rv G 312), (1, .int a1)]) hE dX10_fits_5 rfl (by decide) rfl ?_
  refine e_iload_n (pc := 6) hE rfl 0 rfl dX10_fits_6 ?_
  refine e_if_ge (pc := 7) hE 12 dX10_fits_7 (by decide) (fun c0 => ?_) (fun c0 => ?_)
  · have h := h.1 c0
    refine e_iconst (pc := 12) (v := 0) hE ki_0 dX10_fits_12 ?_
    refine e_istore_n (pc := 13) (lv' := [(3, .int (0 : Int32)), (2, .int r2), (0, rv G 312), (1, .int a1)]) hE dX10_fits_13 rfl (by decide) rfl ?_
    refine e_bipush (pc := 14) (v := -9) hE kb_m9 dX10_fits_14 ?_
    refine e_istore (pc := 16) (lv' := [(4, .int (-9 : Int32)), (3, .int (0 : Int32)), (2, .int r2), (0, rv G 312), (1, .int a1)]) hE dX10_fits_16 (by decide) rfl ?_
    refine e_iconst (pc := 18) (v := 0) hE ki_0 dX10_fits_18 ?_
    refine e_istore (pc := 19) (lv' := [(5, .int (0 : Int32)), (4, .int (-9 : Int32)), (3, .int (0 : Int32)), (2, .int r2), (0, rv G 312), (1, .int a1)]) hE dX10_fits_19 (by decide) rfl ?_
    obtain ⟨n, h⟩ := h
    refine e_sub hE [4, 5, 2, 1, 0] rfl ?_
    refine w_lp_M_fits_21 hE hR  h (fun v3 v4 M h => ?_)
    refine e_aload_n (pc := 86) hE rfl 0 rfl dX10_fits_86 ?_
    refine e_iload (pc := 87) hE 2 rfl dX10_fits_87 ?_
    refine e_iload_n (pc := 89) hE rfl 1 rfl dX10_fits_89 ?_
    refine c_M_tells (pc := 90) (d := d + 4 + 0) hE (t_M_tells (d := d + 4)  h) tw_1176 (Nat.le_of_ble_eq_true rfl) dX10_fits_90 (fun r90 M90 h => ?_)
    exact hR dX10_fits_93 h
  · have h := h.2 c0
    refine e_iload_n (pc := 10) hE rfl 0 rfl dX10_fits_10 ?_
    exact hR dX10_fits_11 h
set_option maxHeartbeats 4000000 in
set_option maxRecDepth 20000 in
theorem w_M_opened_76 {l : Launch} {G : Gs} {d : Nat} {E : EE} {a1 : Int32} {Q : Int32 → Mm → Prop} (hE : Mach l G RX10 cX10_opened 7 (d + 5) E) (hR : RtI cX10_opened E Q)   {KB : Int32 → Int32 → Int32 → Mm → Prop} {K84 : Int32 → Int32 → Mm → Prop} {v4 : Int32} {v5 : Int32} {s0 : Int32} {s1 : Int32} {M : Mm} (h : k_M_opened_76 a1 Q KB K84 v4 v5 s0 s1 M) (hKB : ∀ (v3 : Int32) (v4 : Int32) (v5 : Int32)  (M : Mm), KB v3 v4 v5 M → E 25 [(0, rv G 312), (1, .int a1), (3, .int v3), (4, .int v4), (5, .int v5)] [] M) (hK84 : ∀ (v3 : Int32) (v4 : Int32)  (M : Mm), K84 v3 v4 M → E 84 [(3, .int v3), (4, .int v4)] [] M) : E 76 [(0, rv G 312), (1, .int a1), (4, .int v4), (5, .int v5)] [.int s0, .int s1] M := by
  unfold k_M_opened_76 at h
  refine e_iand (pc := 76) hE dX10_opened_76 ?_
  refine e_topi (fun x77 ex77 => ?_)
  have h := h x77 ex77
  refine e_istore_n (pc := 77) (lv' := [(3, .int x77), (0, rv G 312), (1, .int a1), (4, .int v4), (5, .int v5)]) hE dX10_opened_77 rfl (by decide) rfl ?_
  obtain ⟨x78, ex78⟩ : ∃ y : Int32, y = v5 + (1 : Int32) := ⟨_, rfl⟩
  have h := h x78 ex78
  refine e_iinc (pc := 78) (k := 4) (v := x78) (lv' := [(5, .int x78), (3, .int x77), (0, rv G 312), (1, .int a1), (4, .int v4)]) hE dX10_opened_78 rfl (by rw [ex78, ki_1]) (by decide) rfl ?_
  refine e_goto (pc := 81) hE 25 dX10_opened_81 (by decide) ?_
  refine e_sub hE [2, 3, 1, 4, 0] rfl ?_
  exact hKB _ _ _ _ h
set_option maxHeartbeats 4000000 in
set_option maxRecDepth 20000 in
theorem w_M_opened_60 {l : Launch} {G : Gs} {d : Nat} {E : EE} {a1 : Int32} {Q : Int32 → Mm → Prop} (hE : Mach l G RX10 cX10_opened 7 (d + 5) E) (hR : RtI cX10_opened E Q)   {KB : Int32 → Int32 → Int32 → Mm → Prop} {K84 : Int32 → Int32 → Mm → Prop} {v3 : Int32} {v5 : Int32} {v6 : Int32} {s0 : Int32} {M : Mm} (h : k_M_opened_60 a1 Q KB K84 v3 v5 v6 s0 M) (hKB : ∀ (v3 : Int32) (v4 : Int32) (v5 : Int32)  (M : Mm), KB v3 v4 v5 M → E 25 [(0, rv G 312), (1, .int a1), (3, .int v3), (4, .int v4), (5, .int v5)] [] M) (hK84 : ∀ (v3 : Int32) (v4 : Int32)  (M : Mm), K84 v3 v4 M → E 84 [(3, .int v3), (4, .int v4)] [] M) : E 60 [(0, rv G 312), (1, .int a1), (3, .int v3), (5, .int v5), (6, .int v6)] [.int s0] M := by
  unfold k_M_opened_60 at h
  refine e_istore (pc := 60) (lv' := [(4, .int s0), (0, rv G 312), (1, .int a1), (3, .int v3), (5, .int v5), (6, .int v6)]) hE dX10_opened_60 (by decide) rfl ?_
  refine e_iload_n (pc := 62) hE rfl 3 rfl dX10_opened_62 ?_
  refine e_iload (pc := 63) hE 5 rfl dX10_opened_63 ?_
  refine e_bipush (pc := 65) (v := -9) hE kb_m9 dX10_opened_65 ?_
  refine e_icmp_eq (pc := 67) hE 75 dX10_opened_67 (by decide) (fun c0 => ?_) (fun c0 => ?_)
  · have h := h.1 c0
    refine e_iconst (pc := 75) (v := -1) hE ki_m1 dX10_opened_75 ?_
    refine e_sub hE [1, 2, 0, 4] rfl ?_
    exact w_M_opened_76 hE hR h hKB hK84
  · have h := h.2 c0
    refine e_iload (pc := 70) hE 5 rfl dX10_opened_70 ?_
    refine e_goto (pc := 72) hE 76 dX10_opened_72 (by decide) ?_
    refine e_sub hE [1, 2, 0, 4] rfl ?_
    exact w_M_opened_76 hE hR h hKB hK84
set_option maxHeartbeats 4000000 in
set_option maxRecDepth 20000 in
theorem w_M_opened_55 {l : Launch} {G : Gs} {d : Nat} {E : EE} {a1 : Int32} {Q : Int32 → Mm → Prop} (hE : Mach l G RX10 cX10_opened 7 (d + 5) E) (hR : RtI cX10_opened E Q)   {KB : Int32 → Int32 → Int32 → Mm → Prop} {K84 : Int32 → Int32 → Mm → Prop} {v3 : Int32} {v5 : Int32} {v6 : Int32} {M : Mm} (h : k_M_opened_55 a1 Q KB K84 v3 v5 v6 M) (hKB : ∀ (v3 : Int32) (v4 : Int32) (v5 : Int32)  (M : Mm), KB v3 v4 v5 M → E 25 [(0, rv G 312), (1, .int a1), (3, .int v3), (4, .int v4), (5, .int v5)] [] M) (hK84 : ∀ (v3 : Int32) (v4 : Int32)  (M : Mm), K84 v3 v4 M → E 84 [(3, .int v3), (4, .int v4)] [] M) : E 55 [(0, rv G 312), (1, .int a1), (3, .int v3), (5, .int v5), (6, .int v6)] [] M := by
  unfold k_M_opened_55 at h
  refine e_iconst (pc := 55) (v := 1) hE ki_1 dX10_opened_55 ?_
  refine e_goto (pc := 56) hE 60 dX10_opened_56 (by decide) ?_
  exact w_M_opened_60 hE hR h hKB hK84
set_option maxHeartbeats 4000000 in
set_option maxRecDepth 20000 in
theorem w_M_opened_25 {l : Launch} {G : Gs} {d : Nat} {E : EE} {a1 : Int32} {Q : Int32 → Mm → Prop} (hE : Mach l G RX10 cX10_opened 7 (d + 5) E) (hR : RtI cX10_opened E Q)   {KB : Int32 → Int32 → Int32 → Mm → Prop} {K84 : Int32 → Int32 → Mm → Prop} {v3 : Int32} {v4 : Int32} {v5 : Int32} {M : Mm} (h : k_M_opened_25 a1 Q KB K84 v3 v4 v5 M) (hKB : ∀ (v3 : Int32) (v4 : Int32) (v5 : Int32)  (M : Mm), KB v3 v4 v5 M → E 25 [(0, rv G 312), (1, .int a1), (3, .int v3), (4, .int v4), (5, .int v5)] [] M) (hK84 : ∀ (v3 : Int32) (v4 : Int32)  (M : Mm), K84 v3 v4 M → E 84 [(3, .int v3), (4, .int v4)] [] M) : E 25 [(0, rv G 312), (1, .int a1), (3, .int v3), (4, .int v4), (5, .int v5)] [] M := by
  unfold k_M_opened_25 at h
  refine e_iload (pc := 25) hE 4 rfl dX10_opened_25 ?_
  refine e_aload_n (pc := 27) hE rfl 0 rfl dX10_opened_27 ?_
  refine c_M_setMany (pc := 28) (d := d + 4 + 0) hE (t_M_setMany (d := d + 4)  h) tw_1370 (Nat.le_of_ble_eq_true rfl) dX10_opened_28 (fun r28 M28 h => ?_)
  refine e_icmp_ge (pc := 31) hE 84 dX10_opened_31 (by decide) (fun c0 => ?_) (fun c0 => ?_)
  · have h := h.1 c0
    refine e_sub hE [2, 3] rfl ?_
    exact hK84 _ _ _ h
  · have h := h.2 c0
    refine e_aload_n (pc := 34) hE rfl 0 rfl dX10_opened_34 ?_
    refine e_iload_n (pc := 35) hE rfl 1 rfl dX10_opened_35 ?_
    refine e_iload (pc := 36) hE 4 rfl dX10_opened_36 ?_
    refine c_M_saltBy (pc := 38) (d := d + 4) hE (t_M_saltBy (d := d)  h) tw_1426 (Nat.le_of_ble_eq_true rfl) dX10_opened_38 (fun r38 M38 h => ?_)
    refine e_istore (pc := 41) (lv' := [(6, .int r38), (0, rv G 312), (1, .int a1), (3, .int v3), (4, .int v4), (5, .int v5)]) hE dX10_opened_41 (by decide) rfl ?_
    refine e_iload (pc := 43) hE 4 rfl dX10_opened_43 ?_
    refine e_if_ne (pc := 45) hE 55 dX10_opened_45 (by decide) (fun c0 => ?_) (fun c0 => ?_)
    · have h := h.1 c0
      refine e_sub hE [1, 2, 3, 5, 0] rfl ?_
      exact w_M_opened_55 hE hR h hKB hK84
    · have h := h.2 c0
      refine e_iload (pc := 48) hE 0 rfl dX10_opened_48 ?_
      refine e_bipush (pc := 50) (v := -9) hE kb_m9 dX10_opened_50 ?_
      refine e_icmp_eq (pc := 52) hE 59 dX10_opened_52 (by decide) (fun c0 => ?_) (fun c0 => ?_)
      · have h := h.1 c0
        refine e_iconst (pc := 59) (v := 0) hE ki_0 dX10_opened_59 ?_
        refine e_sub hE [1, 2, 3, 5, 0] rfl ?_
        exact w_M_opened_60 hE hR h hKB hK84
      · have h := h.2 c0
        refine e_sub hE [1, 2, 3, 5, 0] rfl ?_
        exact w_M_opened_55 hE hR h hKB hK84
set_option maxHeartbeats 4000000 in
set_option maxRecDepth 20000 in
theorem w_lp_M_opened_25 {l : Launch} {G : Gs} {d : Nat} {E : EE} {a1 : Int32} {Q : Int32 → Mm → Prop} (hE : Mach l G RX10 cX10_opened 7 (d + 5) E) (hR : RtI cX10_opened E Q)   {K84 : Int32 → Int32 → Mm → Prop} {n : Nat} {v3 : Int32} {v4 : Int32} {v5 : Int32} {M : Mm} (h : lp_M_opened_25 a1 Q K84 n v3 v4 v5 M) (hK84 : ∀ (v3 : Int32) (v4 : Int32)  (M : Mm), K84 v3 v4 M → E 84 [(3, .int v3), (4, .int v4)] [] M) : E 25 [(0, rv G 312), (1, .int a1), (3, .int v3), (4, .int v4), (5, .int v5)] [] M := by
  have key : ∀ (n : Nat) (v3 : Int32) (v4 : Int32) (v5 : Int32) (M : Mm), lp_M_opened_25 a1 Q K84 n v3 v4 v5 M → E 25 [(0, rv G 312), (1, .int a1), (3, .int v3), (4, .int v4), (5, .int v5)] [] M := by
    intro n
    induction n with
    | zero => intro v3 v4 v5 M h; exact h.elim
    | succ n ih => intro v3 v4 v5 M h; exact w_M_opened_25 hE hR  (show k_M_opened_25 a1 Q (lp_M_opened_25 a1 Q K84 n) K84 v3 v4 v5 M from h) ih hK84
  exact key n _ _ _ _ h
set_option maxHeartbeats 4000000 in
set_option maxRecDepth 20000 in
theorem t_M_opened {l : Launch} {G : Gs} {d : Nat} {a1 : Int32} {M : Mm} {Q : Int32 → Mm → Prop}  (h : wp_M_opened a1 M Q) : CtI l G (d + 5) yX10_opened cX10_opened 7 (some .int) [rv G 312, .int a1] M Q := by
  refine CtI.mk (by decide) rfl (Nat.le_of_ble_eq_true rfl) (fun E hE hR => ?_)
  show E 0 [(0, rv G 312), (1, .int a1)] [] M
  unfold wp_M_opened at h
  refine e_aload_n (pc := 0) hE rfl 0 rfl dX10_opened_0 ?_
  refine e_iload_n (pc := 1) hE rfl 1 rfl dX10_opened_1 ?_
  refine c_M_needArms (pc := 2) (d := d + 2 + 2) hE (t_M_needArms (d := d + 2)  h) tw_1422 (Nat.le_of_ble_eq_true rfl) dX10_opened_2 (fun r2 M2 h => ?_)
  refine e_istore_n (pc := 5) (lv' := [(2, .int r2), (0, rv G 312), (1, .int a1)]) hE dX10_opened_5 rfl (by decide) rfl ?_
  refine e_iload_n (pc := 6) hE rfl 0 rfl dX10_opened_6 ?_
  refine e_if_ge (pc := 7) hE 12 dX10_opened_7 (by decide) (fun c0 => ?_) (fun c0 => ?_)
  · have h := h.1 c0
    refine e_aload_n (pc := 12) hE rfl 1 rfl dX10_opened_12 ?_
    refine c_M_setMany (pc := 13) (d := d + 4 + 0) hE (t_M_setMany (d := d + 4)  h) tw_1370 (Nat.le_of_ble_eq_true rfl) dX10_opened_13 (fun r13 M13 h => ?_)
    refine e_iconst (pc := 16) (v := 1) hE ki_1 dX10_opened_16 ?_
    refine e_isub (pc := 17) hE dX10_opened_17 ?_
    refine e_topi (fun x18 ex18 => ?_)
    have h := h x18 ex18
    refine e_istore_n (pc := 18) (lv' := [(3, .int x18), (2, .int r2), (0, rv G 312), (1, .int a1)]) hE dX10_opened_18 rfl (by decide) rfl ?_
    refine e_iconst (pc := 19) (v := 0) hE ki_0 dX10_opened_19 ?_
    refine e_istore (pc := 20) (lv' := [(4, .int (0 : Int32)), (3, .int x18), (2, .int r2), (0, rv G 312), (1, .int a1)]) hE dX10_opened_20 (by decide) rfl ?_
    refine e_iconst (pc := 22) (v := 0) hE ki_0 dX10_opened_22 ?_
    refine e_istore (pc := 23) (lv' := [(5, .int (0 : Int32)), (4, .int (0 : Int32)), (3, .int x18), (2, .int r2), (0, rv G 312), (1, .int a1)]) hE dX10_opened_23 (by decide) rfl ?_
    obtain ⟨n, h⟩ := h
    refine e_sub hE [4, 5, 2, 1, 0] rfl ?_
    refine w_lp_M_opened_25 hE hR  h (fun v3 v4 M h => ?_)
    refine e_iload (pc := 84) hE 1 rfl dX10_opened_84 ?_
    refine e_if_eq (pc := 86) hE 93 dX10_opened_86 (by decide) (fun c0 => ?_) (fun c0 => ?_)
    · have h := h.1 c0
      refine e_iconst (pc := 93) (v := 0) hE ki_0 dX10_opened_93 ?_
      exact hR dX10_opened_94 h
    · have h := h.2 c0
      refine e_iload_n (pc := 89) hE rfl 0 rfl dX10_opened_89 ?_
      refine e_goto (pc := 90) hE 94 dX10_opened_90 (by decide) ?_
      exact hR dX10_opened_94 h
  · have h := h.2 c0
    refine e_iload_n (pc := 10) hE rfl 0 rfl dX10_opened_10 ?_
    exact hR dX10_opened_11 h
set_option maxHeartbeats 4000000 in
set_option maxRecDepth 20000 in
theorem w_M_owedBy_36 {l : Launch} {G : Gs} {d : Nat} {E : EE} {a1 : Int32} {a2 : Int32} {Q : Int64 → Mm → Prop} (hE : Mach l G RX10 cX10_owedBy 6 (d + 1) E) (hR : RtL cX10_owedBy E Q)   {KB : Int64 → Int32 → Mm → Prop} {v5 : Int32} {s0 : Int64} {s1 : Int64} {M : Mm} (h : k_M_owedBy_36 a1 a2 Q KB v5 s0 s1 M) (hKB : ∀ (v3 : Int64) (v5 : Int32)  (M : Mm), KB v3 v5 M → E 5 [(0, rv G 312), (1, .int a1), (2, .int a2), (3, .long v3), (5, .int v5)] [] M) : E 36 [(0, rv G 312), (1, .int a1), (2, .int a2), (5, .int v5)] [.long s0, .long s1] M := by
  unfold k_M_owedBy_36 at h
  refine e_ladd (pc := 36) hE dX10_owedBy_36 ?_
  refine e_topl (fun x37 ex37 => ?_)
  have h := h x37 ex37
  refine e_lstore_n (pc := 37) (lv' := [(3, .long x37), (0, rv G 312), (1, .int a1), (2, .int a2), (5, .int v5)]) hE dX10_owedBy_37 rfl (by decide) rfl ?_
  obtain ⟨x38, ex38⟩ : ∃ y : Int32, y = v5 + (1 : Int32) := ⟨_, rfl⟩
  have h := h x38 ex38
  refine e_iinc (pc := 38) (k := 4) (v := x38) (lv' := [(5, .int x38), (3, .long x37), (0, rv G 312), (1, .int a1), (2, .int a2)]) hE dX10_owedBy_38 rfl (by rw [ex38, ki_1]) (by decide) rfl ?_
  refine e_goto (pc := 41) hE 5 dX10_owedBy_41 (by decide) ?_
  refine e_sub hE [2, 3, 4, 1, 0] rfl ?_
  exact hKB _ _ _ h
set_option maxHeartbeats 4000000 in
set_option maxRecDepth 20000 in
theorem w_M_owedBy_5 {l : Launch} {G : Gs} {d : Nat} {E : EE} {a1 : Int32} {a2 : Int32} {Q : Int64 → Mm → Prop} (hE : Mach l G RX10 cX10_owedBy 6 (d + 1) E) (hR : RtL cX10_owedBy E Q)   {KB : Int64 → Int32 → Mm → Prop} {v3 : Int64} {v5 : Int32} {M : Mm} (h : k_M_owedBy_5 a1 a2 Q KB v3 v5 M) (hKB : ∀ (v3 : Int64) (v5 : Int32)  (M : Mm), KB v3 v5 M → E 5 [(0, rv G 312), (1, .int a1), (2, .int a2), (3, .long v3), (5, .int v5)] [] M) : E 5 [(0, rv G 312), (1, .int a1), (2, .int a2), (3, .long v3), (5, .int v5)] [] M := by
  unfold k_M_owedBy_5 at h
  refine e_iload (pc := 5) hE 4 rfl dX10_owedBy_5 ?_
  refine e_aload_n (pc := 7) hE rfl 0 rfl dX10_owedBy_7 ?_
  refine g_Md_n (pc := 8) hE tw_1009 dX10_owedBy_8 ?_
  refine e_icmp_ge (pc := 11) hE 44 dX10_owedBy_11 (by decide) (fun c0 => ?_) (fun c0 => ?_)
  · have h := h.1 c0
    refine e_lload_n (pc := 44) hE rfl 3 rfl dX10_owedBy_44 ?_
    exact hR dX10_owedBy_45 h
  · have h := h.2 c0
    refine e_lload_n (pc := 14) hE rfl 3 rfl dX10_owedBy_14 ?_
    refine e_iload_n (pc := 15) hE rfl 2 rfl dX10_owedBy_15 ?_
    refine e_iload (pc := 16) hE 4 rfl dX10_owedBy_16 ?_
    refine c_M_has (pc := 18) (d := d + 0) hE (t_M_has (d := d)  h) tw_1235 (Nat.le_of_ble_eq_true rfl) dX10_owedBy_18 (fun r18 M18 h => ?_)
    refine e_if_eq (pc := 21) hE 35 dX10_owedBy_21 (by decide) (fun c0 => ?_) (fun c0 => ?_)
    · have h := h.1 c0
      refine e_lconst (pc := 35) (v := 0) hE kl_0 dX10_owedBy_35 ?_
      refine e_sub hE [0, 1, 2, 4] rfl ?_
      exact w_M_owedBy_36 hE hR h hKB
    · have h := h.2 c0
      refine e_aload_n (pc := 24) hE rfl 0 rfl dX10_owedBy_24 ?_
      refine e_iload_n (pc := 25) hE rfl 1 rfl dX10_owedBy_25 ?_
      refine e_iload (pc := 26) hE 4 rfl dX10_owedBy_26 ?_
      refine c_M_rowAt (pc := 28) (d := d + 0) hE (t_M_rowAt (d := d)  h) tw_1172 (Nat.le_of_ble_eq_true rfl) dX10_owedBy_28 (fun r28 M28 h => ?_)
      refine e_i2l (pc := 31) hE dX10_owedBy_31 ?_
      refine e_goto (pc := 32) hE 36 dX10_owedBy_32 (by decide) ?_
      refine e_sub hE [0, 1, 2, 4] rfl ?_
      exact w_M_owedBy_36 hE hR h hKB
set_option maxHeartbeats 4000000 in
set_option maxRecDepth 20000 in
theorem w_lp_M_owedBy_5 {l : Launch} {G : Gs} {d : Nat} {E : EE} {a1 : Int32} {a2 : Int32} {Q : Int64 → Mm → Prop} (hE : Mach l G RX10 cX10_owedBy 6 (d + 1) E) (hR : RtL cX10_owedBy E Q)    {n : Nat} {v3 : Int64} {v5 : Int32} {M : Mm} (h : lp_M_owedBy_5 a1 a2 Q n v3 v5 M)  : E 5 [(0, rv G 312), (1, .int a1), (2, .int a2), (3, .long v3), (5, .int v5)] [] M := by
  have key : ∀ (n : Nat) (v3 : Int64) (v5 : Int32) (M : Mm), lp_M_owedBy_5 a1 a2 Q n v3 v5 M → E 5 [(0, rv G 312), (1, .int a1), (2, .int a2), (3, .long v3), (5, .int v5)] [] M := by
    intro n
    induction n with
    | zero => intro v3 v5 M h; exact h.elim
    | succ n ih => intro v3 v5 M h; exact w_M_owedBy_5 hE hR  (show k_M_owedBy_5 a1 a2 Q (lp_M_owedBy_5 a1 a2 Q n)  v3 v5 M from h) ih 
  exact key n _ _ _ h
set_option maxHeartbeats 4000000 in
set_option maxRecDepth 20000 in
theorem t_M_owedBy {l : Launch} {G : Gs} {d : Nat} {a1 : Int32} {a2 : Int32} {M : Mm} {Q : Int64 → Mm → Prop}  (h : wp_M_owedBy a1 a2 M Q) : CtL l G (d + 1) yX10_owedBy cX10_owedBy 6 (some .long) [rv G 312, .int a1, .int a2] M Q := by
  refine CtL.mk (by decide) rfl (Nat.le_of_ble_eq_true rfl) (fun E hE hR => ?_)
  show E 0 [(0, rv G 312), (1, .int a1), (2, .int a2)] [] M
  unfold wp_M_owedBy at h
  refine e_lconst (pc := 0) (v := 0) hE kl_0 dX10_owedBy_0 ?_
  refine e_lstore_n (pc := 1) (lv' := [(3, .long (0 : Int64)), (0, rv G 312), (1, .int a1), (2, .int a2)]) hE dX10_owedBy_1 rfl (by decide) rfl ?_
  refine e_iconst (pc := 2) (v := 0) hE ki_0 dX10_owedBy_2 ?_
  refine e_istore (pc := 3) (lv' := [(5, .int (0 : Int32)), (3, .long (0 : Int64)), (0, rv G 312), (1, .int a1), (2, .int a2)]) hE dX10_owedBy_3 (by decide) rfl ?_
  obtain ⟨n, h⟩ := h
  refine e_sub hE [2, 3, 4, 1, 0] rfl ?_
  refine w_lp_M_owedBy_5 hE hR  h 
set_option maxHeartbeats 4000000 in
set_option maxRecDepth 20000 in
theorem w_M_parts_40 {l : Launch} {G : Gs} {d : Nat} {E : EE} {RC : Int32 → Int32 → Mm → (Int32 → Mm → Prop) → Prop} {a1 : Int32} {a2 : Int32} {Q : Int32 → Mm → Prop} (hE : Mach l G RX10 cX10_parts 5 (d + 2) E) (hR : RtI cX10_parts E Q) (hRC : ∀ {a1 : Int32} {a2 : Int32} {M : Mm} {Q : Int32 → Mm → Prop}, RC a1 a2 M Q → CtI l G (d + 1) yX10_parts cX10_parts 5 (some .int) [rv G 312, .int a1, .int a2] M Q)   {KB : Int32 → Int32 → Mm → Prop} {v3 : Int32} {v4 : Int32} {M : Mm} (h : k_M_parts_40 RC a1 a2 Q KB v3 v4 M) (hKB : ∀ (v3 : Int32) (v4 : Int32)  (M : Mm), KB v3 v4 M → E 5 [(0, rv G 312), (1, .int a1), (2, .int a2), (3, .int v3), (4, .int v4)] [] M) : E 40 [(0, rv G 312), (1, .int a1), (2, .int a2), (3, .int v3), (4, .int v4)] [] M := by
  unfold k_M_parts_40 at h
  refine e_iload (pc := 40) hE 4 rfl dX10_parts_40 ?_
  refine e_iconst (pc := 42) (v := 1) hE ki_1 dX10_parts_42 ?_
  refine e_isub (pc := 43) hE dX10_parts_43 ?_
  refine e_iload_n (pc := 44) hE rfl 2 rfl dX10_parts_44 ?_
  refine e_iand (pc := 45) hE dX10_parts_45 ?_
  refine e_topi (fun x46 ex46 => ?_)
  have h := h x46 ex46
  refine e_istore (pc := 46) (lv' := [(4, .int x46), (0, rv G 312), (1, .int a1), (2, .int a2), (3, .int v3)]) hE dX10_parts_46 (by decide) rfl ?_
  refine e_goto (pc := 48) hE 5 dX10_parts_48 (by decide) ?_
  refine e_sub hE [1, 2, 3, 4, 0] rfl ?_
  exact hKB _ _ _ h
set_option maxHeartbeats 4000000 in
set_option maxRecDepth 20000 in
theorem w_M_parts_5 {l : Launch} {G : Gs} {d : Nat} {E : EE} {RC : Int32 → Int32 → Mm → (Int32 → Mm → Prop) → Prop} {a1 : Int32} {a2 : Int32} {Q : Int32 → Mm → Prop} (hE : Mach l G RX10 cX10_parts 5 (d + 2) E) (hR : RtI cX10_parts E Q) (hRC : ∀ {a1 : Int32} {a2 : Int32} {M : Mm} {Q : Int32 → Mm → Prop}, RC a1 a2 M Q → CtI l G (d + 1) yX10_parts cX10_parts 5 (some .int) [rv G 312, .int a1, .int a2] M Q)   {KB : Int32 → Int32 → Mm → Prop} {v3 : Int32} {v4 : Int32} {M : Mm} (h : k_M_parts_5 RC a1 a2 Q KB v3 v4 M) (hKB : ∀ (v3 : Int32) (v4 : Int32)  (M : Mm), KB v3 v4 M → E 5 [(0, rv G 312), (1, .int a1), (2, .int a2), (3, .int v3), (4, .int v4)] [] M) : E 5 [(0, rv G 312), (1, .int a1), (2, .int a2), (3, .int v3), (4, .int v4)] [] M := by
  unfold k_M_parts_5 at h
  refine e_iload (pc := 5) hE 4 rfl dX10_parts_5 ?_
  refine e_if_le (pc := 7) hE 51 dX10_parts_7 (by decide) (fun c0 => ?_) (fun c0 => ?_)
  · have h := h.1 c0
    refine e_iload_n (pc := 51) hE rfl 3 rfl dX10_parts_51 ?_
    exact hR dX10_parts_52 h
  · have h := h.2 c0
    refine e_aload_n (pc := 10) hE rfl 0 rfl dX10_parts_10 ?_
    refine e_iload_n (pc := 11) hE rfl 1 rfl dX10_parts_11 ?_
    refine e_iload (pc := 12) hE 4 rfl dX10_parts_12 ?_
    refine c_M_owedBy (pc := 14) (d := d + 1) hE (t_M_owedBy (d := d)  h) tw_1438 (Nat.le_of_ble_eq_true rfl) dX10_parts_14 (fun r14 M14 h => ?_)
    refine e_lconst (pc := 17) (v := 0) hE kl_0 dX10_parts_17 ?_
    refine e_lcmp (pc := 18) hE dX10_parts_18 ?_
    refine e_if_ne (pc := 19) hE 40 dX10_parts_19 (by decide) (fun c0 => ?_) (fun c0 => ?_)
    · have h := h.1 c0
      exact w_M_parts_40 hE hR hRC h hKB
    · have h := h.2 c0
      refine e_iload_n (pc := 22) hE rfl 3 rfl dX10_parts_22 ?_
      refine e_iconst (pc := 23) (v := 1) hE ki_1 dX10_parts_23 ?_
      refine e_aload_n (pc := 24) hE rfl 0 rfl dX10_parts_24 ?_
      refine e_iload_n (pc := 25) hE rfl 1 rfl dX10_parts_25 ?_
      refine e_iload_n (pc := 26) hE rfl 2 rfl dX10_parts_26 ?_
      refine e_iload (pc := 27) hE 4 rfl dX10_parts_27 ?_
      refine e_iconst (pc := 29) (v := -1) hE ki_m1 dX10_parts_29 ?_
      refine e_ixor (pc := 30) hE dX10_parts_30 ?_
      refine e_iand (pc := 31) hE dX10_parts_31 ?_
      refine c_M_parts (pc := 32) (d := d + 1) hE (hRC h) tw_1442 (Nat.le_of_ble_eq_true rfl) dX10_parts_32 (fun r32 M32 h => ?_)
      refine e_iadd (pc := 35) hE dX10_parts_35 ?_
      refine c_M_greater (pc := 36) (d := d + 1 + 0) hE (t_M_greater (d := d + 1)  h) tw_1285 (Nat.le_of_ble_eq_true rfl) dX10_parts_36 (fun r36 M36 h => ?_)
      refine e_istore_n (pc := 39) (lv' := [(3, .int r36), (0, rv G 312), (1, .int a1), (2, .int a2), (4, .int v4)]) hE dX10_parts_39 rfl (by decide) rfl ?_
      refine e_sub hE [1, 2, 3, 0, 4] rfl ?_
      exact w_M_parts_40 hE hR hRC h hKB
set_option maxHeartbeats 4000000 in
set_option maxRecDepth 20000 in
theorem w_lp_M_parts_5 {l : Launch} {G : Gs} {d : Nat} {E : EE} {RC : Int32 → Int32 → Mm → (Int32 → Mm → Prop) → Prop} {a1 : Int32} {a2 : Int32} {Q : Int32 → Mm → Prop} (hE : Mach l G RX10 cX10_parts 5 (d + 2) E) (hR : RtI cX10_parts E Q) (hRC : ∀ {a1 : Int32} {a2 : Int32} {M : Mm} {Q : Int32 → Mm → Prop}, RC a1 a2 M Q → CtI l G (d + 1) yX10_parts cX10_parts 5 (some .int) [rv G 312, .int a1, .int a2] M Q)    {n : Nat} {v3 : Int32} {v4 : Int32} {M : Mm} (h : lp_M_parts_5 RC a1 a2 Q n v3 v4 M)  : E 5 [(0, rv G 312), (1, .int a1), (2, .int a2), (3, .int v3), (4, .int v4)] [] M := by
  have key : ∀ (n : Nat) (v3 : Int32) (v4 : Int32) (M : Mm), lp_M_parts_5 RC a1 a2 Q n v3 v4 M → E 5 [(0, rv G 312), (1, .int a1), (2, .int a2), (3, .int v3), (4, .int v4)] [] M := by
    intro n
    induction n with
    | zero => intro v3 v4 M h; exact h.elim
    | succ n ih => intro v3 v4 M h; exact w_M_parts_5 hE hR hRC (show k_M_parts_5 RC a1 a2 Q (lp_M_parts_5 RC a1 a2 Q n)  v3 v4 M from h) ih 
  exact key n _ _ _ h
set_option maxHeartbeats 4000000 in
set_option maxRecDepth 20000 in
theorem tB_M_parts {l : Launch} {G : Gs} {d : Nat} {RC : Int32 → Int32 → Mm → (Int32 → Mm → Prop) → Prop} {a1 : Int32} {a2 : Int32} {M : Mm} {Q : Int32 → Mm → Prop} (hRC : ∀ {a1 : Int32} {a2 : Int32} {M : Mm} {Q : Int32 → Mm → Prop}, RC a1 a2 M Q → CtI l G (d + 1) yX10_parts cX10_parts 5 (some .int) [rv G 312, .int a1, .int a2] M Q) (h : wpB_M_parts RC a1 a2 M Q) : CtI l G (d + 2) yX10_parts cX10_parts 5 (some .int) [rv G 312, .int a1, .int a2] M Q := by
  refine CtI.mk (by decide) rfl (Nat.le_of_ble_eq_true rfl) (fun E hE hR => ?_)
  show E 0 [(0, rv G 312), (1, .int a1), (2, .int a2)] [] M
  unfold wpB_M_parts at h
  refine e_iconst (pc := 0) (v := 0) hE ki_0 dX10_parts_0 ?_
  refine e_istore_n (pc := 1) (lv' := [(3, .int (0 : Int32)), (0, rv G 312), (1, .int a1), (2, .int a2)]) hE dX10_parts_1 rfl (by decide) rfl ?_
  refine e_iload_n (pc := 2) hE rfl 3 rfl dX10_parts_2 ?_
  refine e_istore (pc := 3) (lv' := [(4, .int a2), (3, .int (0 : Int32)), (0, rv G 312), (1, .int a1), (2, .int a2)]) hE dX10_parts_3 (by decide) rfl ?_
  obtain ⟨n, h⟩ := h
  refine e_sub hE [2, 3, 4, 1, 0] rfl ?_
  refine w_lp_M_parts_5 hE hR hRC h 
theorem t_M_parts {l : Launch} {G : Gs} : ∀ {n d : Nat} {a1 : Int32} {a2 : Int32} {M : Mm} {Q : Int32 → Mm → Prop}, wp_M_parts n a1 a2 M Q → CtI l G (d + 2 + n) yX10_parts cX10_parts 5 (some .int) [rv G 312, .int a1, .int a2] M Q := by
  intro n
  induction n with
  | zero => intro d a1 a2 M Q h; exact h.elim
  | succ n ih => intro d a1 a2 M Q h; exact cast (by rw [show d + n + 1 + 2 = d + 2 + (n + 1) by omega]) (tB_M_parts (d := d + n + 1) (RC := wp_M_parts n) (fun {a1 a2 M Q} h => cast (by rw [show d + 2 + n = d + n + 1 + 1 by omega]) (ih (d := d) h)) h)
set_option maxHeartbeats 4000000 in
set_option maxRecDepth 20000 in
theorem w_M_settle_67 {l : Launch} {G : Gs} {d : Nat} {E : EE} {a1 : Int32} {Q : Int32 → Mm → Prop} (hE : Mach l G RX10 cX10_settle 5 (d + 11) E) (hR : RtI cX10_settle E Q)   {KB : Int32 → Int32 → Mm → Prop} {K75 : Int32 → Mm → Prop} {v4 : Int32} {s0 : Int32} {s1 : Int32} {M : Mm} (h : k_M_settle_67 a1 Q KB K75 v4 s0 s1 M) (hKB : ∀ (v3 : Int32) (v4 : Int32)  (M : Mm), KB v3 v4 M → E 39 [(0, rv G 312), (1, .int a1), (3, .int v3), (4, .int v4)] [] M) (hK75 : ∀ (v3 : Int32)  (M : Mm), K75 v3 M → E 75 [(0, rv G 312), (1, .int a1), (3, .int v3)] [] M) : E 67 [(0, rv G 312), (1, .int a1), (4, .int v4)] [.int s0, .int s1] M := by
  unfold k_M_settle_67 at h
  refine e_ior (pc := 67) hE dX10_settle_67 ?_
  refine e_topi (fun x68 ex68 => ?_)
  have h := h x68 ex68
  refine e_istore_n (pc := 68) (lv' := [(3, .int x68), (0, rv G 312), (1, .int a1), (4, .int v4)]) hE dX10_settle_68 rfl (by decide) rfl ?_
  obtain ⟨x69, ex69⟩ : ∃ y : Int32, y = v4 + (1 : Int32) := ⟨_, rfl⟩
  have h := h x69 ex69
  refine e_iinc (pc := 69) (k := 3) (v := x69) (lv' := [(4, .int x69), (3, .int x68), (0, rv G 312), (1, .int a1)]) hE dX10_settle_69 rfl (by rw [ex69, ki_1]) (by decide) rfl ?_
  refine e_goto (pc := 72) hE 39 dX10_settle_72 (by decide) ?_
  refine e_sub hE [2, 3, 1, 0] rfl ?_
  exact hKB _ _ _ h
set_option maxHeartbeats 4000000 in
set_option maxRecDepth 20000 in
theorem w_M_settle_39 {l : Launch} {G : Gs} {d : Nat} {E : EE} {a1 : Int32} {Q : Int32 → Mm → Prop} (hE : Mach l G RX10 cX10_settle 5 (d + 11) E) (hR : RtI cX10_settle E Q)   {KB : Int32 → Int32 → Mm → Prop} {K75 : Int32 → Mm → Prop} {v3 : Int32} {v4 : Int32} {M : Mm} (h : k_M_settle_39 a1 Q KB K75 v3 v4 M) (hKB : ∀ (v3 : Int32) (v4 : Int32)  (M : Mm), KB v3 v4 M → E 39 [(0, rv G 312), (1, .int a1), (3, .int v3), (4, .int v4)] [] M) (hK75 : ∀ (v3 : Int32)  (M : Mm), K75 v3 M → E 75 [(0, rv G 312), (1, .int a1), (3, .int v3)] [] M) : E 39 [(0, rv G 312), (1, .int a1), (3, .int v3), (4, .int v4)] [] M := by
  unfold k_M_settle_39 at h
  refine e_iload (pc := 39) hE 3 rfl dX10_settle_39 ?_
  refine e_aload_n (pc := 41) hE rfl 0 rfl dX10_settle_41 ?_
  refine g_Md_n (pc := 42) hE tw_1009 dX10_settle_42 ?_
  refine e_icmp_ge (pc := 45) hE 75 dX10_settle_45 (by decide) (fun c0 => ?_) (fun c0 => ?_)
  · have h := h.1 c0
    refine e_sub hE [0, 1, 2] rfl ?_
    exact hK75 _ _ h
  · have h := h.2 c0
    refine e_iload_n (pc := 48) hE rfl 2 rfl dX10_settle_48 ?_
    refine e_aload_n (pc := 49) hE rfl 0 rfl dX10_settle_49 ?_
    refine e_iload_n (pc := 50) hE rfl 1 rfl dX10_settle_50 ?_
    refine e_iload (pc := 51) hE 3 rfl dX10_settle_51 ?_
    refine c_M_rowAt (pc := 53) (d := d + 10 + 0) hE (t_M_rowAt (d := d + 10)  h) tw_1172 (Nat.le_of_ble_eq_true rfl) dX10_settle_53 (fun r53 M53 h => ?_)
    refine e_if_eq (pc := 56) hE 66 dX10_settle_56 (by decide) (fun c0 => ?_) (fun c0 => ?_)
    · have h := h.1 c0
      refine e_iconst (pc := 66) (v := 0) hE ki_0 dX10_settle_66 ?_
      refine e_sub hE [0, 1, 3] rfl ?_
      exact w_M_settle_67 hE hR h hKB hK75
    · have h := h.2 c0
      refine e_iconst (pc := 59) (v := 1) hE ki_1 dX10_settle_59 ?_
      refine e_iload (pc := 60) hE 3 rfl dX10_settle_60 ?_
      refine e_ishl (pc := 62) hE dX10_settle_62 ?_
      refine e_goto (pc := 63) hE 67 dX10_settle_63 (by decide) ?_
      refine e_sub hE [0, 1, 3] rfl ?_
      exact w_M_settle_67 hE hR h hKB hK75
set_option maxHeartbeats 4000000 in
set_option maxRecDepth 20000 in
theorem w_lp_M_settle_39 {l : Launch} {G : Gs} {d : Nat} {E : EE} {a1 : Int32} {Q : Int32 → Mm → Prop} (hE : Mach l G RX10 cX10_settle 5 (d + 11) E) (hR : RtI cX10_settle E Q)   {K75 : Int32 → Mm → Prop} {n : Nat} {v3 : Int32} {v4 : Int32} {M : Mm} (h : lp_M_settle_39 a1 Q K75 n v3 v4 M) (hK75 : ∀ (v3 : Int32)  (M : Mm), K75 v3 M → E 75 [(0, rv G 312), (1, .int a1), (3, .int v3)] [] M) : E 39 [(0, rv G 312), (1, .int a1), (3, .int v3), (4, .int v4)] [] M := by
  have key : ∀ (n : Nat) (v3 : Int32) (v4 : Int32) (M : Mm), lp_M_settle_39 a1 Q K75 n v3 v4 M → E 39 [(0, rv G 312), (1, .int a1), (3, .int v3), (4, .int v4)] [] M := by
    intro n
    induction n with
    | zero => intro v3 v4 M h; exact h.elim
    | succ n ih => intro v3 v4 M h; exact w_M_settle_39 hE hR  (show k_M_settle_39 a1 Q (lp_M_settle_39 a1 Q K75 n) K75 v3 v4 M from h) ih hK75
  exact key n _ _ _ h
set_option maxHeartbeats 4000000 in
set_option maxRecDepth 20000 in
theorem t_M_settle {l : Launch} {G : Gs} {d : Nat} {a1 : Int32} {M : Mm} {Q : Int32 → Mm → Prop}  (h : wp_M_settle a1 M Q) : CtI l G (d + 11) yX10_settle cX10_settle 5 (some .int) [rv G 312, .int a1] M Q := by
  refine CtI.mk (by decide) rfl (Nat.le_of_ble_eq_true rfl) (fun E hE hR => ?_)
  show E 0 [(0, rv G 312), (1, .int a1)] [] M
  unfold wp_M_settle at h
  refine e_aload_n (pc := 0) hE rfl 0 rfl dX10_settle_0 ?_
  refine e_iload_n (pc := 1) hE rfl 1 rfl dX10_settle_1 ?_
  refine c_M_needArms (pc := 2) (d := d + 8 + 2) hE (t_M_needArms (d := d + 8)  h) tw_1422 (Nat.le_of_ble_eq_true rfl) dX10_settle_2 (fun r2 M2 h => ?_)
  refine e_istore_n (pc := 5) (lv' := [(2, .int r2), (0, rv G 312), (1, .int a1)]) hE dX10_settle_5 rfl (by decide) rfl ?_
  refine e_iload_n (pc := 6) hE rfl 0 rfl dX10_settle_6 ?_
  refine e_if_ge (pc := 7) hE 12 dX10_settle_7 (by decide) (fun c0 => ?_) (fun c0 => ?_)
  · have h := h.1 c0
    refine e_aload_n (pc := 12) hE rfl 1 rfl dX10_settle_12 ?_
    refine e_iload_n (pc := 13) hE rfl 2 rfl dX10_settle_13 ?_
    refine e_aload_n (pc := 14) hE rfl 1 rfl dX10_settle_14 ?_
    refine c_M_setMany (pc := 15) (d := d + 10 + 0) hE (t_M_setMany (d := d + 10)  h) tw_1370 (Nat.le_of_ble_eq_true rfl) dX10_settle_15 (fun r15 M15 h => ?_)
    refine e_iconst (pc := 18) (v := 1) hE ki_1 dX10_settle_18 ?_
    refine e_isub (pc := 19) hE dX10_settle_19 ?_
    refine c_M_owedBy (pc := 20) (d := d + 9 + 1) hE (t_M_owedBy (d := d + 9)  h) tw_1438 (Nat.le_of_ble_eq_true rfl) dX10_settle_20 (fun r20 M20 h => ?_)
    refine e_lconst (pc := 23) (v := 0) hE kl_0 dX10_settle_23 ?_
    refine e_lcmp (pc := 24) hE dX10_settle_24 ?_
    refine e_if_eq (pc := 25) hE 34 dX10_settle_25 (by decide) (fun c0 => ?_) (fun c0 => ?_)
    · have h := h.1 c0
      refine e_iconst (pc := 34) (v := 0) hE ki_0 dX10_settle_34 ?_
      refine e_istore_n (pc := 35) (lv' := [(3, .int (0 : Int32)), (2, .int r2), (0, rv G 312), (1, .int a1)]) hE dX10_settle_35 rfl (by decide) rfl ?_
      refine e_iconst (pc := 36) (v := 0) hE ki_0 dX10_settle_36 ?_
      refine e_istore (pc := 37) (lv' := [(4, .int (0 : Int32)), (3, .int (0 : Int32)), (2, .int r2), (0, rv G 312), (1, .int a1)]) hE dX10_settle_37 (by decide) rfl ?_
      obtain ⟨n, h⟩ := h
      refine e_sub hE [3, 4, 1, 0] rfl ?_
      refine w_lp_M_settle_39 hE hR  h (fun v3 M h => ?_)
      refine e_iload_n (pc := 75) hE rfl 2 rfl dX10_settle_75 ?_
      refine c_M_bits (pc := 76) (d := d + 10 + 0) hE (t_M_bits (d := d + 10)  h) tw_1335 (Nat.le_of_ble_eq_true rfl) dX10_settle_76 (fun r76 M76 h => ?_)
      refine e_aload_n (pc := 79) hE rfl 0 rfl dX10_settle_79 ?_
      refine e_iload_n (pc := 80) hE rfl 1 rfl dX10_settle_80 ?_
      refine e_iload_n (pc := 81) hE rfl 2 rfl dX10_settle_81 ?_
      refine c_M_parts (pc := 82) (d := d + 2 + 8) hE (t_M_parts (d := d)  h) tw_1442 (Nat.le_of_ble_eq_true rfl) dX10_settle_82 (fun r82 M82 h => ?_)
      refine e_isub (pc := 85) hE dX10_settle_85 ?_
      exact hR dX10_settle_86 h
    · have h := h.2 c0
      refine e_aload_n (pc := 28) hE rfl 1 rfl dX10_settle_28 ?_
      refine e_iconst (pc := 29) (v := 4) hE ki_4 dX10_settle_29 ?_
      refine c_M_meets (pc := 30) (d := d + 10 + 0) hE (t_M_meets (d := d + 10)  h) tw_1164 (Nat.le_of_ble_eq_true rfl) dX10_settle_30 (fun r30 M30 h => ?_)
      exact hR dX10_settle_33 h
  · have h := h.2 c0
    refine e_iload_n (pc := 10) hE rfl 0 rfl dX10_settle_10 ?_
    exact hR dX10_settle_11 h
set_option maxHeartbeats 4000000 in
set_option maxRecDepth 20000 in
theorem w_M_waitMany_4 {l : Launch} {G : Gs} {d : Nat} {E : EE}  {Q : Int32 → Mm → Prop} (hE : Mach l G RX10 cX10_waitMany 3 (d + 1) E) (hR : RtI cX10_waitMany E Q)   {KB : Int32 → Int32 → Mm → Prop} {v1 : Int32} {v2 : Int32} {M : Mm} (h : k_M_waitMany_4 Q KB v1 v2 M) (hKB : ∀ (v1 : Int32) (v2 : Int32)  (M : Mm), KB v1 v2 M → E 4 [(0, rv G 312), (1, .int v1), (2, .int v2)] [] M) : E 4 [(0, rv G 312), (1, .int v1), (2, .int v2)] [] M := by
  unfold k_M_waitMany_4 at h
  refine e_iload_n (pc := 4) hE rfl 2 rfl dX10_waitMany_4 ?_
  refine e_aload_n (pc := 5) hE rfl 0 rfl dX10_waitMany_5 ?_
  refine g_Md_n (pc := 6) hE tw_1009 dX10_waitMany_6 ?_
  refine e_icmp_ge (pc := 9) hE 30 dX10_waitMany_9 (by decide) (fun c0 => ?_) (fun c0 => ?_)
  · have h := h.1 c0
    refine e_iload_n (pc := 30) hE rfl 1 rfl dX10_waitMany_30 ?_
    exact hR dX10_waitMany_31 h
  · have h := h.2 c0
    refine e_iload_n (pc := 12) hE rfl 1 rfl dX10_waitMany_12 ?_
    refine e_aload_n (pc := 13) hE rfl 0 rfl dX10_waitMany_13 ?_
    refine g_Md_waits (pc := 14) hE tw_1016 dX10_waitMany_14 ?_
    refine e_iload_n (pc := 17) hE rfl 2 rfl dX10_waitMany_17 ?_
    refine e_iald (pc := 18) hE ar_324 h.1 dX10_waitMany_18 ?_
    have h := h.2
    refine c_M_bits (pc := 19) (d := d + 0) hE (t_M_bits (d := d)  h) tw_1335 (Nat.le_of_ble_eq_true rfl) dX10_waitMany_19 (fun r19 M19 h => ?_)
    refine e_iadd (pc := 22) hE dX10_waitMany_22 ?_
    refine e_topi (fun x23 ex23 => ?_)
    have h := h x23 ex23
    refine e_istore_n (pc := 23) (lv' := [(1, .int x23), (0, rv G 312), (2, .int v2)]) hE dX10_waitMany_23 rfl (by decide) rfl ?_
    obtain ⟨x24, ex24⟩ : ∃ y : Int32, y = v2 + (1 : Int32) := ⟨_, rfl⟩
    have h := h x24 ex24
    refine e_iinc (pc := 24) (k := 2) (v := x24) (lv' := [(2, .int x24), (1, .int x23), (0, rv G 312)]) hE dX10_waitMany_24 rfl (by rw [ex24, ki_1]) (by decide) rfl ?_
    refine e_goto (pc := 27) hE 4 dX10_waitMany_27 (by decide) ?_
    refine e_sub hE [2, 1, 0] rfl ?_
    exact hKB _ _ _ h
set_option maxHeartbeats 4000000 in
set_option maxRecDepth 20000 in
theorem w_lp_M_waitMany_4 {l : Launch} {G : Gs} {d : Nat} {E : EE}  {Q : Int32 → Mm → Prop} (hE : Mach l G RX10 cX10_waitMany 3 (d + 1) E) (hR : RtI cX10_waitMany E Q)    {n : Nat} {v1 : Int32} {v2 : Int32} {M : Mm} (h : lp_M_waitMany_4 Q n v1 v2 M)  : E 4 [(0, rv G 312), (1, .int v1), (2, .int v2)] [] M := by
  have key : ∀ (n : Nat) (v1 : Int32) (v2 : Int32) (M : Mm), lp_M_waitMany_4 Q n v1 v2 M → E 4 [(0, rv G 312), (1, .int v1), (2, .int v2)] [] M := by
    intro n
    induction n with
    | zero => intro v1 v2 M h; exact h.elim
    | succ n ih => intro v1 v2 M h; exact w_M_waitMany_4 hE hR  (show k_M_waitMany_4  Q (lp_M_waitMany_4 Q n)  v1 v2 M from h) ih 
  exact key n _ _ _ h
set_option maxHeartbeats 4000000 in
set_option maxRecDepth 20000 in
theorem t_M_waitMany {l : Launch} {G : Gs} {d : Nat}  {M : Mm} {Q : Int32 → Mm → Prop}  (h : wp_M_waitMany  M Q) : CtI l G (d + 1) yX10_waitMany cX10_waitMany 3 (some .int) [rv G 312] M Q := by
  refine CtI.mk (by decide) rfl (Nat.le_of_ble_eq_true rfl) (fun E hE hR => ?_)
  show E 0 [(0, rv G 312)] [] M
  unfold wp_M_waitMany at h
  refine e_iconst (pc := 0) (v := 0) hE ki_0 dX10_waitMany_0 ?_
  refine e_istore_n (pc := 1) (lv' := [(1, .int (0 : Int32)), (0, rv G 312)]) hE dX10_waitMany_1 rfl (by decide) rfl ?_
  refine e_iconst (pc := 2) (v := 0) hE ki_0 dX10_waitMany_2 ?_
  refine e_istore_n (pc := 3) (lv' := [(2, .int (0 : Int32)), (1, .int (0 : Int32)), (0, rv G 312)]) hE dX10_waitMany_3 rfl (by decide) rfl ?_
  obtain ⟨n, h⟩ := h
  refine e_sub hE [2, 1, 0] rfl ?_
  refine w_lp_M_waitMany_4 hE hR  h 
set_option maxHeartbeats 4000000 in
set_option maxRecDepth 20000 in
theorem w_M_stalled_64 {l : Launch} {G : Gs} {d : Nat} {E : EE}  {Q : Int32 → Mm → Prop} (hE : Mach l G RX10 cX10_stalled 6 (d + 2) E) (hR : RtI cX10_stalled E Q)   {KB : Int32 → Int32 → Int32 → Int32 → Int32 → Mm → Prop} {K72 : Int32 → Int32 → Int32 → Int32 → Mm → Prop} {v1 : Int32} {v2 : Int32} {v4 : Int32} {v5 : Int32} {s0 : Int32} {s1 : Int32} {M : Mm} (h : k_M_stalled_64 Q KB K72 v1 v2 v4 v5 s0 s1 M) (hKB : ∀ (v1 : Int32) (v2 : Int32) (v3 : Int32) (v4 : Int32) (v5 : Int32)  (M : Mm), KB v1 v2 v3 v4 v5 M → E 34 [(0, rv G 312), (1, .int v1), (2, .int v2), (3, .int v3), (4, .int v4), (5, .int v5)] [] M) (hK72 : ∀ (v1 : Int32) (v2 : Int32) (v3 : Int32) (v4 : Int32)  (M : Mm), K72 v1 v2 v3 v4 M → E 72 [(0, rv G 312), (1, .int v1), (2, .int v2), (3, .int v3), (4, .int v4)] [] M) : E 64 [(0, rv G 312), (1, .int v1), (2, .int v2), (4, .int v4), (5, .int v5)] [.int s0, .int s1] M := by
  unfold k_M_stalled_64 at h
  refine e_ior (pc := 64) hE dX10_stalled_64 ?_
  refine e_topi (fun x65 ex65 => ?_)
  have h := h x65 ex65
  refine e_istore_n (pc := 65) (lv' := [(3, .int x65), (0, rv G 312), (1, .int v1), (2, .int v2), (4, .int v4), (5, .int v5)]) hE dX10_stalled_65 rfl (by decide) rfl ?_
  obtain ⟨x66, ex66⟩ : ∃ y : Int32, y = v5 + (1 : Int32) := ⟨_, rfl⟩
  have h := h x66 ex66
  refine e_iinc (pc := 66) (k := 5) (v := x66) (lv' := [(5, .int x66), (3, .int x65), (0, rv G 312), (1, .int v1), (2, .int v2), (4, .int v4)]) hE dX10_stalled_66 rfl (by rw [ex66, ki_1]) (by decide) rfl ?_
  refine e_goto (pc := 69) hE 34 dX10_stalled_69 (by decide) ?_
  refine e_sub hE [2, 3, 4, 1, 5, 0] rfl ?_
  exact hKB _ _ _ _ _ _ h
set_option maxHeartbeats 4000000 in
set_option maxRecDepth 20000 in
theorem w_M_stalled_34 {l : Launch} {G : Gs} {d : Nat} {E : EE}  {Q : Int32 → Mm → Prop} (hE : Mach l G RX10 cX10_stalled 6 (d + 2) E) (hR : RtI cX10_stalled E Q)   {KB : Int32 → Int32 → Int32 → Int32 → Int32 → Mm → Prop} {K72 : Int32 → Int32 → Int32 → Int32 → Mm → Prop} {v1 : Int32} {v2 : Int32} {v3 : Int32} {v4 : Int32} {v5 : Int32} {M : Mm} (h : k_M_stalled_34 Q KB K72 v1 v2 v3 v4 v5 M) (hKB : ∀ (v1 : Int32) (v2 : Int32) (v3 : Int32) (v4 : Int32) (v5 : Int32)  (M : Mm), KB v1 v2 v3 v4 v5 M → E 34 [(0, rv G 312), (1, .int v1), (2, .int v2), (3, .int v3), (4, .int v4), (5, .int v5)] [] M) (hK72 : ∀ (v1 : Int32) (v2 : Int32) (v3 : Int32) (v4 : Int32)  (M : Mm), K72 v1 v2 v3 v4 M → E 72 [(0, rv G 312), (1, .int v1), (2, .int v2), (3, .int v3), (4, .int v4)] [] M) : E 34 [(0, rv G 312), (1, .int v1), (2, .int v2), (3, .int v3), (4, .int v4), (5, .int v5)] [] M := by
  unfold k_M_stalled_34 at h
  refine e_iload (pc := 34) hE 5 rfl dX10_stalled_34 ?_
  refine e_aload_n (pc := 36) hE rfl 0 rfl dX10_stalled_36 ?_
  refine g_Md_n (pc := 37) hE tw_1009 dX10_stalled_37 ?_
  refine e_icmp_ge (pc := 40) hE 72 dX10_stalled_40 (by decide) (fun c0 => ?_) (fun c0 => ?_)
  · have h := h.1 c0
    refine e_sub hE [0, 1, 2, 3, 4] rfl ?_
    exact hK72 _ _ _ _ _ h
  · have h := h.2 c0
    refine e_iload_n (pc := 43) hE rfl 3 rfl dX10_stalled_43 ?_
    refine e_iload_n (pc := 44) hE rfl 3 rfl dX10_stalled_44 ?_
    refine e_iload (pc := 45) hE 5 rfl dX10_stalled_45 ?_
    refine c_M_has (pc := 47) (d := d + 1 + 0) hE (t_M_has (d := d + 1)  h) tw_1235 (Nat.le_of_ble_eq_true rfl) dX10_stalled_47 (fun r47 M47 h => ?_)
    refine e_if_eq (pc := 50) hE 63 dX10_stalled_50 (by decide) (fun c0 => ?_) (fun c0 => ?_)
    · have h := h.1 c0
      refine e_iconst (pc := 63) (v := 0) hE ki_0 dX10_stalled_63 ?_
      refine e_sub hE [0, 1, 2, 4, 5] rfl ?_
      exact w_M_stalled_64 hE hR h hKB hK72
    · have h := h.2 c0
      refine e_aload_n (pc := 53) hE rfl 0 rfl dX10_stalled_53 ?_
      refine g_Md_waits (pc := 54) hE tw_1016 dX10_stalled_54 ?_
      refine e_iload (pc := 57) hE 5 rfl dX10_stalled_57 ?_
      refine e_iald (pc := 59) hE ar_324 h.1 dX10_stalled_59 ?_
      have h := h.2
      refine e_goto (pc := 60) hE 64 dX10_stalled_60 (by decide) ?_
      refine e_sub hE [0, 1, 2, 4, 5] rfl ?_
      exact w_M_stalled_64 hE hR h hKB hK72
set_option maxHeartbeats 4000000 in
set_option maxRecDepth 20000 in
theorem w_lp_M_stalled_34 {l : Launch} {G : Gs} {d : Nat} {E : EE}  {Q : Int32 → Mm → Prop} (hE : Mach l G RX10 cX10_stalled 6 (d + 2) E) (hR : RtI cX10_stalled E Q)   {K72 : Int32 → Int32 → Int32 → Int32 → Mm → Prop} {n : Nat} {v1 : Int32} {v2 : Int32} {v3 : Int32} {v4 : Int32} {v5 : Int32} {M : Mm} (h : lp_M_stalled_34 Q K72 n v1 v2 v3 v4 v5 M) (hK72 : ∀ (v1 : Int32) (v2 : Int32) (v3 : Int32) (v4 : Int32)  (M : Mm), K72 v1 v2 v3 v4 M → E 72 [(0, rv G 312), (1, .int v1), (2, .int v2), (3, .int v3), (4, .int v4)] [] M) : E 34 [(0, rv G 312), (1, .int v1), (2, .int v2), (3, .int v3), (4, .int v4), (5, .int v5)] [] M := by
  have key : ∀ (n : Nat) (v1 : Int32) (v2 : Int32) (v3 : Int32) (v4 : Int32) (v5 : Int32) (M : Mm), lp_M_stalled_34 Q K72 n v1 v2 v3 v4 v5 M → E 34 [(0, rv G 312), (1, .int v1), (2, .int v2), (3, .int v3), (4, .int v4), (5, .int v5)] [] M := by
    intro n
    induction n with
    | zero => intro v1 v2 v3 v4 v5 M h; exact h.elim
    | succ n ih => intro v1 v2 v3 v4 v5 M h; exact w_M_stalled_34 hE hR  (show k_M_stalled_34  Q (lp_M_stalled_34 Q K72 n) K72 v1 v2 v3 v4 v5 M from h) ih hK72
  exact key n _ _ _ _ _ _ h
set_option maxHeartbeats 4000000 in
set_option maxRecDepth 20000 in
theorem w_M_stalled_22 {l : Launch} {G : Gs} {d : Nat} {E : EE}  {Q : Int32 → Mm → Prop} (hE : Mach l G RX10 cX10_stalled 6 (d + 2) E) (hR : RtI cX10_stalled E Q)   {KB : Int32 → Int32 → Int32 → Int32 → Mm → Prop} {K78 : Int32 → Int32 → Int32 → Mm → Prop} {v1 : Int32} {v2 : Int32} {v3 : Int32} {v4 : Int32} {M : Mm} (h : k_M_stalled_22 Q KB K78 v1 v2 v3 v4 M) (hKB : ∀ (v1 : Int32) (v2 : Int32) (v3 : Int32) (v4 : Int32)  (M : Mm), KB v1 v2 v3 v4 M → E 22 [(0, rv G 312), (1, .int v1), (2, .int v2), (3, .int v3), (4, .int v4)] [] M) (hK78 : ∀ (v1 : Int32) (v2 : Int32) (v3 : Int32)  (M : Mm), K78 v1 v2 v3 M → E 78 [(0, rv G 312), (1, .int v1), (2, .int v2), (3, .int v3)] [] M) : E 22 [(0, rv G 312), (1, .int v1), (2, .int v2), (3, .int v3), (4, .int v4)] [] M := by
  unfold k_M_stalled_22 at h
  refine e_iload (pc := 22) hE 4 rfl dX10_stalled_22 ?_
  refine e_aload_n (pc := 24) hE rfl 0 rfl dX10_stalled_24 ?_
  refine g_Md_n (pc := 25) hE tw_1009 dX10_stalled_25 ?_
  refine e_icmp_ge (pc := 28) hE 78 dX10_stalled_28 (by decide) (fun c0 => ?_) (fun c0 => ?_)
  · have h := h.1 c0
    refine e_sub hE [0, 1, 2, 3] rfl ?_
    exact hK78 _ _ _ _ h
  · have h := h.2 c0
    refine e_iconst (pc := 31) (v := 0) hE ki_0 dX10_stalled_31 ?_
    refine e_istore (pc := 32) (lv' := [(5, .int (0 : Int32)), (0, rv G 312), (1, .int v1), (2, .int v2), (3, .int v3), (4, .int v4)]) hE dX10_stalled_32 (by decide) rfl ?_
    obtain ⟨n, h⟩ := h
    refine e_sub hE [1, 2, 3, 4, 5, 0] rfl ?_
    refine w_lp_M_stalled_34 hE hR  h (fun v1 v2 v3 v4 M h => ?_)
    obtain ⟨x72, ex72⟩ : ∃ y : Int32, y = v4 + (1 : Int32) := ⟨_, rfl⟩
    have h := h x72 ex72
    refine e_iinc (pc := 72) (k := 4) (v := x72) (lv' := [(4, .int x72), (0, rv G 312), (1, .int v1), (2, .int v2), (3, .int v3)]) hE dX10_stalled_72 rfl (by rw [ex72, ki_1]) (by decide) rfl ?_
    refine e_goto (pc := 75) hE 22 dX10_stalled_75 (by decide) ?_
    refine e_sub hE [1, 2, 3, 4, 0] rfl ?_
    exact hKB _ _ _ _ _ h
set_option maxHeartbeats 4000000 in
set_option maxRecDepth 20000 in
theorem w_lp_M_stalled_22 {l : Launch} {G : Gs} {d : Nat} {E : EE}  {Q : Int32 → Mm → Prop} (hE : Mach l G RX10 cX10_stalled 6 (d + 2) E) (hR : RtI cX10_stalled E Q)   {K78 : Int32 → Int32 → Int32 → Mm → Prop} {n : Nat} {v1 : Int32} {v2 : Int32} {v3 : Int32} {v4 : Int32} {M : Mm} (h : lp_M_stalled_22 Q K78 n v1 v2 v3 v4 M) (hK78 : ∀ (v1 : Int32) (v2 : Int32) (v3 : Int32)  (M : Mm), K78 v1 v2 v3 M → E 78 [(0, rv G 312), (1, .int v1), (2, .int v2), (3, .int v3)] [] M) : E 22 [(0, rv G 312), (1, .int v1), (2, .int v2), (3, .int v3), (4, .int v4)] [] M := by
  have key : ∀ (n : Nat) (v1 : Int32) (v2 : Int32) (v3 : Int32) (v4 : Int32) (M : Mm), lp_M_stalled_22 Q K78 n v1 v2 v3 v4 M → E 22 [(0, rv G 312), (1, .int v1), (2, .int v2), (3, .int v3), (4, .int v4)] [] M := by
    intro n
    induction n with
    | zero => intro v1 v2 v3 v4 M h; exact h.elim
    | succ n ih => intro v1 v2 v3 v4 M h; exact w_M_stalled_22 hE hR  (show k_M_stalled_22  Q (lp_M_stalled_22 Q K78 n) K78 v1 v2 v3 v4 M from h) ih hK78
  exact key n _ _ _ _ _ h
set_option maxHeartbeats 4000000 in
set_option maxRecDepth 20000 in
theorem w_M_stalled_94 {l : Launch} {G : Gs} {d : Nat} {E : EE}  {Q : Int32 → Mm → Prop} (hE : Mach l G RX10 cX10_stalled 6 (d + 2) E) (hR : RtI cX10_stalled E Q)   {KB : Int32 → Int32 → Mm → Prop} {K102 : Int32 → Mm → Prop} {v2 : Int32} {s0 : Int32} {s1 : Int32} {M : Mm} (h : k_M_stalled_94 Q KB K102 v2 s0 s1 M) (hKB : ∀ (v1 : Int32) (v2 : Int32)  (M : Mm), KB v1 v2 M → E 4 [(0, rv G 312), (1, .int v1), (2, .int v2)] [] M) (hK102 : ∀ (v1 : Int32)  (M : Mm), K102 v1 M → E 102 [(0, rv G 312), (1, .int v1)] [] M) : E 94 [(0, rv G 312), (2, .int v2)] [.int s0, .int s1] M := by
  unfold k_M_stalled_94 at h
  refine e_ior (pc := 94) hE dX10_stalled_94 ?_
  refine e_topi (fun x95 ex95 => ?_)
  have h := h x95 ex95
  refine e_istore_n (pc := 95) (lv' := [(1, .int x95), (0, rv G 312), (2, .int v2)]) hE dX10_stalled_95 rfl (by decide) rfl ?_
  obtain ⟨x96, ex96⟩ : ∃ y : Int32, y = v2 + (1 : Int32) := ⟨_, rfl⟩
  have h := h x96 ex96
  refine e_iinc (pc := 96) (k := 2) (v := x96) (lv' := [(2, .int x96), (1, .int x95), (0, rv G 312)]) hE dX10_stalled_96 rfl (by rw [ex96, ki_1]) (by decide) rfl ?_
  refine e_goto (pc := 99) hE 4 dX10_stalled_99 (by decide) ?_
  refine e_sub hE [2, 1, 0] rfl ?_
  exact hKB _ _ _ h
set_option maxHeartbeats 4000000 in
set_option maxRecDepth 20000 in
theorem w_M_stalled_4 {l : Launch} {G : Gs} {d : Nat} {E : EE}  {Q : Int32 → Mm → Prop} (hE : Mach l G RX10 cX10_stalled 6 (d + 2) E) (hR : RtI cX10_stalled E Q)   {KB : Int32 → Int32 → Mm → Prop} {K102 : Int32 → Mm → Prop} {v1 : Int32} {v2 : Int32} {M : Mm} (h : k_M_stalled_4 Q KB K102 v1 v2 M) (hKB : ∀ (v1 : Int32) (v2 : Int32)  (M : Mm), KB v1 v2 M → E 4 [(0, rv G 312), (1, .int v1), (2, .int v2)] [] M) (hK102 : ∀ (v1 : Int32)  (M : Mm), K102 v1 M → E 102 [(0, rv G 312), (1, .int v1)] [] M) : E 4 [(0, rv G 312), (1, .int v1), (2, .int v2)] [] M := by
  unfold k_M_stalled_4 at h
  refine e_iload_n (pc := 4) hE rfl 2 rfl dX10_stalled_4 ?_
  refine e_aload_n (pc := 5) hE rfl 0 rfl dX10_stalled_5 ?_
  refine g_Md_n (pc := 6) hE tw_1009 dX10_stalled_6 ?_
  refine e_icmp_ge (pc := 9) hE 102 dX10_stalled_9 (by decide) (fun c0 => ?_) (fun c0 => ?_)
  · have h := h.1 c0
    refine e_sub hE [0, 1] rfl ?_
    exact hK102 _ _ h
  · have h := h.2 c0
    refine e_aload_n (pc := 12) hE rfl 0 rfl dX10_stalled_12 ?_
    refine g_Md_waits (pc := 13) hE tw_1016 dX10_stalled_13 ?_
    refine e_iload_n (pc := 16) hE rfl 2 rfl dX10_stalled_16 ?_
    refine e_iald (pc := 17) hE ar_324 h.1 dX10_stalled_17 ?_
    have h := h.2
    refine e_topi (fun x18 ex18 => ?_)
    have h := h x18 ex18
    refine e_istore_n (pc := 18) (lv' := [(3, .int x18), (0, rv G 312), (1, .int v1), (2, .int v2)]) hE dX10_stalled_18 rfl (by decide) rfl ?_
    refine e_iconst (pc := 19) (v := 0) hE ki_0 dX10_stalled_19 ?_
    refine e_istore (pc := 20) (lv' := [(4, .int (0 : Int32)), (3, .int x18), (0, rv G 312), (1, .int v1), (2, .int v2)]) hE dX10_stalled_20 (by decide) rfl ?_
    obtain ⟨n, h⟩ := h
    refine e_sub hE [2, 3, 4, 1, 0] rfl ?_
    refine w_lp_M_stalled_22 hE hR  h (fun v1 v2 v3 M h => ?_)
    refine e_iload_n (pc := 78) hE rfl 1 rfl dX10_stalled_78 ?_
    refine e_iload_n (pc := 79) hE rfl 3 rfl dX10_stalled_79 ?_
    refine e_iload_n (pc := 80) hE rfl 2 rfl dX10_stalled_80 ?_
    refine c_M_has (pc := 81) (d := d + 1 + 0) hE (t_M_has (d := d + 1)  h) tw_1235 (Nat.le_of_ble_eq_true rfl) dX10_stalled_81 (fun r81 M81 h => ?_)
    refine e_if_eq (pc := 84) hE 93 dX10_stalled_84 (by decide) (fun c0 => ?_) (fun c0 => ?_)
    · have h := h.1 c0
      refine e_iconst (pc := 93) (v := 0) hE ki_0 dX10_stalled_93 ?_
      refine e_sub hE [0, 2] rfl ?_
      exact w_M_stalled_94 hE hR h hKB hK102
    · have h := h.2 c0
      refine e_iconst (pc := 87) (v := 1) hE ki_1 dX10_stalled_87 ?_
      refine e_iload_n (pc := 88) hE rfl 2 rfl dX10_stalled_88 ?_
      refine e_ishl (pc := 89) hE dX10_stalled_89 ?_
      refine e_goto (pc := 90) hE 94 dX10_stalled_90 (by decide) ?_
      refine e_sub hE [0, 2] rfl ?_
      exact w_M_stalled_94 hE hR h hKB hK102
set_option maxHeartbeats 4000000 in
set_option maxRecDepth 20000 in
theorem w_lp_M_stalled_4 {l : Launch} {G : Gs} {d : Nat} {E : EE}  {Q : Int32 → Mm → Prop} (hE : Mach l G RX10 cX10_stalled 6 (d + 2) E) (hR : RtI cX10_stalled E Q)   {K102 : Int32 → Mm → Prop} {n : Nat} {v1 : Int32} {v2 : Int32} {M : Mm} (h : lp_M_stalled_4 Q K102 n v1 v2 M) (hK102 : ∀ (v1 : Int32)  (M : Mm), K102 v1 M → E 102 [(0, rv G 312), (1, .int v1)] [] M) : E 4 [(0, rv G 312), (1, .int v1), (2, .int v2)] [] M := by
  have key : ∀ (n : Nat) (v1 : Int32) (v2 : Int32) (M : Mm), lp_M_stalled_4 Q K102 n v1 v2 M → E 4 [(0, rv G 312), (1, .int v1), (2, .int v2)] [] M := by
    intro n
    induction n with
    | zero => intro v1 v2 M h; exact h.elim
    | succ n ih => intro v1 v2 M h; exact w_M_stalled_4 hE hR  (show k_M_stalled_4  Q (lp_M_stalled_4 Q K102 n) K102 v1 v2 M from h) ih hK102
  exact key n _ _ _ h
set_option maxHeartbeats 4000000 in
set_option maxRecDepth 20000 in
theorem t_M_stalled {l : Launch} {G : Gs} {d : Nat}  {M : Mm} {Q : Int32 → Mm → Prop}  (h : wp_M_stalled  M Q) : CtI l G (d + 2) yX10_stalled cX10_stalled 6 (some .int) [rv G 312] M Q := by
  refine CtI.mk (by decide) rfl (Nat.le_of_ble_eq_true rfl) (fun E hE hR => ?_)
  show E 0 [(0, rv G 312)] [] M
  unfold wp_M_stalled at h
  refine e_iconst (pc := 0) (v := 0) hE ki_0 dX10_stalled_0 ?_
  refine e_istore_n (pc := 1) (lv' := [(1, .int (0 : Int32)), (0, rv G 312)]) hE dX10_stalled_1 rfl (by decide) rfl ?_
  refine e_iconst (pc := 2) (v := 0) hE ki_0 dX10_stalled_2 ?_
  refine e_istore_n (pc := 3) (lv' := [(2, .int (0 : Int32)), (1, .int (0 : Int32)), (0, rv G 312)]) hE dX10_stalled_3 rfl (by decide) rfl ?_
  obtain ⟨n, h⟩ := h
  refine e_sub hE [2, 1, 0] rfl ?_
  refine w_lp_M_stalled_4 hE hR  h (fun v1 M h => ?_)
  refine e_aload_n (pc := 102) hE rfl 0 rfl dX10_stalled_102 ?_
  refine e_aload_n (pc := 103) hE rfl 0 rfl dX10_stalled_103 ?_
  refine c_M_waitMany (pc := 104) (d := d + 1) hE (t_M_waitMany (d := d)  h) tw_1450 (Nat.le_of_ble_eq_true rfl) dX10_stalled_104 (fun r104 M104 h => ?_)
  refine e_iload_n (pc := 107) hE rfl 1 rfl dX10_stalled_107 ?_
  refine c_M_tells (pc := 108) (d := d + 1 + 0) hE (t_M_tells (d := d + 1)  h) tw_1176 (Nat.le_of_ble_eq_true rfl) dX10_stalled_108 (fun r108 M108 h => ?_)
  exact hR dX10_stalled_111 h
set_option maxHeartbeats 4000000 in
set_option maxRecDepth 20000 in
theorem w_M_layBack_75 {l : Launch} {G : Gs} {d : Nat} {E : EE}  {Q : Int32 → Mm → Prop} (hE : Mach l G RX10 cX10_layBack 5 (d + 1) E) (hR : RtI cX10_layBack E Q)   {KB : Int32 → Int32 → Mm → Prop} {v1 : Int32} {v2 : Int32} {M : Mm} (h : k_M_layBack_75 Q KB v1 v2 M) (hKB : ∀ (v1 : Int32) (v2 : Int32)  (M : Mm), KB v1 v2 M → E 4 [(0, rv G 312), (1, .int v1), (2, .int v2)] [] M) : E 75 [(0, rv G 312), (1, .int v1), (2, .int v2)] [] M := by
  unfold k_M_layBack_75 at h
  obtain ⟨x75, ex75⟩ : ∃ y : Int32, y = v2 + (1 : Int32) := ⟨_, rfl⟩
  have h := h x75 ex75
  refine e_iinc (pc := 75) (k := 2) (v := x75) (lv' := [(2, .int x75), (0, rv G 312), (1, .int v1)]) hE dX10_layBack_75 rfl (by rw [ex75, ki_1]) (by decide) rfl ?_
  refine e_goto (pc := 78) hE 4 dX10_layBack_78 (by decide) ?_
  refine e_sub hE [1, 2, 0] rfl ?_
  exact hKB _ _ _ h
set_option maxHeartbeats 4000000 in
set_option maxRecDepth 20000 in
theorem w_M_layBack_4 {l : Launch} {G : Gs} {d : Nat} {E : EE}  {Q : Int32 → Mm → Prop} (hE : Mach l G RX10 cX10_layBack 5 (d + 1) E) (hR : RtI cX10_layBack E Q)   {KB : Int32 → Int32 → Mm → Prop} {v1 : Int32} {v2 : Int32} {M : Mm} (h : k_M_layBack_4 Q KB v1 v2 M) (hKB : ∀ (v1 : Int32) (v2 : Int32)  (M : Mm), KB v1 v2 M → E 4 [(0, rv G 312), (1, .int v1), (2, .int v2)] [] M) : E 4 [(0, rv G 312), (1, .int v1), (2, .int v2)] [] M := by
  unfold k_M_layBack_4 at h
  refine e_iload_n (pc := 4) hE rfl 2 rfl dX10_layBack_4 ?_
  refine e_bipush (pc := 5) (v := 8) hE kb_8 dX10_layBack_5 ?_
  refine e_aload_n (pc := 7) hE rfl 0 rfl dX10_layBack_7 ?_
  refine g_Md_n (pc := 8) hE tw_1009 dX10_layBack_8 ?_
  refine e_imul (pc := 11) hE dX10_layBack_11 ?_
  refine e_icmp_ge (pc := 12) hE 81 dX10_layBack_12 (by decide) (fun c0 => ?_) (fun c0 => ?_)
  · have h := h.1 c0
    refine e_iload_n (pc := 81) hE rfl 1 rfl dX10_layBack_81 ?_
    exact hR dX10_layBack_82 h
  · have h := h.2 c0
    refine e_iload_n (pc := 15) hE rfl 2 rfl dX10_layBack_15 ?_
    refine e_bipush (pc := 16) (v := 8) hE kb_8 dX10_layBack_16 ?_
    refine e_idiv (pc := 18) hE (by decide) dX10_layBack_18 ?_
    refine e_topi (fun x19 ex19 => ?_)
    have h := h x19 ex19
    refine e_istore_n (pc := 19) (lv' := [(3, .int x19), (0, rv G 312), (1, .int v1), (2, .int v2)]) hE dX10_layBack_19 rfl (by decide) rfl ?_
    refine e_iload_n (pc := 20) hE rfl 3 rfl dX10_layBack_20 ?_
    refine e_bipush (pc := 21) (v := 8) hE kb_8 dX10_layBack_21 ?_
    refine e_irem (pc := 23) hE (by decide) dX10_layBack_23 ?_
    refine e_topi (fun x24 ex24 => ?_)
    have h := h x24 ex24
    refine e_istore (pc := 24) (lv' := [(4, .int x24), (3, .int x19), (0, rv G 312), (1, .int v1), (2, .int v2)]) hE dX10_layBack_24 (by decide) rfl ?_
    refine e_iload (pc := 26) hE 0 rfl dX10_layBack_26 ?_
    refine e_aload_n (pc := 28) hE rfl 2 rfl dX10_layBack_28 ?_
    refine g_Md_n (pc := 29) hE tw_1009 dX10_layBack_29 ?_
    refine e_icmp_ge (pc := 32) hE 75 dX10_layBack_32 (by decide) (fun c0 => ?_) (fun c0 => ?_)
    · have h := h.1 c0
      refine e_sub hE [2, 3, 4] rfl ?_
      exact w_M_layBack_75 hE hR h hKB
    · have h := h.2 c0
      refine e_aload_n (pc := 35) hE rfl 2 rfl dX10_layBack_35 ?_
      refine g_Md_waits (pc := 36) hE tw_1016 dX10_layBack_36 ?_
      refine e_iload_n (pc := 39) hE rfl 1 rfl dX10_layBack_39 ?_
      refine e_iald (pc := 40) hE ar_324 h.1 dX10_layBack_40 ?_
      have h := h.2
      refine e_iload (pc := 41) hE 0 rfl dX10_layBack_41 ?_
      refine c_M_has (pc := 43) (d := d + 0) hE (t_M_has (d := d)  h) tw_1235 (Nat.le_of_ble_eq_true rfl) dX10_layBack_43 (fun r43 M43 h => ?_)
      refine e_if_eq (pc := 46) hE 75 dX10_layBack_46 (by decide) (fun c0 => ?_) (fun c0 => ?_)
      · have h := h.1 c0
        refine e_sub hE [2, 3, 4] rfl ?_
        exact w_M_layBack_75 hE hR h hKB
      · have h := h.2 c0
        refine e_aload_n (pc := 49) hE rfl 2 rfl dX10_layBack_49 ?_
        refine g_Md_order (pc := 50) hE tw_1040 dX10_layBack_50 ?_
        refine e_iload_n (pc := 53) hE rfl 1 rfl dX10_layBack_53 ?_
        refine e_iald (pc := 54) hE ar_339 h.1 dX10_layBack_54 ?_
        have h := h.2
        refine e_aload_n (pc := 55) hE rfl 2 rfl dX10_layBack_55 ?_
        refine g_Md_order (pc := 56) hE tw_1040 dX10_layBack_56 ?_
        refine e_iload (pc := 59) hE 0 rfl dX10_layBack_59 ?_
        refine e_iald (pc := 61) hE ar_339 h.1 dX10_layBack_61 ?_
        have h := h.2
        refine e_icmp_ge (pc := 62) hE 75 dX10_layBack_62 (by decide) (fun c0 => ?_) (fun c0 => ?_)
        · have h := h.1 c0
          refine e_sub hE [2, 3, 4] rfl ?_
          exact w_M_layBack_75 hE hR h hKB
        · have h := h.2 c0
          refine e_aload_n (pc := 65) hE rfl 2 rfl dX10_layBack_65 ?_
          refine g_Md_loose (pc := 66) hE tw_1038 dX10_layBack_66 ?_
          refine e_iload_n (pc := 69) hE rfl 3 rfl dX10_layBack_69 ?_
          refine e_iload_n (pc := 70) hE rfl 4 rfl dX10_layBack_70 ?_
          refine e_iast (pc := 71) hE ar_337 h.1 dX10_layBack_71 ?_
          have h := h.2
          obtain ⟨x72, ex72⟩ : ∃ y : Int32, y = v1 + (1 : Int32) := ⟨_, rfl⟩
          have h := h x72 ex72
          refine e_iinc (pc := 72) (k := 3) (v := x72) (lv' := [(1, .int x72), (4, .int x24), (3, .int x19), (0, rv G 312), (2, .int v2)]) hE dX10_layBack_72 rfl (by rw [ex72, ki_1]) (by decide) rfl ?_
          refine e_sub hE [3, 0, 4] rfl ?_
          exact w_M_layBack_75 hE hR h hKB
set_option maxHeartbeats 4000000 in
set_option maxRecDepth 20000 in
theorem w_lp_M_layBack_4 {l : Launch} {G : Gs} {d : Nat} {E : EE}  {Q : Int32 → Mm → Prop} (hE : Mach l G RX10 cX10_layBack 5 (d + 1) E) (hR : RtI cX10_layBack E Q)    {n : Nat} {v1 : Int32} {v2 : Int32} {M : Mm} (h : lp_M_layBack_4 Q n v1 v2 M)  : E 4 [(0, rv G 312), (1, .int v1), (2, .int v2)] [] M := by
  have key : ∀ (n : Nat) (v1 : Int32) (v2 : Int32) (M : Mm), lp_M_layBack_4 Q n v1 v2 M → E 4 [(0, rv G 312), (1, .int v1), (2, .int v2)] [] M := by
    intro n
    induction n with
    | zero => intro v1 v2 M h; exact h.elim
    | succ n ih => intro v1 v2 M h; exact w_M_layBack_4 hE hR  (show k_M_layBack_4  Q (lp_M_layBack_4 Q n)  v1 v2 M from h) ih 
  exact key n _ _ _ h
set_option maxHeartbeats 4000000 in
set_option maxRecDepth 20000 in
theorem t_M_layBack {l : Launch} {G : Gs} {d : Nat}  {M : Mm} {Q : Int32 → Mm → Prop}  (h : wp_M_layBack  M Q) : CtI l G (d + 1) yX10_layBack cX10_layBack 5 (some .int) [rv G 312] M Q := by
  refine CtI.mk (by decide) rfl (Nat.le_of_ble_eq_true rfl) (fun E hE hR => ?_)
  show E 0 [(0, rv G 312)] [] M
  unfold wp_M_layBack at h
  refine e_iconst (pc := 0) (v := 0) hE ki_0 dX10_layBack_0 ?_
  refine e_istore_n (pc := 1) (lv' := [(1, .int (0 : Int32)), (0, rv G 312)]) hE dX10_layBack_1 rfl (by decide) rfl ?_
  refine e_iconst (pc := 2) (v := 0) hE ki_0 dX10_layBack_2 ?_
  refine e_istore_n (pc := 3) (lv' := [(2, .int (0 : Int32)), (1, .int (0 : Int32)), (0, rv G 312)]) hE dX10_layBack_3 rfl (by decide) rfl ?_
  obtain ⟨n, h⟩ := h
  refine e_sub hE [2, 1, 0] rfl ?_
  refine w_lp_M_layBack_4 hE hR  h 
set_option maxHeartbeats 4000000 in
set_option maxRecDepth 20000 in
theorem w_M_isAhead_2 {l : Launch} {G : Gs} {d : Nat} {E : EE} {a1 : Int32} {Q : Int32 → Mm → Prop} (hE : Mach l G RX10 cX10_isAhead 3 (d + 0) E) (hR : RtZ cX10_isAhead E Q)   {KB : Int32 → Mm → Prop} {K28 : Int32 → Mm → Prop} {v2 : Int32} {M : Mm} (h : k_M_isAhead_2 a1 Q KB K28 v2 M) (hKB : ∀ (v2 : Int32)  (M : Mm), KB v2 M → E 2 [(0, rv G 312), (1, .int a1), (2, .int v2)] [] M) (hK28 : ∀ (v2 : Int32)  (M : Mm), K28 v2 M → E 28 [(0, rv G 312), (1, .int a1), (2, .int v2)] [] M) : E 2 [(0, rv G 312), (1, .int a1), (2, .int v2)] [] M := by
  unfold k_M_isAhead_2 at h
  refine e_iload_n (pc := 2) hE rfl 2 rfl dX10_isAhead_2 ?_
  refine e_iload_n (pc := 3) hE rfl 1 rfl dX10_isAhead_3 ?_
  refine e_icmp_ge (pc := 4) hE 28 dX10_isAhead_4 (by decide) (fun c0 => ?_) (fun c0 => ?_)
  · have h := h.1 c0
    exact hK28 _ _ h
  · have h := h.2 c0
    refine e_aload_n (pc := 7) hE rfl 0 rfl dX10_isAhead_7 ?_
    refine g_Md_loose (pc := 8) hE tw_1038 dX10_isAhead_8 ?_
    refine e_iload_n (pc := 11) hE rfl 2 rfl dX10_isAhead_11 ?_
    refine e_iald (pc := 12) hE ar_337 h.1 dX10_isAhead_12 ?_
    have h := h.2
    refine e_aload_n (pc := 13) hE rfl 0 rfl dX10_isAhead_13 ?_
    refine g_Md_bestLoose (pc := 14) hE tw_1039 dX10_isAhead_14 ?_
    refine e_iload_n (pc := 17) hE rfl 2 rfl dX10_isAhead_17 ?_
    refine e_iald (pc := 18) hE ar_338 h.1 dX10_isAhead_18 ?_
    have h := h.2
    refine e_icmp_ne (pc := 19) hE 28 dX10_isAhead_19 (by decide) (fun c0 => ?_) (fun c0 => ?_)
    · have h := h.1 c0
      exact hK28 _ _ h
    · have h := h.2 c0
      obtain ⟨x22, ex22⟩ : ∃ y : Int32, y = v2 + (1 : Int32) := ⟨_, rfl⟩
      have h := h x22 ex22
      refine e_iinc (pc := 22) (k := 2) (v := x22) (lv' := [(2, .int x22), (0, rv G 312), (1, .int a1)]) hE dX10_isAhead_22 rfl (by rw [ex22, ki_1]) (by decide) rfl ?_
      refine e_goto (pc := 25) hE 2 dX10_isAhead_25 (by decide) ?_
      refine e_sub hE [1, 2, 0] rfl ?_
      exact hKB _ _ h
set_option maxHeartbeats 4000000 in
set_option maxRecDepth 20000 in
theorem w_lp_M_isAhead_2 {l : Launch} {G : Gs} {d : Nat} {E : EE} {a1 : Int32} {Q : Int32 → Mm → Prop} (hE : Mach l G RX10 cX10_isAhead 3 (d + 0) E) (hR : RtZ cX10_isAhead E Q)   {K28 : Int32 → Mm → Prop} {n : Nat} {v2 : Int32} {M : Mm} (h : lp_M_isAhead_2 a1 Q K28 n v2 M) (hK28 : ∀ (v2 : Int32)  (M : Mm), K28 v2 M → E 28 [(0, rv G 312), (1, .int a1), (2, .int v2)] [] M) : E 2 [(0, rv G 312), (1, .int a1), (2, .int v2)] [] M := by
  have key : ∀ (n : Nat) (v2 : Int32) (M : Mm), lp_M_isAhead_2 a1 Q K28 n v2 M → E 2 [(0, rv G 312), (1, .int a1), (2, .int v2)] [] M := by
    intro n
    induction n with
    | zero => intro v2 M h; exact h.elim
    | succ n ih => intro v2 M h; exact w_M_isAhead_2 hE hR  (show k_M_isAhead_2 a1 Q (lp_M_isAhead_2 a1 Q K28 n) K28 v2 M from h) ih hK28
  exact key n _ _ h
set_option maxHeartbeats 4000000 in
set_option maxRecDepth 20000 in
theorem w_M_isAhead_28 {l : Launch} {G : Gs} {d : Nat} {E : EE} {a1 : Int32} {Q : Int32 → Mm → Prop} (hE : Mach l G RX10 cX10_isAhead 3 (d + 0) E) (hR : RtZ cX10_isAhead E Q)    {v2 : Int32} {M : Mm} (h : k_M_isAhead_28 a1 Q v2 M)  : E 28 [(0, rv G 312), (1, .int a1), (2, .int v2)] [] M := by
  unfold k_M_isAhead_28 at h
  refine e_iload_n (pc := 28) hE rfl 2 rfl dX10_isAhead_28 ?_
  refine e_iload_n (pc := 29) hE rfl 1 rfl dX10_isAhead_29 ?_
  refine e_icmp_ge (pc := 30) hE 52 dX10_isAhead_30 (by decide) (fun c0 => ?_) (fun c0 => ?_)
  · have h := h.1 c0
    refine e_iconst (pc := 52) (v := 0) hE ki_0 dX10_isAhead_52 ?_
    exact hR dX10_isAhead_53 (Or.inl rfl) h
  · have h := h.2 c0
    refine e_aload_n (pc := 33) hE rfl 0 rfl dX10_isAhead_33 ?_
    refine g_Md_loose (pc := 34) hE tw_1038 dX10_isAhead_34 ?_
    refine e_iload_n (pc := 37) hE rfl 2 rfl dX10_isAhead_37 ?_
    refine e_iald (pc := 38) hE ar_337 h.1 dX10_isAhead_38 ?_
    have h := h.2
    refine e_aload_n (pc := 39) hE rfl 0 rfl dX10_isAhead_39 ?_
    refine g_Md_bestLoose (pc := 40) hE tw_1039 dX10_isAhead_40 ?_
    refine e_iload_n (pc := 43) hE rfl 2 rfl dX10_isAhead_43 ?_
    refine e_iald (pc := 44) hE ar_338 h.1 dX10_isAhead_44 ?_
    have h := h.2
    refine e_icmp_ge (pc := 45) hE 52 dX10_isAhead_45 (by decide) (fun c0 => ?_) (fun c0 => ?_)
    · have h := h.1 c0
      refine e_iconst (pc := 52) (v := 0) hE ki_0 dX10_isAhead_52 ?_
      exact hR dX10_isAhead_53 (Or.inl rfl) h
    · have h := h.2 c0
      refine e_iconst (pc := 48) (v := 1) hE ki_1 dX10_isAhead_48 ?_
      refine e_goto (pc := 49) hE 53 dX10_isAhead_49 (by decide) ?_
      exact hR dX10_isAhead_53 (Or.inr rfl) h
set_option maxHeartbeats 4000000 in
set_option maxRecDepth 20000 in
theorem t_M_isAhead {l : Launch} {G : Gs} {d : Nat} {a1 : Int32} {M : Mm} {Q : Int32 → Mm → Prop}  (h : wp_M_isAhead a1 M Q) : CtI l G (d + 0) yX10_isAhead cX10_isAhead 3 (some .boolean) [rv G 312, .int a1] M Q := by
  refine CtI.mkZ (by decide) rfl (Nat.le_of_ble_eq_true rfl) (fun E hE hR => ?_)
  show E 0 [(0, rv G 312), (1, .int a1)] [] M
  unfold wp_M_isAhead at h
  refine e_iconst (pc := 0) (v := 0) hE ki_0 dX10_isAhead_0 ?_
  refine e_istore_n (pc := 1) (lv' := [(2, .int (0 : Int32)), (0, rv G 312), (1, .int a1)]) hE dX10_isAhead_1 rfl (by decide) rfl ?_
  obtain ⟨n, h⟩ := h
  refine e_sub hE [1, 2, 0] rfl ?_
  refine w_lp_M_isAhead_2 hE hR  h (fun v2 M h => ?_)
  exact w_M_isAhead_28 hE hR h
set_option maxHeartbeats 4000000 in
set_option maxRecDepth 20000 in
theorem w_M_layOrders_109 {l : Launch} {G : Gs} {d : Nat} {E : EE} {RC : Int32 → Int32 → Mm → (Mm → Prop) → Prop} {a1 : Int32} {a2 : Int32} {Q : Mm → Prop} (hE : Mach l G RX10 cX10_layOrders 5 (d + 2) E) (hR : RtV cX10_layOrders E Q) (hRC : ∀ {a1 : Int32} {a2 : Int32} {M : Mm} {Q : Mm → Prop}, RC a1 a2 M Q → CtV l G (d + 1) yX10_layOrders cX10_layOrders 5 (none) [rv G 312, .int a1, .int a2] M Q)   {KB : Int32 → Mm → Prop} {v3 : Int32} {M : Mm} (h : k_M_layOrders_109 RC a1 a2 Q KB v3 M) (hKB : ∀ (v3 : Int32)  (M : Mm), KB v3 M → E 74 [(0, rv G 312), (1, .int a1), (2, .int a2), (3, .int v3)] [] M) : E 109 [(0, rv G 312), (1, .int a1), (2, .int a2), (3, .int v3)] [] M := by
  unfold k_M_layOrders_109 at h
  obtain ⟨x109, ex109⟩ : ∃ y : Int32, y = v3 + (1 : Int32) := ⟨_, rfl⟩
  have h := h x109 ex109
  refine e_iinc (pc := 109) (k := 3) (v := x109) (lv' := [(3, .int x109), (0, rv G 312), (1, .int a1), (2, .int a2)]) hE dX10_layOrders_109 rfl (by rw [ex109, ki_1]) (by decide) rfl ?_
  refine e_goto (pc := 112) hE 74 dX10_layOrders_112 (by decide) ?_
  refine e_sub hE [1, 2, 3, 0] rfl ?_
  exact hKB _ _ h
set_option maxHeartbeats 4000000 in
set_option maxRecDepth 20000 in
theorem w_M_layOrders_74 {l : Launch} {G : Gs} {d : Nat} {E : EE} {RC : Int32 → Int32 → Mm → (Mm → Prop) → Prop} {a1 : Int32} {a2 : Int32} {Q : Mm → Prop} (hE : Mach l G RX10 cX10_layOrders 5 (d + 2) E) (hR : RtV cX10_layOrders E Q) (hRC : ∀ {a1 : Int32} {a2 : Int32} {M : Mm} {Q : Mm → Prop}, RC a1 a2 M Q → CtV l G (d + 1) yX10_layOrders cX10_layOrders 5 (none) [rv G 312, .int a1, .int a2] M Q)   {KB : Int32 → Mm → Prop} {v3 : Int32} {M : Mm} (h : k_M_layOrders_74 RC a1 a2 Q KB v3 M) (hKB : ∀ (v3 : Int32)  (M : Mm), KB v3 M → E 74 [(0, rv G 312), (1, .int a1), (2, .int a2), (3, .int v3)] [] M) : E 74 [(0, rv G 312), (1, .int a1), (2, .int a2), (3, .int v3)] [] M := by
  unfold k_M_layOrders_74 at h
  refine e_iload_n (pc := 74) hE rfl 3 rfl dX10_layOrders_74 ?_
  refine e_aload_n (pc := 75) hE rfl 0 rfl dX10_layOrders_75 ?_
  refine g_Md_n (pc := 76) hE tw_1009 dX10_layOrders_76 ?_
  refine e_icmp_ge (pc := 79) hE 115 dX10_layOrders_79 (by decide) (fun c0 => ?_) (fun c0 => ?_)
  · have h := h.1 c0
    exact hR dX10_layOrders_115 h
  · have h := h.2 c0
    refine e_iload_n (pc := 82) hE rfl 2 rfl dX10_layOrders_82 ?_
    refine e_iload_n (pc := 83) hE rfl 3 rfl dX10_layOrders_83 ?_
    refine c_M_has (pc := 84) (d := d + 1 + 0) hE (t_M_has (d := d + 1)  h) tw_1235 (Nat.le_of_ble_eq_true rfl) dX10_layOrders_84 (fun r84 M84 h => ?_)
    refine e_if_ne (pc := 87) hE 109 dX10_layOrders_87 (by decide) (fun c0 => ?_) (fun c0 => ?_)
    · have h := h.1 c0
      exact w_M_layOrders_109 hE hR hRC h hKB
    · have h := h.2 c0
      refine e_aload_n (pc := 90) hE rfl 0 rfl dX10_layOrders_90 ?_
      refine g_Md_order (pc := 91) hE tw_1040 dX10_layOrders_91 ?_
      refine e_iload_n (pc := 94) hE rfl 1 rfl dX10_layOrders_94 ?_
      refine e_iload_n (pc := 95) hE rfl 3 rfl dX10_layOrders_95 ?_
      refine e_iast (pc := 96) hE ar_339 h.1 dX10_layOrders_96 ?_
      have h := h.2
      refine e_aload_n (pc := 97) hE rfl 0 rfl dX10_layOrders_97 ?_
      refine e_iload_n (pc := 98) hE rfl 1 rfl dX10_layOrders_98 ?_
      refine e_iconst (pc := 99) (v := 1) hE ki_1 dX10_layOrders_99 ?_
      refine e_iadd (pc := 100) hE dX10_layOrders_100 ?_
      refine e_iload_n (pc := 101) hE rfl 2 rfl dX10_layOrders_101 ?_
      refine e_iconst (pc := 102) (v := 1) hE ki_1 dX10_layOrders_102 ?_
      refine e_iload_n (pc := 103) hE rfl 3 rfl dX10_layOrders_103 ?_
      refine e_ishl (pc := 104) hE dX10_layOrders_104 ?_
      refine e_ior (pc := 105) hE dX10_layOrders_105 ?_
      refine c_M_layOrders (pc := 106) (d := d + 1) hE (hRC h) tw_1458 (Nat.le_of_ble_eq_true rfl) dX10_layOrders_106 (fun M106 h => ?_)
      exact w_M_layOrders_109 hE hR hRC h hKB
set_option maxHeartbeats 4000000 in
set_option maxRecDepth 20000 in
theorem w_lp_M_layOrders_74 {l : Launch} {G : Gs} {d : Nat} {E : EE} {RC : Int32 → Int32 → Mm → (Mm → Prop) → Prop} {a1 : Int32} {a2 : Int32} {Q : Mm → Prop} (hE : Mach l G RX10 cX10_layOrders 5 (d + 2) E) (hR : RtV cX10_layOrders E Q) (hRC : ∀ {a1 : Int32} {a2 : Int32} {M : Mm} {Q : Mm → Prop}, RC a1 a2 M Q → CtV l G (d + 1) yX10_layOrders cX10_layOrders 5 (none) [rv G 312, .int a1, .int a2] M Q)    {n : Nat} {v3 : Int32} {M : Mm} (h : lp_M_layOrders_74 RC a1 a2 Q n v3 M)  : E 74 [(0, rv G 312), (1, .int a1), (2, .int a2), (3, .int v3)] [] M := by
  have key : ∀ (n : Nat) (v3 : Int32) (M : Mm), lp_M_layOrders_74 RC a1 a2 Q n v3 M → E 74 [(0, rv G 312), (1, .int a1), (2, .int a2), (3, .int v3)] [] M := by
    intro n
    induction n with
    | zero => intro v3 M h; exact h.elim
    | succ n ih => intro v3 M h; exact w_M_layOrders_74 hE hR hRC (show k_M_layOrders_74 RC a1 a2 Q (lp_M_layOrders_74 RC a1 a2 Q n)  v3 M from h) ih 
  exact key n _ _ h
set_option maxHeartbeats 4000000 in
set_option maxRecDepth 20000 in
theorem w_M_layOrders_45 {l : Launch} {G : Gs} {d : Nat} {E : EE} {RC : Int32 → Int32 → Mm → (Mm → Prop) → Prop} {a1 : Int32} {a2 : Int32} {Q : Mm → Prop} (hE : Mach l G RX10 cX10_layOrders 5 (d + 2) E) (hR : RtV cX10_layOrders E Q) (hRC : ∀ {a1 : Int32} {a2 : Int32} {M : Mm} {Q : Mm → Prop}, RC a1 a2 M Q → CtV l G (d + 1) yX10_layOrders cX10_layOrders 5 (none) [rv G 312, .int a1, .int a2] M Q)   {KB : Int32 → Int32 → Mm → Prop} {v3 : Int32} {v4 : Int32} {M : Mm} (h : k_M_layOrders_45 RC a1 a2 Q KB v3 v4 M) (hKB : ∀ (v3 : Int32) (v4 : Int32)  (M : Mm), KB v3 v4 M → E 45 [(0, rv G 312), (3, .int v3), (4, .int v4)] [] M) : E 45 [(0, rv G 312), (3, .int v3), (4, .int v4)] [] M := by
  unfold k_M_layOrders_45 at h
  refine e_iload (pc := 45) hE 2 rfl dX10_layOrders_45 ?_
  refine e_iload_n (pc := 47) hE rfl 1 rfl dX10_layOrders_47 ?_
  refine e_icmp_ge (pc := 48) hE 71 dX10_layOrders_48 (by decide) (fun c0 => ?_) (fun c0 => ?_)
  · have h := h.1 c0
    exact hR dX10_layOrders_71 h
  · have h := h.2 c0
    refine e_aload_n (pc := 51) hE rfl 0 rfl dX10_layOrders_51 ?_
    refine g_Md_bestLoose (pc := 52) hE tw_1039 dX10_layOrders_52 ?_
    refine e_iload (pc := 55) hE 2 rfl dX10_layOrders_55 ?_
    refine e_aload_n (pc := 57) hE rfl 0 rfl dX10_layOrders_57 ?_
    refine g_Md_loose (pc := 58) hE tw_1038 dX10_layOrders_58 ?_
    refine e_iload (pc := 61) hE 2 rfl dX10_layOrders_61 ?_
    refine e_iald (pc := 63) hE ar_337 h.1 dX10_layOrders_63 ?_
    have h := h.2
    refine e_topi (fun x64 ex64 => ?_)
    have h := h x64 ex64
    refine e_iast (pc := 64) hE ar_338 h.1 dX10_layOrders_64 ?_
    have h := h.2
    obtain ⟨x65, ex65⟩ : ∃ y : Int32, y = v4 + (1 : Int32) := ⟨_, rfl⟩
    have h := h x65 ex65
    refine e_iinc (pc := 65) (k := 2) (v := x65) (lv' := [(4, .int x65), (0, rv G 312), (3, .int v3)]) hE dX10_layOrders_65 rfl (by rw [ex65, ki_1]) (by decide) rfl ?_
    refine e_goto (pc := 68) hE 45 dX10_layOrders_68 (by decide) ?_
    refine e_sub hE [1, 2, 0] rfl ?_
    exact hKB _ _ _ h
set_option maxHeartbeats 4000000 in
set_option maxRecDepth 20000 in
theorem w_lp_M_layOrders_45 {l : Launch} {G : Gs} {d : Nat} {E : EE} {RC : Int32 → Int32 → Mm → (Mm → Prop) → Prop} {a1 : Int32} {a2 : Int32} {Q : Mm → Prop} (hE : Mach l G RX10 cX10_layOrders 5 (d + 2) E) (hR : RtV cX10_layOrders E Q) (hRC : ∀ {a1 : Int32} {a2 : Int32} {M : Mm} {Q : Mm → Prop}, RC a1 a2 M Q → CtV l G (d + 1) yX10_layOrders cX10_layOrders 5 (none) [rv G 312, .int a1, .int a2] M Q)    {n : Nat} {v3 : Int32} {v4 : Int32} {M : Mm} (h : lp_M_layOrders_45 RC a1 a2 Q n v3 v4 M)  : E 45 [(0, rv G 312), (3, .int v3), (4, .int v4)] [] M := by
  have key : ∀ (n : Nat) (v3 : Int32) (v4 : Int32) (M : Mm), lp_M_layOrders_45 RC a1 a2 Q n v3 v4 M → E 45 [(0, rv G 312), (3, .int v3), (4, .int v4)] [] M := by
    intro n
    induction n with
    | zero => intro v3 v4 M h; exact h.elim
    | succ n ih => intro v3 v4 M h; exact w_M_layOrders_45 hE hR hRC (show k_M_layOrders_45 RC a1 a2 Q (lp_M_layOrders_45 RC a1 a2 Q n)  v3 v4 M from h) ih 
  exact key n _ _ _ h
set_option maxHeartbeats 4000000 in
set_option maxRecDepth 20000 in
theorem w_M_layOrders_37 {l : Launch} {G : Gs} {d : Nat} {E : EE} {RC : Int32 → Int32 → Mm → (Mm → Prop) → Prop} {a1 : Int32} {a2 : Int32} {Q : Mm → Prop} (hE : Mach l G RX10 cX10_layOrders 5 (d + 2) E) (hR : RtV cX10_layOrders E Q) (hRC : ∀ {a1 : Int32} {a2 : Int32} {M : Mm} {Q : Mm → Prop}, RC a1 a2 M Q → CtV l G (d + 1) yX10_layOrders cX10_layOrders 5 (none) [rv G 312, .int a1, .int a2] M Q)    {v3 : Int32} {M : Mm} (h : k_M_layOrders_37 RC a1 a2 Q v3 M)  : E 37 [(0, rv G 312), (3, .int v3)] [] M := by
  unfold k_M_layOrders_37 at h
  refine e_aload_n (pc := 37) hE rfl 0 rfl dX10_layOrders_37 ?_
  refine e_iload_n (pc := 38) hE rfl 1 rfl dX10_layOrders_38 ?_
  refine p_Md_leastLoose (pc := 39) hE tw_1041 dX10_layOrders_39 ?_
  refine e_iconst (pc := 42) (v := 0) hE ki_0 dX10_layOrders_42 ?_
  refine e_istore (pc := 43) (lv' := [(4, .int (0 : Int32)), (0, rv G 312), (3, .int v3)]) hE dX10_layOrders_43 (by decide) rfl ?_
  obtain ⟨n, h⟩ := h
  refine e_sub hE [1, 2, 0] rfl ?_
  refine w_lp_M_layOrders_45 hE hR hRC h 
set_option maxHeartbeats 4000000 in
set_option maxRecDepth 20000 in
theorem tB_M_layOrders {l : Launch} {G : Gs} {d : Nat} {RC : Int32 → Int32 → Mm → (Mm → Prop) → Prop} {a1 : Int32} {a2 : Int32} {M : Mm} {Q : Mm → Prop} (hRC : ∀ {a1 : Int32} {a2 : Int32} {M : Mm} {Q : Mm → Prop}, RC a1 a2 M Q → CtV l G (d + 1) yX10_layOrders cX10_layOrders 5 (none) [rv G 312, .int a1, .int a2] M Q) (h : wpB_M_layOrders RC a1 a2 M Q) : CtV l G (d + 2) yX10_layOrders cX10_layOrders 5 (none) [rv G 312, .int a1, .int a2] M Q := by
  refine CtV.mk (by decide) rfl (Nat.le_of_ble_eq_true rfl) (fun E hE hR => ?_)
  show E 0 [(0, rv G 312), (1, .int a1), (2, .int a2)] [] M
  unfold wpB_M_layOrders at h
  refine e_iload_n (pc := 0) hE rfl 1 rfl dX10_layOrders_0 ?_
  refine e_aload_n (pc := 1) hE rfl 0 rfl dX10_layOrders_1 ?_
  refine g_Md_n (pc := 2) hE tw_1009 dX10_layOrders_2 ?_
  refine e_icmp_ne (pc := 5) hE 72 dX10_layOrders_5 (by decide) (fun c0 => ?_) (fun c0 => ?_)
  · have h := h.1 c0
    refine e_iconst (pc := 72) (v := 0) hE ki_0 dX10_layOrders_72 ?_
    refine e_istore_n (pc := 73) (lv' := [(3, .int (0 : Int32)), (0, rv G 312), (1, .int a1), (2, .int a2)]) hE dX10_layOrders_73 rfl (by decide) rfl ?_
    obtain ⟨n, h⟩ := h
    refine e_sub hE [1, 2, 3, 0] rfl ?_
    refine w_lp_M_layOrders_74 hE hR hRC h 
  · have h := h.2 c0
    refine e_aload_n (pc := 8) hE rfl 0 rfl dX10_layOrders_8 ?_
    refine c_M_layBack (pc := 9) (d := d + 1) hE (t_M_layBack (d := d)  h) tw_1462 (Nat.le_of_ble_eq_true rfl) dX10_layOrders_9 (fun r9 M9 h => ?_)
    refine e_istore_n (pc := 12) (lv' := [(3, .int r9), (0, rv G 312), (1, .int a1), (2, .int a2)]) hE dX10_layOrders_12 rfl (by decide) rfl ?_
    refine e_iload_n (pc := 13) hE rfl 0 rfl dX10_layOrders_13 ?_
    refine e_aload_n (pc := 14) hE rfl 1 rfl dX10_layOrders_14 ?_
    refine g_Md_leastLoose (pc := 15) hE tw_1041 dX10_layOrders_15 ?_
    refine e_icmp_lt (pc := 18) hE 37 dX10_layOrders_18 (by decide) (fun c0 => ?_) (fun c0 => ?_)
    · have h := h.1 c0
      refine e_sub hE [1, 0] rfl ?_
      exact w_M_layOrders_37 hE hR hRC h
    · have h := h.2 c0
      refine e_iload_n (pc := 21) hE rfl 0 rfl dX10_layOrders_21 ?_
      refine e_aload_n (pc := 22) hE rfl 1 rfl dX10_layOrders_22 ?_
      refine g_Md_leastLoose (pc := 23) hE tw_1041 dX10_layOrders_23 ?_
      refine e_icmp_ne (pc := 26) hE 71 dX10_layOrders_26 (by decide) (fun c0 => ?_) (fun c0 => ?_)
      · have h := h.1 c0
        exact hR dX10_layOrders_71 h
      · have h := h.2 c0
        refine e_aload_n (pc := 29) hE rfl 1 rfl dX10_layOrders_29 ?_
        refine e_iload_n (pc := 30) hE rfl 0 rfl dX10_layOrders_30 ?_
        refine c_M_isAhead (pc := 31) (d := d + 1 + 0) hE (t_M_isAhead (d := d + 1)  h) tw_1466 (Nat.le_of_ble_eq_true rfl) dX10_layOrders_31 (fun r31 M31 h => ?_)
        refine e_if_eq (pc := 34) hE 71 dX10_layOrders_34 (by decide) (fun c0 => ?_) (fun c0 => ?_)
        · have h := h.1 c0
          exact hR dX10_layOrders_71 h
        · have h := h.2 c0
          refine e_sub hE [1, 0] rfl ?_
          exact w_M_layOrders_37 hE hR hRC h
theorem t_M_layOrders {l : Launch} {G : Gs} : ∀ {n d : Nat} {a1 : Int32} {a2 : Int32} {M : Mm} {Q : Mm → Prop}, wp_M_layOrders n a1 a2 M Q → CtV l G (d + 2 + n) yX10_layOrders cX10_layOrders 5 (none) [rv G 312, .int a1, .int a2] M Q := by
  intro n
  induction n with
  | zero => intro d a1 a2 M Q h; exact h.elim
  | succ n ih => intro d a1 a2 M Q h; exact cast (by rw [show d + n + 1 + 2 = d + 2 + (n + 1) by omega]) (tB_M_layOrders (d := d + n + 1) (RC := wp_M_layOrders n) (fun {a1 a2 M Q} h => cast (by rw [show d + 2 + n = d + n + 1 + 1 by omega]) (ih (d := d) h)) h)
set_option maxHeartbeats 4000000 in
set_option maxRecDepth 20000 in
theorem t_M_loosen {l : Launch} {G : Gs} {d : Nat} {a1 : Int32} {M : Mm} {Q : Int32 → Mm → Prop}  (h : wp_M_loosen a1 M Q) : CtI l G (d + 11) yX10_loosen cX10_loosen 2 (some .int) [rv G 312, .int a1] M Q := by
  refine CtI.mk (by decide) rfl (Nat.le_of_ble_eq_true rfl) (fun E hE hR => ?_)
  show E 0 [(0, rv G 312), (1, .int a1)] [] M
  unfold wp_M_loosen at h
  refine e_iload_n (pc := 0) hE rfl 1 rfl dX10_loosen_0 ?_
  refine c_M_isRow (pc := 1) (d := d + 9 + 1) hE (t_M_isRow (d := d + 9)  h) tw_1161 (Nat.le_of_ble_eq_true rfl) dX10_loosen_1 (fun r1 M1 h => ?_)
  refine e_if_ne (pc := 4) hE 9 dX10_loosen_4 (by decide) (fun c0 => ?_) (fun c0 => ?_)
  · have h := h.1 c0
    refine e_aload_n (pc := 9) hE rfl 0 rfl dX10_loosen_9 ?_
    refine e_bipush (pc := 10) (v := 100) hE kb_100 dX10_loosen_10 ?_
    refine p_Md_leastLoose (pc := 12) hE tw_1041 dX10_loosen_12 ?_
    refine e_aload_n (pc := 15) hE rfl 0 rfl dX10_loosen_15 ?_
    refine e_iconst (pc := 16) (v := 0) hE ki_0 dX10_loosen_16 ?_
    refine e_iconst (pc := 17) (v := 0) hE ki_0 dX10_loosen_17 ?_
    refine c_M_layOrders (pc := 18) (d := d + 2 + 8) hE (t_M_layOrders (d := d)  h) tw_1458 (Nat.le_of_ble_eq_true rfl) dX10_loosen_18 (fun M18 h => ?_)
    refine e_aload_n (pc := 21) hE rfl 0 rfl dX10_loosen_21 ?_
    refine e_iload_n (pc := 22) hE rfl 1 rfl dX10_loosen_22 ?_
    refine e_aload_n (pc := 23) hE rfl 0 rfl dX10_loosen_23 ?_
    refine g_Md_bestLoose (pc := 24) hE tw_1039 dX10_loosen_24 ?_
    refine e_aload_n (pc := 27) hE rfl 0 rfl dX10_loosen_27 ?_
    refine g_Md_leastLoose (pc := 28) hE tw_1041 dX10_loosen_28 ?_
    refine c_M_layRow (pc := 31) (d := d + 10 + 0) hE (t_M_layRow (d := d + 10) ar_338 h) tw_1398 (Nat.le_of_ble_eq_true rfl) dX10_loosen_31 (fun M31 h => ?_)
    refine e_aload_n (pc := 34) hE rfl 0 rfl dX10_loosen_34 ?_
    refine g_Md_leastLoose (pc := 35) hE tw_1041 dX10_loosen_35 ?_
    exact hR dX10_loosen_38 h
  · have h := h.2 c0
    refine e_iconst (pc := 7) (v := -1) hE ki_m1 dX10_loosen_7 ?_
    exact hR dX10_loosen_8 h
set_option maxHeartbeats 4000000 in
set_option maxRecDepth 20000 in
theorem w_M_eels_61 {l : Launch} {G : Gs} {d : Nat} {E : EE} {a1 : Int32} {a2 : Int32} {Q : Int32 → Mm → Prop} (hE : Mach l G RX10 cX10_eels 5 (d + 2) E) (hR : RtI cX10_eels E Q)   {KB : Int32 → Int32 → Mm → Prop} {K68 : Int32 → Mm → Prop} {v4 : Int32} {s0 : Int32} {M : Mm} (h : k_M_eels_61 a1 a2 Q KB K68 v4 s0 M) (hKB : ∀ (v3 : Int32) (v4 : Int32)  (M : Mm), KB v3 v4 M → E 32 [(0, rv G 312), (1, .int a1), (2, .int a2), (3, .int v3), (4, .int v4)] [] M) (hK68 : ∀ (v3 : Int32)  (M : Mm), K68 v3 M → E 68 [(1, .int a1), (2, .int a2), (3, .int v3)] [] M) : E 61 [(0, rv G 312), (1, .int a1), (2, .int a2), (4, .int v4)] [.int s0] M := by
  unfold k_M_eels_61 at h
  refine e_istore_n (pc := 61) (lv' := [(3, .int s0), (0, rv G 312), (1, .int a1), (2, .int a2), (4, .int v4)]) hE dX10_eels_61 rfl (by decide) rfl ?_
  obtain ⟨x62, ex62⟩ : ∃ y : Int32, y = v4 + (1 : Int32) := ⟨_, rfl⟩
  have h := h x62 ex62
  refine e_iinc (pc := 62) (k := 4) (v := x62) (lv' := [(4, .int x62), (3, .int s0), (0, rv G 312), (1, .int a1), (2, .int a2)]) hE dX10_eels_62 rfl (by rw [ex62, ki_1]) (by decide) rfl ?_
  refine e_goto (pc := 65) hE 32 dX10_eels_65 (by decide) ?_
  refine e_sub hE [2, 3, 4, 1, 0] rfl ?_
  exact hKB _ _ _ h
set_option maxHeartbeats 4000000 in
set_option maxRecDepth 20000 in
theorem w_M_eels_60 {l : Launch} {G : Gs} {d : Nat} {E : EE} {a1 : Int32} {a2 : Int32} {Q : Int32 → Mm → Prop} (hE : Mach l G RX10 cX10_eels 5 (d + 2) E) (hR : RtI cX10_eels E Q)   {KB : Int32 → Int32 → Mm → Prop} {K68 : Int32 → Mm → Prop} {v4 : Int32} {M : Mm} (h : k_M_eels_60 a1 a2 Q KB K68 v4 M) (hKB : ∀ (v3 : Int32) (v4 : Int32)  (M : Mm), KB v3 v4 M → E 32 [(0, rv G 312), (1, .int a1), (2, .int a2), (3, .int v3), (4, .int v4)] [] M) (hK68 : ∀ (v3 : Int32)  (M : Mm), K68 v3 M → E 68 [(1, .int a1), (2, .int a2), (3, .int v3)] [] M) : E 60 [(0, rv G 312), (1, .int a1), (2, .int a2), (4, .int v4)] [] M := by
  unfold k_M_eels_60 at h
  refine e_iconst (pc := 60) (v := 0) hE ki_0 dX10_eels_60 ?_
  exact w_M_eels_61 hE hR h hKB hK68
set_option maxHeartbeats 4000000 in
set_option maxRecDepth 20000 in
theorem w_M_eels_32 {l : Launch} {G : Gs} {d : Nat} {E : EE} {a1 : Int32} {a2 : Int32} {Q : Int32 → Mm → Prop} (hE : Mach l G RX10 cX10_eels 5 (d + 2) E) (hR : RtI cX10_eels E Q)   {KB : Int32 → Int32 → Mm → Prop} {K68 : Int32 → Mm → Prop} {v3 : Int32} {v4 : Int32} {M : Mm} (h : k_M_eels_32 a1 a2 Q KB K68 v3 v4 M) (hKB : ∀ (v3 : Int32) (v4 : Int32)  (M : Mm), KB v3 v4 M → E 32 [(0, rv G 312), (1, .int a1), (2, .int a2), (3, .int v3), (4, .int v4)] [] M) (hK68 : ∀ (v3 : Int32)  (M : Mm), K68 v3 M → E 68 [(1, .int a1), (2, .int a2), (3, .int v3)] [] M) : E 32 [(0, rv G 312), (1, .int a1), (2, .int a2), (3, .int v3), (4, .int v4)] [] M := by
  unfold k_M_eels_32 at h
  refine e_iload (pc := 32) hE 4 rfl dX10_eels_32 ?_
  refine e_iload_n (pc := 34) hE rfl 1 rfl dX10_eels_34 ?_
  refine e_iload_n (pc := 35) hE rfl 2 rfl dX10_eels_35 ?_
  refine c_M_greater (pc := 36) (d := d + 1 + 0) hE (t_M_greater (d := d + 1)  h) tw_1285 (Nat.le_of_ble_eq_true rfl) dX10_eels_36 (fun r36 M36 h => ?_)
  refine e_icmp_gt (pc := 39) hE 68 dX10_eels_39 (by decide) (fun c0 => ?_) (fun c0 => ?_)
  · have h := h.1 c0
    refine e_sub hE [1, 2, 3] rfl ?_
    exact hK68 _ _ h
  · have h := h.2 c0
    refine e_iload_n (pc := 42) hE rfl 3 rfl dX10_eels_42 ?_
    refine e_if_eq (pc := 43) hE 60 dX10_eels_43 (by decide) (fun c0 => ?_) (fun c0 => ?_)
    · have h := h.1 c0
      refine e_sub hE [0, 1, 2, 4] rfl ?_
      exact w_M_eels_60 hE hR h hKB hK68
    · have h := h.2 c0
      refine e_aload_n (pc := 46) hE rfl 0 rfl dX10_eels_46 ?_
      refine e_iconst (pc := 47) (v := 0) hE ki_0 dX10_eels_47 ?_
      refine e_iload (pc := 48) hE 4 rfl dX10_eels_48 ?_
      refine c_M_isOpen (pc := 50) (d := d + 1 + 0) hE (t_M_isOpen (d := d + 1)  h) tw_1269 (Nat.le_of_ble_eq_true rfl) dX10_eels_50 (fun r50 M50 h => ?_)
      refine e_if_eq (pc := 53) hE 60 dX10_eels_53 (by decide) (fun c0 => ?_) (fun c0 => ?_)
      · have h := h.1 c0
        refine e_sub hE [0, 1, 2, 4] rfl ?_
        exact w_M_eels_60 hE hR h hKB hK68
      · have h := h.2 c0
        refine e_iconst (pc := 56) (v := 1) hE ki_1 dX10_eels_56 ?_
        refine e_goto (pc := 57) hE 61 dX10_eels_57 (by decide) ?_
        refine e_sub hE [0, 1, 2, 4] rfl ?_
        exact w_M_eels_61 hE hR h hKB hK68
set_option maxHeartbeats 4000000 in
set_option maxRecDepth 20000 in
theorem w_lp_M_eels_32 {l : Launch} {G : Gs} {d : Nat} {E : EE} {a1 : Int32} {a2 : Int32} {Q : Int32 → Mm → Prop} (hE : Mach l G RX10 cX10_eels 5 (d + 2) E) (hR : RtI cX10_eels E Q)   {K68 : Int32 → Mm → Prop} {n : Nat} {v3 : Int32} {v4 : Int32} {M : Mm} (h : lp_M_eels_32 a1 a2 Q K68 n v3 v4 M) (hK68 : ∀ (v3 : Int32)  (M : Mm), K68 v3 M → E 68 [(1, .int a1), (2, .int a2), (3, .int v3)] [] M) : E 32 [(0, rv G 312), (1, .int a1), (2, .int a2), (3, .int v3), (4, .int v4)] [] M := by
  have key : ∀ (n : Nat) (v3 : Int32) (v4 : Int32) (M : Mm), lp_M_eels_32 a1 a2 Q K68 n v3 v4 M → E 32 [(0, rv G 312), (1, .int a1), (2, .int a2), (3, .int v3), (4, .int v4)] [] M := by
    intro n
    induction n with
    | zero => intro v3 v4 M h; exact h.elim
    | succ n ih => intro v3 v4 M h; exact w_M_eels_32 hE hR  (show k_M_eels_32 a1 a2 Q (lp_M_eels_32 a1 a2 Q K68 n) K68 v3 v4 M from h) ih hK68
  exact key n _ _ _ h
set_option maxHeartbeats 4000000 in
set_option maxRecDepth 20000 in
theorem t_M_eels {l : Launch} {G : Gs} {d : Nat} {a1 : Int32} {a2 : Int32} {M : Mm} {Q : Int32 → Mm → Prop}  (h : wp_M_eels a1 a2 M Q) : CtI l G (d + 2) yX10_eels cX10_eels 5 (some .int) [rv G 312, .int a1, .int a2] M Q := by
  refine CtI.mk (by decide) rfl (Nat.le_of_ble_eq_true rfl) (fun E hE hR => ?_)
  show E 0 [(0, rv G 312), (1, .int a1), (2, .int a2)] [] M
  unfold wp_M_eels at h
  refine e_aload_n (pc := 0) hE rfl 0 rfl dX10_eels_0 ?_
  refine e_iload_n (pc := 1) hE rfl 1 rfl dX10_eels_1 ?_
  refine c_M_isArm (pc := 2) (d := d + 1) hE (t_M_isArm (d := d)  h) tw_1253 (Nat.le_of_ble_eq_true rfl) dX10_eels_2 (fun r2 M2 h => ?_)
  refine e_if_eq (pc := 5) hE 21 dX10_eels_5 (by decide) (fun c0 => ?_) (fun c0 => ?_)
  · have h := h.1 c0
    refine e_iconst (pc := 21) (v := -1) hE ki_m1 dX10_eels_21 ?_
    exact hR dX10_eels_22 h
  · have h := h.2 c0
    refine e_aload_n (pc := 8) hE rfl 0 rfl dX10_eels_8 ?_
    refine e_iload_n (pc := 9) hE rfl 2 rfl dX10_eels_9 ?_
    refine c_M_isArm (pc := 10) (d := d + 1) hE (t_M_isArm (d := d)  h) tw_1253 (Nat.le_of_ble_eq_true rfl) dX10_eels_10 (fun r10 M10 h => ?_)
    refine e_if_eq (pc := 13) hE 21 dX10_eels_13 (by decide) (fun c0 => ?_) (fun c0 => ?_)
    · have h := h.1 c0
      refine e_iconst (pc := 21) (v := -1) hE ki_m1 dX10_eels_21 ?_
      exact hR dX10_eels_22 h
    · have h := h.2 c0
      refine e_iload_n (pc := 16) hE rfl 1 rfl dX10_eels_16 ?_
      refine e_iload_n (pc := 17) hE rfl 2 rfl dX10_eels_17 ?_
      refine e_icmp_ne (pc := 18) hE 23 dX10_eels_18 (by decide) (fun c0 => ?_) (fun c0 => ?_)
      · have h := h.1 c0
        refine e_iconst (pc := 23) (v := 1) hE ki_1 dX10_eels_23 ?_
        refine e_istore_n (pc := 24) (lv' := [(3, .int (1 : Int32)), (0, rv G 312), (1, .int a1), (2, .int a2)]) hE dX10_eels_24 rfl (by decide) rfl ?_
        refine e_iload_n (pc := 25) hE rfl 2 rfl dX10_eels_25 ?_
        refine e_iload_n (pc := 26) hE rfl 3 rfl dX10_eels_26 ?_
        refine c_M_lesser (pc := 27) (d := d + 1 + 0) hE (t_M_lesser (d := d + 1)  h) tw_1328 (Nat.le_of_ble_eq_true rfl) dX10_eels_27 (fun r27 M27 h => ?_)
        refine e_istore (pc := 30) (lv' := [(4, .int r27), (3, .int (1 : Int32)), (0, rv G 312), (1, .int a1), (2, .int a2)]) hE dX10_eels_30 (by decide) rfl ?_
        obtain ⟨n, h⟩ := h
        refine e_sub hE [2, 3, 4, 1, 0] rfl ?_
        refine w_lp_M_eels_32 hE hR  h (fun v3 M h => ?_)
        refine e_iload_n (pc := 68) hE rfl 2 rfl dX10_eels_68 ?_
        refine e_if_eq (pc := 69) hE 88 dX10_eels_69 (by decide) (fun c0 => ?_) (fun c0 => ?_)
        · have h := h.1 c0
          refine e_bipush (pc := 88) (v := -9) hE kb_m9 dX10_eels_88 ?_
          exact hR dX10_eels_90 h
        · have h := h.2 c0
          refine e_iload_n (pc := 72) hE rfl 0 rfl dX10_eels_72 ?_
          refine e_iload_n (pc := 73) hE rfl 1 rfl dX10_eels_73 ?_
          refine c_M_greater (pc := 74) (d := d + 1 + 0) hE (t_M_greater (d := d + 1)  h) tw_1285 (Nat.le_of_ble_eq_true rfl) dX10_eels_74 (fun r74 M74 h => ?_)
          refine e_iload_n (pc := 77) hE rfl 0 rfl dX10_eels_77 ?_
          refine e_iload_n (pc := 78) hE rfl 1 rfl dX10_eels_78 ?_
          refine c_M_lesser (pc := 79) (d := d + 1 + 0) hE (t_M_lesser (d := d + 1)  h) tw_1328 (Nat.le_of_ble_eq_true rfl) dX10_eels_79 (fun r79 M79 h => ?_)
          refine e_isub (pc := 82) hE dX10_eels_82 ?_
          refine e_iconst (pc := 83) (v := 1) hE ki_1 dX10_eels_83 ?_
          refine e_isub (pc := 84) hE dX10_eels_84 ?_
          refine e_goto (pc := 85) hE 90 dX10_eels_85 (by decide) ?_
          exact hR dX10_eels_90 h
      · have h := h.2 c0
        refine e_iconst (pc := 21) (v := -1) hE ki_m1 dX10_eels_21 ?_
        exact hR dX10_eels_22 h
set_option maxHeartbeats 4000000 in
set_option maxRecDepth 20000 in
theorem w_M_part_5 {l : Launch} {G : Gs} {d : Nat} {E : EE} {a1 : Int32} {a2 : Int32} {Q : Int32 → Mm → Prop} (hE : Mach l G RX10 cX10_part 6 (d + 0) E) (hR : RtI cX10_part E Q)   {KB : Int32 → Int32 → Mm → Prop} {K26 : Int32 → Mm → Prop} {v3 : Int32} {v4 : Int32} {M : Mm} (h : k_M_part_5 a1 a2 Q KB K26 v3 v4 M) (hKB : ∀ (v3 : Int32) (v4 : Int32)  (M : Mm), KB v3 v4 M → E 5 [(0, rv G 312), (1, .int a1), (2, .int a2), (3, .int v3), (4, .int v4)] [] M) (hK26 : ∀ (v3 : Int32)  (M : Mm), K26 v3 M → E 26 [(0, rv G 312), (1, .int a1), (2, .int a2), (3, .int v3)] [] M) : E 5 [(0, rv G 312), (1, .int a1), (2, .int a2), (3, .int v3), (4, .int v4)] [] M := by
  unfold k_M_part_5 at h
  refine e_iload (pc := 5) hE 4 rfl dX10_part_5 ?_
  refine e_if_eq (pc := 7) hE 26 dX10_part_7 (by decide) (fun c0 => ?_) (fun c0 => ?_)
  · have h := h.1 c0
    refine e_sub hE [0, 1, 2, 3] rfl ?_
    exact hK26 _ _ h
  · have h := h.2 c0
    refine e_iload_n (pc := 10) hE rfl 3 rfl dX10_part_10 ?_
    refine e_iload (pc := 11) hE 4 rfl dX10_part_11 ?_
    refine e_irem (pc := 13) hE h.1 dX10_part_13 ?_
    have h := h.2
    refine e_topi (fun x14 ex14 => ?_)
    have h := h x14 ex14
    refine e_istore (pc := 14) (lv' := [(5, .int x14), (0, rv G 312), (1, .int a1), (2, .int a2), (3, .int v3), (4, .int v4)]) hE dX10_part_14 (by decide) rfl ?_
    refine e_iload (pc := 16) hE 5 rfl dX10_part_16 ?_
    refine e_istore_n (pc := 18) (lv' := [(3, .int v4), (5, .int x14), (0, rv G 312), (1, .int a1), (2, .int a2), (4, .int v4)]) hE dX10_part_18 rfl (by decide) rfl ?_
    refine e_iload (pc := 19) hE 1 rfl dX10_part_19 ?_
    refine e_istore (pc := 21) (lv' := [(4, .int x14), (3, .int v4), (5, .int x14), (0, rv G 312), (1, .int a1), (2, .int a2)]) hE dX10_part_21 (by decide) rfl ?_
    refine e_goto (pc := 23) hE 5 dX10_part_23 (by decide) ?_
    refine e_sub hE [3, 4, 5, 1, 0] rfl ?_
    exact hKB _ _ _ h
set_option maxHeartbeats 4000000 in
set_option maxRecDepth 20000 in
theorem w_lp_M_part_5 {l : Launch} {G : Gs} {d : Nat} {E : EE} {a1 : Int32} {a2 : Int32} {Q : Int32 → Mm → Prop} (hE : Mach l G RX10 cX10_part 6 (d + 0) E) (hR : RtI cX10_part E Q)   {K26 : Int32 → Mm → Prop} {n : Nat} {v3 : Int32} {v4 : Int32} {M : Mm} (h : lp_M_part_5 a1 a2 Q K26 n v3 v4 M) (hK26 : ∀ (v3 : Int32)  (M : Mm), K26 v3 M → E 26 [(0, rv G 312), (1, .int a1), (2, .int a2), (3, .int v3)] [] M) : E 5 [(0, rv G 312), (1, .int a1), (2, .int a2), (3, .int v3), (4, .int v4)] [] M := by
  have key : ∀ (n : Nat) (v3 : Int32) (v4 : Int32) (M : Mm), lp_M_part_5 a1 a2 Q K26 n v3 v4 M → E 5 [(0, rv G 312), (1, .int a1), (2, .int a2), (3, .int v3), (4, .int v4)] [] M := by
    intro n
    induction n with
    | zero => intro v3 v4 M h; exact h.elim
    | succ n ih => intro v3 v4 M h; exact w_M_part_5 hE hR  (show k_M_part_5 a1 a2 Q (lp_M_part_5 a1 a2 Q K26 n) K26 v3 v4 M from h) ih hK26
  exact key n _ _ _ h
set_option maxHeartbeats 4000000 in
set_option maxRecDepth 20000 in
theorem t_M_part {l : Launch} {G : Gs} {d : Nat} {a1 : Int32} {a2 : Int32} {M : Mm} {Q : Int32 → Mm → Prop}  (h : wp_M_part a1 a2 M Q) : CtI l G (d + 0) yX10_part cX10_part 6 (some .int) [rv G 312, .int a1, .int a2] M Q := by
  refine CtI.mk (by decide) rfl (Nat.le_of_ble_eq_true rfl) (fun E hE hR => ?_)
  show E 0 [(0, rv G 312), (1, .int a1), (2, .int a2)] [] M
  unfold wp_M_part at h
  refine e_iload_n (pc := 0) hE rfl 1 rfl dX10_part_0 ?_
  refine e_istore_n (pc := 1) (lv' := [(3, .int a1), (0, rv G 312), (1, .int a1), (2, .int a2)]) hE dX10_part_1 rfl (by decide) rfl ?_
  refine e_iload_n (pc := 2) hE rfl 3 rfl dX10_part_2 ?_
  refine e_istore (pc := 3) (lv' := [(4, .int a2), (3, .int a1), (0, rv G 312), (1, .int a1), (2, .int a2)]) hE dX10_part_3 (by decide) rfl ?_
  obtain ⟨n, h⟩ := h
  refine e_sub hE [2, 3, 4, 1, 0] rfl ?_
  refine w_lp_M_part_5 hE hR  h (fun v3 M h => ?_)
  refine e_aload_n (pc := 26) hE rfl 0 rfl dX10_part_26 ?_
  refine e_iload_n (pc := 27) hE rfl 1 rfl dX10_part_27 ?_
  refine e_iload_n (pc := 28) hE rfl 3 rfl dX10_part_28 ?_
  refine e_idiv (pc := 29) hE h.1 dX10_part_29 ?_
  have h := h.2
  refine e_i2l (pc := 30) hE dX10_part_30 ?_
  refine e_topl (fun x31 ex31 => ?_)
  have h := h x31 ex31
  refine p_Md_upper (pc := 31) hE tw_1002 dX10_part_31 ?_
  refine e_aload_n (pc := 34) hE rfl 0 rfl dX10_part_34 ?_
  refine e_iload_n (pc := 35) hE rfl 2 rfl dX10_part_35 ?_
  refine e_iload_n (pc := 36) hE rfl 3 rfl dX10_part_36 ?_
  refine e_idiv (pc := 37) hE h.1 dX10_part_37 ?_
  have h := h.2
  refine e_i2l (pc := 38) hE dX10_part_38 ?_
  refine e_topl (fun x39 ex39 => ?_)
  have h := h x39 ex39
  refine p_Md_lower (pc := 39) hE tw_1003 dX10_part_39 ?_
  refine e_iconst (pc := 42) (v := 1) hE ki_1 dX10_part_42 ?_
  exact hR dX10_part_43 h
set_option maxHeartbeats 4000000 in
set_option maxRecDepth 20000 in
theorem w_M_odds_39 {l : Launch} {G : Gs} {d : Nat} {E : EE} {a1 : Int32} {Q : Int32 → Mm → Prop} (hE : Mach l G RX10 cX10_odds 6 (d + 4) E) (hR : RtI cX10_odds E Q)   {KB : Int32 → Int32 → Mm → Prop} {K47 : Int32 → Mm → Prop} {v3 : Int32} {s0 : Int32} {s1 : Int32} {M : Mm} (h : k_M_odds_39 a1 Q KB K47 v3 s0 s1 M) (hKB : ∀ (v2 : Int32) (v3 : Int32)  (M : Mm), KB v2 v3 M → E 14 [(0, rv G 312), (1, .int a1), (2, .int v2), (3, .int v3)] [] M) (hK47 : ∀ (v2 : Int32)  (M : Mm), K47 v2 M → E 47 [(0, rv G 312), (1, .int a1), (2, .int v2)] [] M) : E 39 [(0, rv G 312), (1, .int a1), (3, .int v3)] [.int s0, .int s1] M := by
  unfold k_M_odds_39 at h
  refine e_ior (pc := 39) hE dX10_odds_39 ?_
  refine e_topi (fun x40 ex40 => ?_)
  have h := h x40 ex40
  refine e_istore_n (pc := 40) (lv' := [(2, .int x40), (0, rv G 312), (1, .int a1), (3, .int v3)]) hE dX10_odds_40 rfl (by decide) rfl ?_
  obtain ⟨x41, ex41⟩ : ∃ y : Int32, y = v3 + (1 : Int32) := ⟨_, rfl⟩
  have h := h x41 ex41
  refine e_iinc (pc := 41) (k := 3) (v := x41) (lv' := [(3, .int x41), (2, .int x40), (0, rv G 312), (1, .int a1)]) hE dX10_odds_41 rfl (by rw [ex41, ki_1]) (by decide) rfl ?_
  refine e_goto (pc := 44) hE 14 dX10_odds_44 (by decide) ?_
  refine e_sub hE [2, 3, 1, 0] rfl ?_
  exact hKB _ _ _ h
set_option maxHeartbeats 4000000 in
set_option maxRecDepth 20000 in
theorem w_M_odds_14 {l : Launch} {G : Gs} {d : Nat} {E : EE} {a1 : Int32} {Q : Int32 → Mm → Prop} (hE : Mach l G RX10 cX10_odds 6 (d + 4) E) (hR : RtI cX10_odds E Q)   {KB : Int32 → Int32 → Mm → Prop} {K47 : Int32 → Mm → Prop} {v2 : Int32} {v3 : Int32} {M : Mm} (h : k_M_odds_14 a1 Q KB K47 v2 v3 M) (hKB : ∀ (v2 : Int32) (v3 : Int32)  (M : Mm), KB v2 v3 M → E 14 [(0, rv G 312), (1, .int a1), (2, .int v2), (3, .int v3)] [] M) (hK47 : ∀ (v2 : Int32)  (M : Mm), K47 v2 M → E 47 [(0, rv G 312), (1, .int a1), (2, .int v2)] [] M) : E 14 [(0, rv G 312), (1, .int a1), (2, .int v2), (3, .int v3)] [] M := by
  unfold k_M_odds_14 at h
  refine e_iload_n (pc := 14) hE rfl 3 rfl dX10_odds_14 ?_
  refine e_aload_n (pc := 15) hE rfl 0 rfl dX10_odds_15 ?_
  refine g_Md_n (pc := 16) hE tw_1009 dX10_odds_16 ?_
  refine e_icmp_ge (pc := 19) hE 47 dX10_odds_19 (by decide) (fun c0 => ?_) (fun c0 => ?_)
  · have h := h.1 c0
    refine e_sub hE [0, 1, 2] rfl ?_
    exact hK47 _ _ h
  · have h := h.2 c0
    refine e_iload_n (pc := 22) hE rfl 2 rfl dX10_odds_22 ?_
    refine e_aload_n (pc := 23) hE rfl 0 rfl dX10_odds_23 ?_
    refine e_iconst (pc := 24) (v := 0) hE ki_0 dX10_odds_24 ?_
    refine e_iload_n (pc := 25) hE rfl 3 rfl dX10_odds_25 ?_
    refine c_M_mayBe (pc := 26) (d := d + 1 + 2) hE (t_M_mayBe (d := d + 1)  h) tw_1261 (Nat.le_of_ble_eq_true rfl) dX10_odds_26 (fun r26 M26 h => ?_)
    refine e_if_eq (pc := 29) hE 38 dX10_odds_29 (by decide) (fun c0 => ?_) (fun c0 => ?_)
    · have h := h.1 c0
      refine e_iconst (pc := 38) (v := 0) hE ki_0 dX10_odds_38 ?_
      refine e_sub hE [0, 1, 3] rfl ?_
      exact w_M_odds_39 hE hR h hKB hK47
    · have h := h.2 c0
      refine e_iconst (pc := 32) (v := 1) hE ki_1 dX10_odds_32 ?_
      refine e_iload_n (pc := 33) hE rfl 3 rfl dX10_odds_33 ?_
      refine e_ishl (pc := 34) hE dX10_odds_34 ?_
      refine e_goto (pc := 35) hE 39 dX10_odds_35 (by decide) ?_
      refine e_sub hE [0, 1, 3] rfl ?_
      exact w_M_odds_39 hE hR h hKB hK47
set_option maxHeartbeats 4000000 in
set_option maxRecDepth 20000 in
theorem w_lp_M_odds_14 {l : Launch} {G : Gs} {d : Nat} {E : EE} {a1 : Int32} {Q : Int32 → Mm → Prop} (hE : Mach l G RX10 cX10_odds 6 (d + 4) E) (hR : RtI cX10_odds E Q)   {K47 : Int32 → Mm → Prop} {n : Nat} {v2 : Int32} {v3 : Int32} {M : Mm} (h : lp_M_odds_14 a1 Q K47 n v2 v3 M) (hK47 : ∀ (v2 : Int32)  (M : Mm), K47 v2 M → E 47 [(0, rv G 312), (1, .int a1), (2, .int v2)] [] M) : E 14 [(0, rv G 312), (1, .int a1), (2, .int v2), (3, .int v3)] [] M := by
  have key : ∀ (n : Nat) (v2 : Int32) (v3 : Int32) (M : Mm), lp_M_odds_14 a1 Q K47 n v2 v3 M → E 14 [(0, rv G 312), (1, .int a1), (2, .int v2), (3, .int v3)] [] M := by
    intro n
    induction n with
    | zero => intro v2 v3 M h; exact h.elim
    | succ n ih => intro v2 v3 M h; exact w_M_odds_14 hE hR  (show k_M_odds_14 a1 Q (lp_M_odds_14 a1 Q K47 n) K47 v2 v3 M from h) ih hK47
  exact key n _ _ _ h
set_option maxHeartbeats 4000000 in
set_option maxRecDepth 20000 in
theorem w_M_odds_117 {l : Launch} {G : Gs} {d : Nat} {E : EE} {a1 : Int32} {Q : Int32 → Mm → Prop} (hE : Mach l G RX10 cX10_odds 6 (d + 4) E) (hR : RtI cX10_odds E Q)   {KB : Int32 → Int32 → Int32 → Int32 → Mm → Prop} {K123 : Int32 → Int32 → Mm → Prop} {v2 : Int32} {v3 : Int32} {v4 : Int32} {v5 : Int32} {M : Mm} (h : k_M_odds_117 a1 Q KB K123 v2 v3 v4 v5 M) (hKB : ∀ (v2 : Int32) (v3 : Int32) (v4 : Int32) (v5 : Int32)  (M : Mm), KB v2 v3 v4 v5 M → E 55 [(0, rv G 312), (1, .int a1), (2, .int v2), (3, .int v3), (4, .int v4), (5, .int v5)] [] M) (hK123 : ∀ (v3 : Int32) (v4 : Int32)  (M : Mm), K123 v3 v4 M → E 123 [(0, rv G 312), (3, .int v3), (4, .int v4)] [] M) : E 117 [(0, rv G 312), (1, .int a1), (2, .int v2), (3, .int v3), (4, .int v4), (5, .int v5)] [] M := by
  unfold k_M_odds_117 at h
  obtain ⟨x117, ex117⟩ : ∃ y : Int32, y = v5 + (1 : Int32) := ⟨_, rfl⟩
  have h := h x117 ex117
  refine e_iinc (pc := 117) (k := 5) (v := x117) (lv' := [(5, .int x117), (0, rv G 312), (1, .int a1), (2, .int v2), (3, .int v3), (4, .int v4)]) hE dX10_odds_117 rfl (by rw [ex117, ki_1]) (by decide) rfl ?_
  refine e_goto (pc := 120) hE 55 dX10_odds_120 (by decide) ?_
  refine e_sub hE [1, 2, 3, 4, 5, 0] rfl ?_
  exact hKB _ _ _ _ _ h
set_option maxHeartbeats 4000000 in
set_option maxRecDepth 20000 in
theorem w_M_odds_114 {l : Launch} {G : Gs} {d : Nat} {E : EE} {a1 : Int32} {Q : Int32 → Mm → Prop} (hE : Mach l G RX10 cX10_odds 6 (d + 4) E) (hR : RtI cX10_odds E Q)   {KB : Int32 → Int32 → Int32 → Int32 → Mm → Prop} {K123 : Int32 → Int32 → Mm → Prop} {v2 : Int32} {v3 : Int32} {v5 : Int32} {s0 : Int32} {s1 : Int32} {M : Mm} (h : k_M_odds_114 a1 Q KB K123 v2 v3 v5 s0 s1 M) (hKB : ∀ (v2 : Int32) (v3 : Int32) (v4 : Int32) (v5 : Int32)  (M : Mm), KB v2 v3 v4 v5 M → E 55 [(0, rv G 312), (1, .int a1), (2, .int v2), (3, .int v3), (4, .int v4), (5, .int v5)] [] M) (hK123 : ∀ (v3 : Int32) (v4 : Int32)  (M : Mm), K123 v3 v4 M → E 123 [(0, rv G 312), (3, .int v3), (4, .int v4)] [] M) : E 114 [(0, rv G 312), (1, .int a1), (2, .int v2), (3, .int v3), (5, .int v5)] [.int s0, .int s1] M := by
  unfold k_M_odds_114 at h
  refine e_iadd (pc := 114) hE dX10_odds_114 ?_
  refine e_topi (fun x115 ex115 => ?_)
  have h := h x115 ex115
  refine e_istore (pc := 115) (lv' := [(4, .int x115), (0, rv G 312), (1, .int a1), (2, .int v2), (3, .int v3), (5, .int v5)]) hE dX10_odds_115 (by decide) rfl ?_
  refine e_sub hE [1, 2, 3, 4, 0, 5] rfl ?_
  exact w_M_odds_117 hE hR h hKB hK123
set_option maxHeartbeats 4000000 in
set_option maxRecDepth 20000 in
theorem w_M_odds_55 {l : Launch} {G : Gs} {d : Nat} {E : EE} {a1 : Int32} {Q : Int32 → Mm → Prop} (hE : Mach l G RX10 cX10_odds 6 (d + 4) E) (hR : RtI cX10_odds E Q)   {KB : Int32 → Int32 → Int32 → Int32 → Mm → Prop} {K123 : Int32 → Int32 → Mm → Prop} {v2 : Int32} {v3 : Int32} {v4 : Int32} {v5 : Int32} {M : Mm} (h : k_M_odds_55 a1 Q KB K123 v2 v3 v4 v5 M) (hKB : ∀ (v2 : Int32) (v3 : Int32) (v4 : Int32) (v5 : Int32)  (M : Mm), KB v2 v3 v4 v5 M → E 55 [(0, rv G 312), (1, .int a1), (2, .int v2), (3, .int v3), (4, .int v4), (5, .int v5)] [] M) (hK123 : ∀ (v3 : Int32) (v4 : Int32)  (M : Mm), K123 v3 v4 M → E 123 [(0, rv G 312), (3, .int v3), (4, .int v4)] [] M) : E 55 [(0, rv G 312), (1, .int a1), (2, .int v2), (3, .int v3), (4, .int v4), (5, .int v5)] [] M := by
  unfold k_M_odds_55 at h
  refine e_iload (pc := 55) hE 5 rfl dX10_odds_55 ?_
  refine e_aload_n (pc := 57) hE rfl 0 rfl dX10_odds_57 ?_
  refine c_M_setMany (pc := 58) (d := d + 3 + 0) hE (t_M_setMany (d := d + 3)  h) tw_1370 (Nat.le_of_ble_eq_true rfl) dX10_odds_58 (fun r58 M58 h => ?_)
  refine e_icmp_ge (pc := 61) hE 123 dX10_odds_61 (by decide) (fun c0 => ?_) (fun c0 => ?_)
  · have h := h.1 c0
    refine e_sub hE [0, 3, 4] rfl ?_
    exact hK123 _ _ _ h
  · have h := h.2 c0
    refine e_iload (pc := 64) hE 5 rfl dX10_odds_64 ?_
    refine e_iload_n (pc := 66) hE rfl 2 rfl dX10_odds_66 ?_
    refine e_iconst (pc := 67) (v := -1) hE ki_m1 dX10_odds_67 ?_
    refine e_ixor (pc := 68) hE dX10_odds_68 ?_
    refine e_iand (pc := 69) hE dX10_odds_69 ?_
    refine e_if_ne (pc := 70) hE 117 dX10_odds_70 (by decide) (fun c0 => ?_) (fun c0 => ?_)
    · have h := h.1 c0
      exact w_M_odds_117 hE hR h hKB hK123
    · have h := h.2 c0
      refine e_aload_n (pc := 73) hE rfl 0 rfl dX10_odds_73 ?_
      refine e_iconst (pc := 74) (v := 0) hE ki_0 dX10_odds_74 ?_
      refine e_iconst (pc := 75) (v := 1) hE ki_1 dX10_odds_75 ?_
      refine c_M_copyTo (pc := 76) (d := d + 3 + 0) hE (t_M_copyTo (d := d + 3)  h) tw_1374 (Nat.le_of_ble_eq_true rfl) dX10_odds_76 (fun M76 h => ?_)
      refine e_aload_n (pc := 79) hE rfl 0 rfl dX10_odds_79 ?_
      refine e_iconst (pc := 80) (v := 1) hE ki_1 dX10_odds_80 ?_
      refine e_iload (pc := 81) hE 5 rfl dX10_odds_81 ?_
      refine c_M_stampsOf (pc := 83) (d := d + 3) hE (t_M_stampsOf (d := d)  h) tw_1378 (Nat.le_of_ble_eq_true rfl) dX10_odds_83 (fun r83 M83 h => ?_)
      refine e_pop (pc := 86) hE rfl dX10_odds_86 ?_
      refine e_aload_n (pc := 87) hE rfl 0 rfl dX10_odds_87 ?_
      refine e_iconst (pc := 88) (v := 1) hE ki_1 dX10_odds_88 ?_
      refine c_M_passes (pc := 89) (d := d + 3) hE (t_M_passes (d := d)  h) tw_1324 (Nat.le_of_ble_eq_true rfl) dX10_odds_89 (fun r89 M89 h => ?_)
      refine e_pop (pc := 92) hE rfl dX10_odds_92 ?_
      obtain ⟨x93, ex93⟩ : ∃ y : Int32, y = v3 + (1 : Int32) := ⟨_, rfl⟩
      have h := h x93 ex93
      refine e_iinc (pc := 93) (k := 3) (v := x93) (lv' := [(3, .int x93), (0, rv G 312), (1, .int a1), (2, .int v2), (4, .int v4), (5, .int v5)]) hE dX10_odds_93 rfl (by rw [ex93, ki_1]) (by decide) rfl ?_
      refine e_iload (pc := 96) hE 4 rfl dX10_odds_96 ?_
      refine e_aload_n (pc := 98) hE rfl 1 rfl dX10_odds_98 ?_
      refine g_Md_inSet (pc := 99) hE tw_1025 dX10_odds_99 ?_
      refine e_iload_n (pc := 102) hE rfl 2 rfl dX10_odds_102 ?_
      refine c_M_has (pc := 103) (d := d + 3 + 0) hE (t_M_has (d := d + 3)  h) tw_1235 (Nat.le_of_ble_eq_true rfl) dX10_odds_103 (fun r103 M103 h => ?_)
      refine e_if_eq (pc := 106) hE 113 dX10_odds_106 (by decide) (fun c0 => ?_) (fun c0 => ?_)
      · have h := h.1 c0
        refine e_iconst (pc := 113) (v := 0) hE ki_0 dX10_odds_113 ?_
        refine e_sub hE [1, 2, 3, 0, 5] rfl ?_
        exact w_M_odds_114 hE hR h hKB hK123
      · have h := h.2 c0
        refine e_iconst (pc := 109) (v := 1) hE ki_1 dX10_odds_109 ?_
        refine e_goto (pc := 110) hE 114 dX10_odds_110 (by decide) ?_
        refine e_sub hE [1, 2, 3, 0, 5] rfl ?_
        exact w_M_odds_114 hE hR h hKB hK123
set_option maxHeartbeats 4000000 in
set_option maxRecDepth 20000 in
theorem w_lp_M_odds_55 {l : Launch} {G : Gs} {d : Nat} {E : EE} {a1 : Int32} {Q : Int32 → Mm → Prop} (hE : Mach l G RX10 cX10_odds 6 (d + 4) E) (hR : RtI cX10_odds E Q)   {K123 : Int32 → Int32 → Mm → Prop} {n : Nat} {v2 : Int32} {v3 : Int32} {v4 : Int32} {v5 : Int32} {M : Mm} (h : lp_M_odds_55 a1 Q K123 n v2 v3 v4 v5 M) (hK123 : ∀ (v3 : Int32) (v4 : Int32)  (M : Mm), K123 v3 v4 M → E 123 [(0, rv G 312), (3, .int v3), (4, .int v4)] [] M) : E 55 [(0, rv G 312), (1, .int a1), (2, .int v2), (3, .int v3), (4, .int v4), (5, .int v5)] [] M := by
  have key : ∀ (n : Nat) (v2 : Int32) (v3 : Int32) (v4 : Int32) (v5 : Int32) (M : Mm), lp_M_odds_55 a1 Q K123 n v2 v3 v4 v5 M → E 55 [(0, rv G 312), (1, .int a1), (2, .int v2), (3, .int v3), (4, .int v4), (5, .int v5)] [] M := by
    intro n
    induction n with
    | zero => intro v2 v3 v4 v5 M h; exact h.elim
    | succ n ih => intro v2 v3 v4 v5 M h; exact w_M_odds_55 hE hR  (show k_M_odds_55 a1 Q (lp_M_odds_55 a1 Q K123 n) K123 v2 v3 v4 v5 M from h) ih hK123
  exact key n _ _ _ _ _ h
set_option maxHeartbeats 4000000 in
set_option maxRecDepth 20000 in
theorem t_M_odds {l : Launch} {G : Gs} {d : Nat} {a1 : Int32} {M : Mm} {Q : Int32 → Mm → Prop}  (h : wp_M_odds a1 M Q) : CtI l G (d + 4) yX10_odds cX10_odds 6 (some .int) [rv G 312, .int a1] M Q := by
  refine CtI.mk (by decide) rfl (Nat.le_of_ble_eq_true rfl) (fun E hE hR => ?_)
  show E 0 [(0, rv G 312), (1, .int a1)] [] M
  unfold wp_M_odds at h
  refine e_aload_n (pc := 0) hE rfl 0 rfl dX10_odds_0 ?_
  refine e_iload_n (pc := 1) hE rfl 1 rfl dX10_odds_1 ?_
  refine c_M_isArm (pc := 2) (d := d + 2 + 1) hE (t_M_isArm (d := d + 2)  h) tw_1253 (Nat.le_of_ble_eq_true rfl) dX10_odds_2 (fun r2 M2 h => ?_)
  refine e_if_ne (pc := 5) hE 10 dX10_odds_5 (by decide) (fun c0 => ?_) (fun c0 => ?_)
  · have h := h.1 c0
    refine e_iconst (pc := 10) (v := 0) hE ki_0 dX10_odds_10 ?_
    refine e_istore_n (pc := 11) (lv' := [(2, .int (0 : Int32)), (0, rv G 312), (1, .int a1)]) hE dX10_odds_11 rfl (by decide) rfl ?_
    refine e_iconst (pc := 12) (v := 0) hE ki_0 dX10_odds_12 ?_
    refine e_istore_n (pc := 13) (lv' := [(3, .int (0 : Int32)), (2, .int (0 : Int32)), (0, rv G 312), (1, .int a1)]) hE dX10_odds_13 rfl (by decide) rfl ?_
    obtain ⟨n, h⟩ := h
    refine e_sub hE [2, 3, 1, 0] rfl ?_
    refine w_lp_M_odds_14 hE hR  h (fun v2 M h => ?_)
    refine e_iconst (pc := 47) (v := 0) hE ki_0 dX10_odds_47 ?_
    refine e_istore_n (pc := 48) (lv' := [(3, .int (0 : Int32)), (0, rv G 312), (1, .int a1), (2, .int v2)]) hE dX10_odds_48 rfl (by decide) rfl ?_
    refine e_iconst (pc := 49) (v := 0) hE ki_0 dX10_odds_49 ?_
    refine e_istore (pc := 50) (lv' := [(4, .int (0 : Int32)), (3, .int (0 : Int32)), (0, rv G 312), (1, .int a1), (2, .int v2)]) hE dX10_odds_50 (by decide) rfl ?_
    refine e_iconst (pc := 52) (v := 0) hE ki_0 dX10_odds_52 ?_
    refine e_istore (pc := 53) (lv' := [(5, .int (0 : Int32)), (4, .int (0 : Int32)), (3, .int (0 : Int32)), (0, rv G 312), (1, .int a1), (2, .int v2)]) hE dX10_odds_53 (by decide) rfl ?_
    obtain ⟨n, h⟩ := h
    refine e_sub hE [3, 4, 5, 2, 1, 0] rfl ?_
    refine w_lp_M_odds_55 hE hR  h (fun v3 v4 M h => ?_)
    refine e_aload_n (pc := 123) hE rfl 0 rfl dX10_odds_123 ?_
    refine e_iload (pc := 124) hE 2 rfl dX10_odds_124 ?_
    refine e_iload_n (pc := 126) hE rfl 1 rfl dX10_odds_126 ?_
    refine c_M_part (pc := 127) (d := d + 3 + 0) hE (t_M_part (d := d + 3)  h) tw_1478 (Nat.le_of_ble_eq_true rfl) dX10_odds_127 (fun r127 M127 h => ?_)
    exact hR dX10_odds_130 h
  · have h := h.2 c0
    refine e_iconst (pc := 8) (v := -1) hE ki_m1 dX10_odds_8 ?_
    exact hR dX10_odds_9 h
set_option maxHeartbeats 4000000 in
set_option maxRecDepth 20000 in
theorem w_M_lots_113 {l : Launch} {G : Gs} {d : Nat} {E : EE} {a1 : Int32} {a2 : Int32} {Q : Int32 → Mm → Prop} (hE : Mach l G RX10 cX10_lots 9 (d + 4) E) (hR : RtI cX10_lots E Q)   {KB : Int64 → Int32 → Int32 → Int32 → Int32 → Mm → Prop} {K119 : Int64 → Int32 → Int32 → Mm → Prop} {v3 : Int64} {v5 : Int32} {v6 : Int32} {v7 : Int32} {v8 : Int32} {M : Mm} (h : k_M_lots_113 a1 a2 Q KB K119 v3 v5 v6 v7 v8 M) (hKB : ∀ (v3 : Int64) (v5 : Int32) (v6 : Int32) (v7 : Int32) (v8 : Int32)  (M : Mm), KB v3 v5 v6 v7 v8 M → E 87 [(0, rv G 312), (1, .int a1), (3, .long v3), (5, .int v5), (6, .int v6), (7, .int v7), (8, .int v8)] [] M) (hK119 : ∀ (v3 : Int64) (v5 : Int32) (v6 : Int32)  (M : Mm), K119 v3 v5 v6 M → E 119 [(0, rv G 312), (1, .int a1), (3, .long v3), (5, .int v5), (6, .int v6)] [] M) : E 113 [(0, rv G 312), (1, .int a1), (3, .long v3), (5, .int v5), (6, .int v6), (7, .int v7), (8, .int v8)] [] M := by
  unfold k_M_lots_113 at h
  obtain ⟨x113, ex113⟩ : ∃ y : Int32, y = v8 + (1 : Int32) := ⟨_, rfl⟩
  have h := h x113 ex113
  refine e_iinc (pc := 113) (k := 6) (v := x113) (lv' := [(8, .int x113), (0, rv G 312), (1, .int a1), (3, .long v3), (5, .int v5), (6, .int v6), (7, .int v7)]) hE dX10_lots_113 rfl (by rw [ex113, ki_1]) (by decide) rfl ?_
  refine e_goto (pc := 116) hE 87 dX10_lots_116 (by decide) ?_
  refine e_sub hE [1, 2, 3, 4, 5, 6, 0] rfl ?_
  exact hKB _ _ _ _ _ _ h
set_option maxHeartbeats 4000000 in
set_option maxRecDepth 20000 in
theorem w_M_lots_87 {l : Launch} {G : Gs} {d : Nat} {E : EE} {a1 : Int32} {a2 : Int32} {Q : Int32 → Mm → Prop} (hE : Mach l G RX10 cX10_lots 9 (d + 4) E) (hR : RtI cX10_lots E Q)   {KB : Int64 → Int32 → Int32 → Int32 → Int32 → Mm → Prop} {K119 : Int64 → Int32 → Int32 → Mm → Prop} {v3 : Int64} {v5 : Int32} {v6 : Int32} {v7 : Int32} {v8 : Int32} {M : Mm} (h : k_M_lots_87 a1 a2 Q KB K119 v3 v5 v6 v7 v8 M) (hKB : ∀ (v3 : Int64) (v5 : Int32) (v6 : Int32) (v7 : Int32) (v8 : Int32)  (M : Mm), KB v3 v5 v6 v7 v8 M → E 87 [(0, rv G 312), (1, .int a1), (3, .long v3), (5, .int v5), (6, .int v6), (7, .int v7), (8, .int v8)] [] M) (hK119 : ∀ (v3 : Int64) (v5 : Int32) (v6 : Int32)  (M : Mm), K119 v3 v5 v6 M → E 119 [(0, rv G 312), (1, .int a1), (3, .long v3), (5, .int v5), (6, .int v6)] [] M) : E 87 [(0, rv G 312), (1, .int a1), (3, .long v3), (5, .int v5), (6, .int v6), (7, .int v7), (8, .int v8)] [] M := by
  unfold k_M_lots_87 at h
  refine e_iload (pc := 87) hE 6 rfl dX10_lots_87 ?_
  refine e_aload_n (pc := 89) hE rfl 0 rfl dX10_lots_89 ?_
  refine g_Md_n (pc := 90) hE tw_1009 dX10_lots_90 ?_
  refine e_icmp_ge (pc := 93) hE 119 dX10_lots_93 (by decide) (fun c0 => ?_) (fun c0 => ?_)
  · have h := h.1 c0
    refine e_sub hE [0, 1, 2, 3, 4] rfl ?_
    exact hK119 _ _ _ _ h
  · have h := h.2 c0
    refine e_iload (pc := 96) hE 5 rfl dX10_lots_96 ?_
    refine e_iload (pc := 98) hE 6 rfl dX10_lots_98 ?_
    refine c_M_has (pc := 100) (d := d + 3 + 0) hE (t_M_has (d := d + 3)  h) tw_1235 (Nat.le_of_ble_eq_true rfl) dX10_lots_100 (fun r100 M100 h => ?_)
    refine e_if_eq (pc := 103) hE 113 dX10_lots_103 (by decide) (fun c0 => ?_) (fun c0 => ?_)
    · have h := h.1 c0
      exact w_M_lots_113 hE hR h hKB hK119
    · have h := h.2 c0
      refine e_aload_n (pc := 106) hE rfl 0 rfl dX10_lots_106 ?_
      refine e_iload (pc := 107) hE 6 rfl dX10_lots_107 ?_
      refine c_M_stamp (pc := 109) (d := d + 3) hE (t_M_stamp (d := d)  h) tw_1490 (Nat.le_of_ble_eq_true rfl) dX10_lots_109 (fun r109 M109 h => ?_)
      refine e_pop (pc := 112) hE rfl dX10_lots_112 ?_
      exact w_M_lots_113 hE hR h hKB hK119
set_option maxHeartbeats 4000000 in
set_option maxRecDepth 20000 in
theorem w_lp_M_lots_87 {l : Launch} {G : Gs} {d : Nat} {E : EE} {a1 : Int32} {a2 : Int32} {Q : Int32 → Mm → Prop} (hE : Mach l G RX10 cX10_lots 9 (d + 4) E) (hR : RtI cX10_lots E Q)   {K119 : Int64 → Int32 → Int32 → Mm → Prop} {n : Nat} {v3 : Int64} {v5 : Int32} {v6 : Int32} {v7 : Int32} {v8 : Int32} {M : Mm} (h : lp_M_lots_87 a1 a2 Q K119 n v3 v5 v6 v7 v8 M) (hK119 : ∀ (v3 : Int64) (v5 : Int32) (v6 : Int32)  (M : Mm), K119 v3 v5 v6 M → E 119 [(0, rv G 312), (1, .int a1), (3, .long v3), (5, .int v5), (6, .int v6)] [] M) : E 87 [(0, rv G 312), (1, .int a1), (3, .long v3), (5, .int v5), (6, .int v6), (7, .int v7), (8, .int v8)] [] M := by
  have key : ∀ (n : Nat) (v3 : Int64) (v5 : Int32) (v6 : Int32) (v7 : Int32) (v8 : Int32) (M : Mm), lp_M_lots_87 a1 a2 Q K119 n v3 v5 v6 v7 v8 M → E 87 [(0, rv G 312), (1, .int a1), (3, .long v3), (5, .int v5), (6, .int v6), (7, .int v7), (8, .int v8)] [] M := by
    intro n
    induction n with
    | zero => intro v3 v5 v6 v7 v8 M h; exact h.elim
    | succ n ih => intro v3 v5 v6 v7 v8 M h; exact w_M_lots_87 hE hR  (show k_M_lots_87 a1 a2 Q (lp_M_lots_87 a1 a2 Q K119 n) K119 v3 v5 v6 v7 v8 M from h) ih hK119
  exact key n _ _ _ _ _ _ h
set_option maxHeartbeats 4000000 in
set_option maxRecDepth 20000 in
theorem w_M_lots_42 {l : Launch} {G : Gs} {d : Nat} {E : EE} {a1 : Int32} {a2 : Int32} {Q : Int32 → Mm → Prop} (hE : Mach l G RX10 cX10_lots 9 (d + 4) E) (hR : RtI cX10_lots E Q)   {KB : Int64 → Int32 → Int32 → Mm → Prop} {v3 : Int64} {v5 : Int32} {v6 : Int32} {M : Mm} (h : k_M_lots_42 a1 a2 Q KB v3 v5 v6 M) (hKB : ∀ (v3 : Int64) (v5 : Int32) (v6 : Int32)  (M : Mm), KB v3 v5 v6 M → E 42 [(0, rv G 312), (1, .int a1), (3, .long v3), (5, .int v5), (6, .int v6)] [] M) : E 42 [(0, rv G 312), (1, .int a1), (3, .long v3), (5, .int v5), (6, .int v6)] [] M := by
  unfold k_M_lots_42 at h
  refine e_iload (pc := 42) hE 4 rfl dX10_lots_42 ?_
  refine e_iload_n (pc := 44) hE rfl 1 rfl dX10_lots_44 ?_
  refine e_icmp_ge (pc := 45) hE 139 dX10_lots_45 (by decide) (fun c0 => ?_) (fun c0 => ?_)
  · have h := h.1 c0
    refine e_iload (pc := 139) hE 3 rfl dX10_lots_139 ?_
    exact hR dX10_lots_141 h
  · have h := h.2 c0
    refine e_aload_n (pc := 48) hE rfl 0 rfl dX10_lots_48 ?_
    refine g_Md_deedMany (pc := 49) hE tw_1027 dX10_lots_49 ?_
    refine e_bipush (pc := 52) (v := 6) hE kb_6 dX10_lots_52 ?_
    refine e_iadd (pc := 54) hE dX10_lots_54 ?_
    refine e_bipush (pc := 55) (v := 60) hE kb_60 dX10_lots_55 ?_
    refine e_icmp_gt (pc := 57) hE 139 dX10_lots_57 (by decide) (fun c0 => ?_) (fun c0 => ?_)
    · have h := h.1 c0
      refine e_iload (pc := 139) hE 3 rfl dX10_lots_139 ?_
      exact hR dX10_lots_141 h
    · have h := h.2 c0
      refine e_ldc2 (pc := 60) hE tw_1487 dX10_lots_60 ?_
      refine e_lload_n (pc := 63) hE rfl 2 rfl dX10_lots_63 ?_
      refine e_lmul (pc := 64) hE dX10_lots_64 ?_
      refine e_ldc2 (pc := 65) hE tw_1488 dX10_lots_65 ?_
      refine e_lrem (pc := 68) hE (by decide) dX10_lots_68 ?_
      refine e_topl (fun x69 ex69 => ?_)
      have h := h x69 ex69
      refine e_lstore_n (pc := 69) (lv' := [(3, .long x69), (0, rv G 312), (1, .int a1), (5, .int v5), (6, .int v6)]) hE dX10_lots_69 rfl (by decide) rfl ?_
      refine e_lload_n (pc := 70) hE rfl 0 rfl dX10_lots_70 ?_
      refine e_ldc2 (pc := 71) hE tw_1489 dX10_lots_71 ?_
      refine e_ldiv (pc := 74) hE (by decide) dX10_lots_74 ?_
      refine e_aload_n (pc := 75) hE rfl 1 rfl dX10_lots_75 ?_
      refine c_M_setMany (pc := 76) (d := d + 3 + 0) hE (t_M_setMany (d := d + 3)  h) tw_1370 (Nat.le_of_ble_eq_true rfl) dX10_lots_76 (fun r76 M76 h => ?_)
      refine e_i2l (pc := 79) hE dX10_lots_79 ?_
      refine e_lrem (pc := 80) hE h.1 dX10_lots_80 ?_
      have h := h.2
      refine e_l2i (pc := 81) hE dX10_lots_81 ?_
      refine e_topi (fun x82 ex82 => ?_)
      have h := h x82 ex82
      refine e_istore (pc := 82) (lv' := [(7, .int x82), (3, .long x69), (0, rv G 312), (1, .int a1), (5, .int v5), (6, .int v6)]) hE dX10_lots_82 (by decide) rfl ?_
      refine e_iconst (pc := 84) (v := 0) hE ki_0 dX10_lots_84 ?_
      refine e_istore (pc := 85) (lv' := [(8, .int (0 : Int32)), (7, .int x82), (3, .long x69), (0, rv G 312), (1, .int a1), (5, .int v5), (6, .int v6)]) hE dX10_lots_85 (by decide) rfl ?_
      obtain ⟨n, h⟩ := h
      refine e_sub hE [3, 4, 2, 5, 6, 1, 0] rfl ?_
      refine w_lp_M_lots_87 hE hR  h (fun v3 v5 v6 M h => ?_)
      refine e_aload_n (pc := 119) hE rfl 0 rfl dX10_lots_119 ?_
      refine c_M_remember (pc := 120) (d := d + 3 + 0) hE (t_M_remember (d := d + 3)  h) tw_1312 (Nat.le_of_ble_eq_true rfl) dX10_lots_120 (fun M120 h => ?_)
      refine e_iload (pc := 123) hE 3 rfl dX10_lots_123 ?_
      refine e_aload_n (pc := 125) hE rfl 0 rfl dX10_lots_125 ?_
      refine e_iconst (pc := 126) (v := 0) hE ki_0 dX10_lots_126 ?_
      refine c_M_passes (pc := 127) (d := d + 3) hE (t_M_passes (d := d)  h) tw_1324 (Nat.le_of_ble_eq_true rfl) dX10_lots_127 (fun r127 M127 h => ?_)
      refine e_iadd (pc := 130) hE dX10_lots_130 ?_
      refine e_topi (fun x131 ex131 => ?_)
      have h := h x131 ex131
      refine e_istore (pc := 131) (lv' := [(5, .int x131), (0, rv G 312), (1, .int a1), (3, .long v3), (6, .int v6)]) hE dX10_lots_131 (by decide) rfl ?_
      obtain ⟨x133, ex133⟩ : ∃ y : Int32, y = v6 + (1 : Int32) := ⟨_, rfl⟩
      have h := h x133 ex133
      refine e_iinc (pc := 133) (k := 4) (v := x133) (lv' := [(6, .int x133), (5, .int x131), (0, rv G 312), (1, .int a1), (3, .long v3)]) hE dX10_lots_133 rfl (by rw [ex133, ki_1]) (by decide) rfl ?_
      refine e_goto (pc := 136) hE 42 dX10_lots_136 (by decide) ?_
      refine e_sub hE [2, 3, 4, 1, 0] rfl ?_
      exact hKB _ _ _ _ h
set_option maxHeartbeats 4000000 in
set_option maxRecDepth 20000 in
theorem w_lp_M_lots_42 {l : Launch} {G : Gs} {d : Nat} {E : EE} {a1 : Int32} {a2 : Int32} {Q : Int32 → Mm → Prop} (hE : Mach l G RX10 cX10_lots 9 (d + 4) E) (hR : RtI cX10_lots E Q)    {n : Nat} {v3 : Int64} {v5 : Int32} {v6 : Int32} {M : Mm} (h : lp_M_lots_42 a1 a2 Q n v3 v5 v6 M)  : E 42 [(0, rv G 312), (1, .int a1), (3, .long v3), (5, .int v5), (6, .int v6)] [] M := by
  have key : ∀ (n : Nat) (v3 : Int64) (v5 : Int32) (v6 : Int32) (M : Mm), lp_M_lots_42 a1 a2 Q n v3 v5 v6 M → E 42 [(0, rv G 312), (1, .int a1), (3, .long v3), (5, .int v5), (6, .int v6)] [] M := by
    intro n
    induction n with
    | zero => intro v3 v5 v6 M h; exact h.elim
    | succ n ih => intro v3 v5 v6 M h; exact w_M_lots_42 hE hR  (show k_M_lots_42 a1 a2 Q (lp_M_lots_42 a1 a2 Q n)  v3 v5 v6 M from h) ih 
  exact key n _ _ _ _ h
set_option maxHeartbeats 4000000 in
set_option maxRecDepth 20000 in
theorem t_M_lots {l : Launch} {G : Gs} {d : Nat} {a1 : Int32} {a2 : Int32} {M : Mm} {Q : Int32 → Mm → Prop}  (h : wp_M_lots a1 a2 M Q) : CtI l G (d + 4) yX10_lots cX10_lots 9 (some .int) [rv G 312, .int a1, .int a2] M Q := by
  refine CtI.mk (by decide) rfl (Nat.le_of_ble_eq_true rfl) (fun E hE hR => ?_)
  show E 0 [(0, rv G 312), (1, .int a1), (2, .int a2)] [] M
  unfold wp_M_lots at h
  refine e_iload_n (pc := 0) hE rfl 1 rfl dX10_lots_0 ?_
  refine e_iconst (pc := 1) (v := 1) hE ki_1 dX10_lots_1 ?_
  refine e_bipush (pc := 2) (v := 20) hE kb_20 dX10_lots_2 ?_
  refine c_M_in (pc := 4) (d := d + 3 + 0) hE (t_M_in (d := d + 3)  h) tw_1142 (Nat.le_of_ble_eq_true rfl) dX10_lots_4 (fun r4 M4 h => ?_)
  refine e_if_eq (pc := 7) hE 21 dX10_lots_7 (by decide) (fun c0 => ?_) (fun c0 => ?_)
  · have h := h.1 c0
    refine e_iconst (pc := 21) (v := -1) hE ki_m1 dX10_lots_21 ?_
    exact hR dX10_lots_22 h
  · have h := h.2 c0
    refine e_iload_n (pc := 10) hE rfl 2 rfl dX10_lots_10 ?_
    refine e_iconst (pc := 11) (v := 1) hE ki_1 dX10_lots_11 ?_
    refine e_ldcw (pc := 12) hE tw_1486 dX10_lots_12 ?_
    refine c_M_in (pc := 15) (d := d + 3 + 0) hE (t_M_in (d := d + 3)  h) tw_1142 (Nat.le_of_ble_eq_true rfl) dX10_lots_15 (fun r15 M15 h => ?_)
    refine e_if_ne (pc := 18) hE 23 dX10_lots_18 (by decide) (fun c0 => ?_) (fun c0 => ?_)
    · have h := h.1 c0
      refine e_aload_n (pc := 23) hE rfl 0 rfl dX10_lots_23 ?_
      refine g_Md_n (pc := 24) hE tw_1009 dX10_lots_24 ?_
      refine e_if_ne (pc := 27) hE 33 dX10_lots_27 (by decide) (fun c0 => ?_) (fun c0 => ?_)
      · have h := h.1 c0
        refine e_iload_n (pc := 33) hE rfl 2 rfl dX10_lots_33 ?_
        refine e_i2l (pc := 34) hE dX10_lots_34 ?_
        refine e_topl (fun x35 ex35 => ?_)
        have h := h x35 ex35
        refine e_lstore_n (pc := 35) (lv' := [(3, .long x35), (0, rv G 312), (1, .int a1), (2, .int a2)]) hE dX10_lots_35 rfl (by decide) rfl ?_
        refine e_iconst (pc := 36) (v := 0) hE ki_0 dX10_lots_36 ?_
        refine e_istore (pc := 37) (lv' := [(5, .int (0 : Int32)), (3, .long x35), (0, rv G 312), (1, .int a1), (2, .int a2)]) hE dX10_lots_37 (by decide) rfl ?_
        refine e_iconst (pc := 39) (v := 0) hE ki_0 dX10_lots_39 ?_
        refine e_istore (pc := 40) (lv' := [(6, .int (0 : Int32)), (5, .int (0 : Int32)), (3, .long x35), (0, rv G 312), (1, .int a1), (2, .int a2)]) hE dX10_lots_40 (by decide) rfl ?_
        obtain ⟨n, h⟩ := h
        refine e_sub hE [3, 4, 2, 1, 0] rfl ?_
        refine w_lp_M_lots_42 hE hR  h 
      · have h := h.2 c0
        refine e_bipush (pc := 30) (v := -4) hE kb_m4 dX10_lots_30 ?_
        exact hR dX10_lots_32 h
    · have h := h.2 c0
      refine e_iconst (pc := 21) (v := -1) hE ki_m1 dX10_lots_21 ?_
      exact hR dX10_lots_22 h
set_option maxHeartbeats 4000000 in
set_option maxRecDepth 20000 in
theorem w_M_counted_83 {l : Launch} {G : Gs} {d : Nat} {E : EE} {a1 : Int32} {Q : Int32 → Mm → Prop} (hE : Mach l G RX10 cX10_counted 4 (d + 1) E) (hR : RtI cX10_counted E Q)   {KB : Int32 → Int32 → Mm → Prop} {K91 : Int32 → Mm → Prop} {v3 : Int32} {s0 : Int32} {s1 : Int32} {M : Mm} (h : k_M_counted_83 a1 Q KB K91 v3 s0 s1 M) (hKB : ∀ (v2 : Int32) (v3 : Int32)  (M : Mm), KB v2 v3 M → E 4 [(0, rv G 312), (1, .int a1), (2, .int v2), (3, .int v3)] [] M) (hK91 : ∀ (v2 : Int32)  (M : Mm), K91 v2 M → E 91 [(0, rv G 312), (1, .int a1), (2, .int v2)] [] M) : E 83 [(0, rv G 312), (1, .int a1), (3, .int v3)] [.int s0, .int s1] M := by
  unfold k_M_counted_83 at h
  refine e_iadd (pc := 83) hE dX10_counted_83 ?_
  refine e_topi (fun x84 ex84 => ?_)
  have h := h x84 ex84
  refine e_istore_n (pc := 84) (lv' := [(2, .int x84), (0, rv G 312), (1, .int a1), (3, .int v3)]) hE dX10_counted_84 rfl (by decide) rfl ?_
  obtain ⟨x85, ex85⟩ : ∃ y : Int32, y = v3 + (1 : Int32) := ⟨_, rfl⟩
  have h := h x85 ex85
  refine e_iinc (pc := 85) (k := 3) (v := x85) (lv' := [(3, .int x85), (2, .int x84), (0, rv G 312), (1, .int a1)]) hE dX10_counted_85 rfl (by rw [ex85, ki_1]) (by decide) rfl ?_
  refine e_goto (pc := 88) hE 4 dX10_counted_88 (by decide) ?_
  refine e_sub hE [2, 3, 1, 0] rfl ?_
  exact hKB _ _ _ h
set_option maxHeartbeats 4000000 in
set_option maxRecDepth 20000 in
theorem w_M_counted_64 {l : Launch} {G : Gs} {d : Nat} {E : EE} {a1 : Int32} {Q : Int32 → Mm → Prop} (hE : Mach l G RX10 cX10_counted 4 (d + 1) E) (hR : RtI cX10_counted E Q)   {KB : Int32 → Int32 → Mm → Prop} {K91 : Int32 → Mm → Prop} {v3 : Int32} {s0 : Int32} {M : Mm} (h : k_M_counted_64 a1 Q KB K91 v3 s0 M) (hKB : ∀ (v2 : Int32) (v3 : Int32)  (M : Mm), KB v2 v3 M → E 4 [(0, rv G 312), (1, .int a1), (2, .int v2), (3, .int v3)] [] M) (hK91 : ∀ (v2 : Int32)  (M : Mm), K91 v2 M → E 91 [(0, rv G 312), (1, .int a1), (2, .int v2)] [] M) : E 64 [(0, rv G 312), (1, .int a1), (3, .int v3)] [.int s0] M := by
  unfold k_M_counted_64 at h
  refine e_iload_n (pc := 64) hE rfl 1 rfl dX10_counted_64 ?_
  refine e_bipush (pc := 65) (v := 9) hE kb_9 dX10_counted_65 ?_
  refine e_icmp_ne (pc := 67) hE 82 dX10_counted_67 (by decide) (fun c0 => ?_) (fun c0 => ?_)
  · have h := h.1 c0
    refine e_iconst (pc := 82) (v := 0) hE ki_0 dX10_counted_82 ?_
    exact w_M_counted_83 hE hR h hKB hK91
  · have h := h.2 c0
    refine e_aload_n (pc := 70) hE rfl 0 rfl dX10_counted_70 ?_
    refine g_Md_all (pc := 71) hE tw_1024 dX10_counted_71 ?_
    refine e_bipush (pc := 74) (v := 15) hE kb_15 dX10_counted_74 ?_
    refine e_iload_n (pc := 76) hE rfl 2 rfl dX10_counted_76 ?_
    refine e_iadd (pc := 77) hE dX10_counted_77 ?_
    refine e_iald (pc := 78) hE ar_327 h.1 dX10_counted_78 ?_
    have h := h.2
    refine e_goto (pc := 79) hE 83 dX10_counted_79 (by decide) ?_
    exact w_M_counted_83 hE hR h hKB hK91
set_option maxHeartbeats 4000000 in
set_option maxRecDepth 20000 in
theorem w_M_counted_4 {l : Launch} {G : Gs} {d : Nat} {E : EE} {a1 : Int32} {Q : Int32 → Mm → Prop} (hE : Mach l G RX10 cX10_counted 4 (d + 1) E) (hR : RtI cX10_counted E Q)   {KB : Int32 → Int32 → Mm → Prop} {K91 : Int32 → Mm → Prop} {v2 : Int32} {v3 : Int32} {M : Mm} (h : k_M_counted_4 a1 Q KB K91 v2 v3 M) (hKB : ∀ (v2 : Int32) (v3 : Int32)  (M : Mm), KB v2 v3 M → E 4 [(0, rv G 312), (1, .int a1), (2, .int v2), (3, .int v3)] [] M) (hK91 : ∀ (v2 : Int32)  (M : Mm), K91 v2 M → E 91 [(0, rv G 312), (1, .int a1), (2, .int v2)] [] M) : E 4 [(0, rv G 312), (1, .int a1), (2, .int v2), (3, .int v3)] [] M := by
  unfold k_M_counted_4 at h
  refine e_iload_n (pc := 4) hE rfl 3 rfl dX10_counted_4 ?_
  refine e_aload_n (pc := 5) hE rfl 0 rfl dX10_counted_5 ?_
  refine g_Md_n (pc := 6) hE tw_1009 dX10_counted_6 ?_
  refine e_icmp_ge (pc := 9) hE 91 dX10_counted_9 (by decide) (fun c0 => ?_) (fun c0 => ?_)
  · have h := h.1 c0
    refine e_sub hE [0, 1, 2] rfl ?_
    exact hK91 _ _ h
  · have h := h.2 c0
    refine e_iload_n (pc := 12) hE rfl 2 rfl dX10_counted_12 ?_
    refine e_iload_n (pc := 13) hE rfl 1 rfl dX10_counted_13 ?_
    refine e_iconst (pc := 14) (v := 3) hE ki_3 dX10_counted_14 ?_
    refine e_icmp_ne (pc := 15) hE 30 dX10_counted_15 (by decide) (fun c0 => ?_) (fun c0 => ?_)
    · have h := h.1 c0
      refine e_iload_n (pc := 30) hE rfl 1 rfl dX10_counted_30 ?_
      refine e_iconst (pc := 31) (v := 4) hE ki_4 dX10_counted_31 ?_
      refine e_icmp_ne (pc := 32) hE 47 dX10_counted_32 (by decide) (fun c0 => ?_) (fun c0 => ?_)
      · have h := h.1 c0
        refine e_iload_n (pc := 47) hE rfl 1 rfl dX10_counted_47 ?_
        refine e_iconst (pc := 48) (v := 5) hE ki_5 dX10_counted_48 ?_
        refine e_icmp_ne (pc := 49) hE 64 dX10_counted_49 (by decide) (fun c0 => ?_) (fun c0 => ?_)
        · have h := h.1 c0
          refine e_sub hE [0, 1, 3] rfl ?_
          exact w_M_counted_64 hE hR h hKB hK91
        · have h := h.2 c0
          refine e_aload_n (pc := 52) hE rfl 0 rfl dX10_counted_52 ?_
          refine e_iload_n (pc := 53) hE rfl 3 rfl dX10_counted_53 ?_
          refine c_M_isSilty (pc := 54) (d := d + 0) hE (t_M_isSilty (d := d)  h) tw_1331 (Nat.le_of_ble_eq_true rfl) dX10_counted_54 (fun r54 M54 h => ?_)
          refine e_if_eq (pc := 57) hE 64 dX10_counted_57 (by decide) (fun c0 => ?_) (fun c0 => ?_)
          · have h := h.1 c0
            refine e_sub hE [0, 1, 3] rfl ?_
            exact w_M_counted_64 hE hR h hKB hK91
          · have h := h.2 c0
            refine e_iconst (pc := 60) (v := 1) hE ki_1 dX10_counted_60 ?_
            refine e_goto (pc := 61) hE 83 dX10_counted_61 (by decide) ?_
            refine e_sub hE [0, 1, 3] rfl ?_
            exact w_M_counted_83 hE hR h hKB hK91
      · have h := h.2 c0
        refine e_aload_n (pc := 35) hE rfl 0 rfl dX10_counted_35 ?_
        refine g_Md_all (pc := 36) hE tw_1024 dX10_counted_36 ?_
        refine e_bipush (pc := 39) (v := 20) hE kb_20 dX10_counted_39 ?_
        refine e_iload_n (pc := 41) hE rfl 3 rfl dX10_counted_41 ?_
        refine e_iadd (pc := 42) hE dX10_counted_42 ?_
        refine e_iald (pc := 43) hE ar_327 h.1 dX10_counted_43 ?_
        have h := h.2
        refine e_goto (pc := 44) hE 83 dX10_counted_44 (by decide) ?_
        refine e_sub hE [0, 1, 3] rfl ?_
        exact w_M_counted_83 hE hR h hKB hK91
    · have h := h.2 c0
      refine e_aload_n (pc := 18) hE rfl 0 rfl dX10_counted_18 ?_
      refine g_Md_all (pc := 19) hE tw_1024 dX10_counted_19 ?_
      refine e_bipush (pc := 22) (v := 25) hE kb_25 dX10_counted_22 ?_
      refine e_iload_n (pc := 24) hE rfl 3 rfl dX10_counted_24 ?_
      refine e_iadd (pc := 25) hE dX10_counted_25 ?_
      refine e_iald (pc := 26) hE ar_327 h.1 dX10_counted_26 ?_
      have h := h.2
      refine e_goto (pc := 27) hE 83 dX10_counted_27 (by decide) ?_
      refine e_sub hE [0, 1, 3] rfl ?_
      exact w_M_counted_83 hE hR h hKB hK91
set_option maxHeartbeats 4000000 in
set_option maxRecDepth 20000 in
theorem w_lp_M_counted_4 {l : Launch} {G : Gs} {d : Nat} {E : EE} {a1 : Int32} {Q : Int32 → Mm → Prop} (hE : Mach l G RX10 cX10_counted 4 (d + 1) E) (hR : RtI cX10_counted E Q)   {K91 : Int32 → Mm → Prop} {n : Nat} {v2 : Int32} {v3 : Int32} {M : Mm} (h : lp_M_counted_4 a1 Q K91 n v2 v3 M) (hK91 : ∀ (v2 : Int32)  (M : Mm), K91 v2 M → E 91 [(0, rv G 312), (1, .int a1), (2, .int v2)] [] M) : E 4 [(0, rv G 312), (1, .int a1), (2, .int v2), (3, .int v3)] [] M := by
  have key : ∀ (n : Nat) (v2 : Int32) (v3 : Int32) (M : Mm), lp_M_counted_4 a1 Q K91 n v2 v3 M → E 4 [(0, rv G 312), (1, .int a1), (2, .int v2), (3, .int v3)] [] M := by
    intro n
    induction n with
    | zero => intro v2 v3 M h; exact h.elim
    | succ n ih => intro v2 v3 M h; exact w_M_counted_4 hE hR  (show k_M_counted_4 a1 Q (lp_M_counted_4 a1 Q K91 n) K91 v2 v3 M from h) ih hK91
  exact key n _ _ _ h
set_option maxHeartbeats 4000000 in
set_option maxRecDepth 20000 in
theorem w_M_counted_120 {l : Launch} {G : Gs} {d : Nat} {E : EE} {a1 : Int32} {Q : Int32 → Mm → Prop} (hE : Mach l G RX10 cX10_counted 4 (d + 1) E) (hR : RtI cX10_counted E Q)   {KB : Int32 → Int32 → Mm → Prop} {K128 : Int32 → Mm → Prop} {v3 : Int32} {s0 : Int32} {s1 : Int32} {M : Mm} (h : k_M_counted_120 a1 Q KB K128 v3 s0 s1 M) (hKB : ∀ (v2 : Int32) (v3 : Int32)  (M : Mm), KB v2 v3 M → E 93 [(0, rv G 312), (1, .int a1), (2, .int v2), (3, .int v3)] [] M) (hK128 : ∀ (v2 : Int32)  (M : Mm), K128 v2 M → E 128 [(0, rv G 312), (1, .int a1), (2, .int v2)] [] M) : E 120 [(0, rv G 312), (1, .int a1), (3, .int v3)] [.int s0, .int s1] M := by
  unfold k_M_counted_120 at h
  refine e_iadd (pc := 120) hE dX10_counted_120 ?_
  refine e_topi (fun x121 ex121 => ?_)
  have h := h x121 ex121
  refine e_istore_n (pc := 121) (lv' := [(2, .int x121), (0, rv G 312), (1, .int a1), (3, .int v3)]) hE dX10_counted_121 rfl (by decide) rfl ?_
  obtain ⟨x122, ex122⟩ : ∃ y : Int32, y = v3 + (1 : Int32) := ⟨_, rfl⟩
  have h := h x122 ex122
  refine e_iinc (pc := 122) (k := 3) (v := x122) (lv' := [(3, .int x122), (2, .int x121), (0, rv G 312), (1, .int a1)]) hE dX10_counted_122 rfl (by rw [ex122, ki_1]) (by decide) rfl ?_
  refine e_goto (pc := 125) hE 93 dX10_counted_125 (by decide) ?_
  refine e_sub hE [2, 3, 1, 0] rfl ?_
  exact hKB _ _ _ h
set_option maxHeartbeats 4000000 in
set_option maxRecDepth 20000 in
theorem w_M_counted_119 {l : Launch} {G : Gs} {d : Nat} {E : EE} {a1 : Int32} {Q : Int32 → Mm → Prop} (hE : Mach l G RX10 cX10_counted 4 (d + 1) E) (hR : RtI cX10_counted E Q)   {KB : Int32 → Int32 → Mm → Prop} {K128 : Int32 → Mm → Prop} {v3 : Int32} {s0 : Int32} {M : Mm} (h : k_M_counted_119 a1 Q KB K128 v3 s0 M) (hKB : ∀ (v2 : Int32) (v3 : Int32)  (M : Mm), KB v2 v3 M → E 93 [(0, rv G 312), (1, .int a1), (2, .int v2), (3, .int v3)] [] M) (hK128 : ∀ (v2 : Int32)  (M : Mm), K128 v2 M → E 128 [(0, rv G 312), (1, .int a1), (2, .int v2)] [] M) : E 119 [(0, rv G 312), (1, .int a1), (3, .int v3)] [.int s0] M := by
  unfold k_M_counted_119 at h
  refine e_iconst (pc := 119) (v := 0) hE ki_0 dX10_counted_119 ?_
  exact w_M_counted_120 hE hR h hKB hK128
set_option maxHeartbeats 4000000 in
set_option maxRecDepth 20000 in
theorem w_M_counted_93 {l : Launch} {G : Gs} {d : Nat} {E : EE} {a1 : Int32} {Q : Int32 → Mm → Prop} (hE : Mach l G RX10 cX10_counted 4 (d + 1) E) (hR : RtI cX10_counted E Q)   {KB : Int32 → Int32 → Mm → Prop} {K128 : Int32 → Mm → Prop} {v2 : Int32} {v3 : Int32} {M : Mm} (h : k_M_counted_93 a1 Q KB K128 v2 v3 M) (hKB : ∀ (v2 : Int32) (v3 : Int32)  (M : Mm), KB v2 v3 M → E 93 [(0, rv G 312), (1, .int a1), (2, .int v2), (3, .int v3)] [] M) (hK128 : ∀ (v2 : Int32)  (M : Mm), K128 v2 M → E 128 [(0, rv G 312), (1, .int a1), (2, .int v2)] [] M) : E 93 [(0, rv G 312), (1, .int a1), (2, .int v2), (3, .int v3)] [] M := by
  unfold k_M_counted_93 at h
  refine e_iload_n (pc := 93) hE rfl 3 rfl dX10_counted_93 ?_
  refine e_bipush (pc := 94) (v := 6) hE kb_6 dX10_counted_94 ?_
  refine e_icmp_ge (pc := 96) hE 128 dX10_counted_96 (by decide) (fun c0 => ?_) (fun c0 => ?_)
  · have h := h.1 c0
    refine e_sub hE [0, 1, 2] rfl ?_
    exact hK128 _ _ h
  · have h := h.2 c0
    refine e_iload_n (pc := 99) hE rfl 2 rfl dX10_counted_99 ?_
    refine e_iload_n (pc := 100) hE rfl 1 rfl dX10_counted_100 ?_
    refine e_bipush (pc := 101) (v := 6) hE kb_6 dX10_counted_101 ?_
    refine e_icmp_ne (pc := 103) hE 119 dX10_counted_103 (by decide) (fun c0 => ?_) (fun c0 => ?_)
    · have h := h.1 c0
      refine e_sub hE [0, 1, 3] rfl ?_
      exact w_M_counted_119 hE hR h hKB hK128
    · have h := h.2 c0
      refine e_aload_n (pc := 106) hE rfl 0 rfl dX10_counted_106 ?_
      refine g_Md_sizes (pc := 107) hE tw_1004 dX10_counted_107 ?_
      refine e_iload_n (pc := 110) hE rfl 3 rfl dX10_counted_110 ?_
      refine e_iald (pc := 111) hE ar_314 h.1 dX10_counted_111 ?_
      have h := h.2
      refine e_if_lt (pc := 112) hE 119 dX10_counted_112 (by decide) (fun c0 => ?_) (fun c0 => ?_)
      · have h := h.1 c0
        refine e_sub hE [0, 1, 3] rfl ?_
        exact w_M_counted_119 hE hR h hKB hK128
      · have h := h.2 c0
        refine e_iconst (pc := 115) (v := 1) hE ki_1 dX10_counted_115 ?_
        refine e_goto (pc := 116) hE 120 dX10_counted_116 (by decide) ?_
        refine e_sub hE [0, 1, 3] rfl ?_
        exact w_M_counted_120 hE hR h hKB hK128
set_option maxHeartbeats 4000000 in
set_option maxRecDepth 20000 in
theorem w_lp_M_counted_93 {l : Launch} {G : Gs} {d : Nat} {E : EE} {a1 : Int32} {Q : Int32 → Mm → Prop} (hE : Mach l G RX10 cX10_counted 4 (d + 1) E) (hR : RtI cX10_counted E Q)   {K128 : Int32 → Mm → Prop} {n : Nat} {v2 : Int32} {v3 : Int32} {M : Mm} (h : lp_M_counted_93 a1 Q K128 n v2 v3 M) (hK128 : ∀ (v2 : Int32)  (M : Mm), K128 v2 M → E 128 [(0, rv G 312), (1, .int a1), (2, .int v2)] [] M) : E 93 [(0, rv G 312), (1, .int a1), (2, .int v2), (3, .int v3)] [] M := by
  have key : ∀ (n : Nat) (v2 : Int32) (v3 : Int32) (M : Mm), lp_M_counted_93 a1 Q K128 n v2 v3 M → E 93 [(0, rv G 312), (1, .int a1), (2, .int v2), (3, .int v3)] [] M := by
    intro n
    induction n with
    | zero => intro v2 v3 M h; exact h.elim
    | succ n ih => intro v2 v3 M h; exact w_M_counted_93 hE hR  (show k_M_counted_93 a1 Q (lp_M_counted_93 a1 Q K128 n) K128 v2 v3 M from h) ih hK128
  exact key n _ _ _ h
set_option maxHeartbeats 4000000 in
set_option maxRecDepth 20000 in
theorem w_M_counted_156 {l : Launch} {G : Gs} {d : Nat} {E : EE} {a1 : Int32} {Q : Int32 → Mm → Prop} (hE : Mach l G RX10 cX10_counted 4 (d + 1) E) (hR : RtI cX10_counted E Q)   {KB : Int32 → Int32 → Mm → Prop} {K164 : Int32 → Mm → Prop} {v3 : Int32} {s0 : Int32} {s1 : Int32} {M : Mm} (h : k_M_counted_156 a1 Q KB K164 v3 s0 s1 M) (hKB : ∀ (v2 : Int32) (v3 : Int32)  (M : Mm), KB v2 v3 M → E 130 [(0, rv G 312), (1, .int a1), (2, .int v2), (3, .int v3)] [] M) (hK164 : ∀ (v2 : Int32)  (M : Mm), K164 v2 M → E 164 [(0, rv G 312), (1, .int a1), (2, .int v2)] [] M) : E 156 [(0, rv G 312), (1, .int a1), (3, .int v3)] [.int s0, .int s1] M := by
  unfold k_M_counted_156 at h
  refine e_iadd (pc := 156) hE dX10_counted_156 ?_
  refine e_topi (fun x157 ex157 => ?_)
  have h := h x157 ex157
  refine e_istore_n (pc := 157) (lv' := [(2, .int x157), (0, rv G 312), (1, .int a1), (3, .int v3)]) hE dX10_counted_157 rfl (by decide) rfl ?_
  obtain ⟨x158, ex158⟩ : ∃ y : Int32, y = v3 + (1 : Int32) := ⟨_, rfl⟩
  have h := h x158 ex158
  refine e_iinc (pc := 158) (k := 3) (v := x158) (lv' := [(3, .int x158), (2, .int x157), (0, rv G 312), (1, .int a1)]) hE dX10_counted_158 rfl (by rw [ex158, ki_1]) (by decide) rfl ?_
  refine e_goto (pc := 161) hE 130 dX10_counted_161 (by decide) ?_
  refine e_sub hE [2, 3, 1, 0] rfl ?_
  exact hKB _ _ _ h
set_option maxHeartbeats 4000000 in
set_option maxRecDepth 20000 in
theorem w_M_counted_155 {l : Launch} {G : Gs} {d : Nat} {E : EE} {a1 : Int32} {Q : Int32 → Mm → Prop} (hE : Mach l G RX10 cX10_counted 4 (d + 1) E) (hR : RtI cX10_counted E Q)   {KB : Int32 → Int32 → Mm → Prop} {K164 : Int32 → Mm → Prop} {v3 : Int32} {s0 : Int32} {M : Mm} (h : k_M_counted_155 a1 Q KB K164 v3 s0 M) (hKB : ∀ (v2 : Int32) (v3 : Int32)  (M : Mm), KB v2 v3 M → E 130 [(0, rv G 312), (1, .int a1), (2, .int v2), (3, .int v3)] [] M) (hK164 : ∀ (v2 : Int32)  (M : Mm), K164 v2 M → E 164 [(0, rv G 312), (1, .int a1), (2, .int v2)] [] M) : E 155 [(0, rv G 312), (1, .int a1), (3, .int v3)] [.int s0] M := by
  unfold k_M_counted_155 at h
  refine e_iconst (pc := 155) (v := 0) hE ki_0 dX10_counted_155 ?_
  exact w_M_counted_156 hE hR h hKB hK164
set_option maxHeartbeats 4000000 in
set_option maxRecDepth 20000 in
theorem w_M_counted_130 {l : Launch} {G : Gs} {d : Nat} {E : EE} {a1 : Int32} {Q : Int32 → Mm → Prop} (hE : Mach l G RX10 cX10_counted 4 (d + 1) E) (hR : RtI cX10_counted E Q)   {KB : Int32 → Int32 → Mm → Prop} {K164 : Int32 → Mm → Prop} {v2 : Int32} {v3 : Int32} {M : Mm} (h : k_M_counted_130 a1 Q KB K164 v2 v3 M) (hKB : ∀ (v2 : Int32) (v3 : Int32)  (M : Mm), KB v2 v3 M → E 130 [(0, rv G 312), (1, .int a1), (2, .int v2), (3, .int v3)] [] M) (hK164 : ∀ (v2 : Int32)  (M : Mm), K164 v2 M → E 164 [(0, rv G 312), (1, .int a1), (2, .int v2)] [] M) : E 130 [(0, rv G 312), (1, .int a1), (2, .int v2), (3, .int v3)] [] M := by
  unfold k_M_counted_130 at h
  refine e_iload_n (pc := 130) hE rfl 3 rfl dX10_counted_130 ?_
  refine e_iconst (pc := 131) (v := 4) hE ki_4 dX10_counted_131 ?_
  refine e_icmp_ge (pc := 132) hE 164 dX10_counted_132 (by decide) (fun c0 => ?_) (fun c0 => ?_)
  · have h := h.1 c0
    refine e_sub hE [0, 1, 2] rfl ?_
    exact hK164 _ _ h
  · have h := h.2 c0
    refine e_iload_n (pc := 135) hE rfl 2 rfl dX10_counted_135 ?_
    refine e_iload_n (pc := 136) hE rfl 1 rfl dX10_counted_136 ?_
    refine e_bipush (pc := 137) (v := 7) hE kb_7 dX10_counted_137 ?_
    refine e_icmp_ne (pc := 139) hE 155 dX10_counted_139 (by decide) (fun c0 => ?_) (fun c0 => ?_)
    · have h := h.1 c0
      refine e_sub hE [0, 1, 3] rfl ?_
      exact w_M_counted_155 hE hR h hKB hK164
    · have h := h.2 c0
      refine e_aload_n (pc := 142) hE rfl 0 rfl dX10_counted_142 ?_
      refine g_Md_textSizes (pc := 143) hE tw_1007 dX10_counted_143 ?_
      refine e_iload_n (pc := 146) hE rfl 3 rfl dX10_counted_146 ?_
      refine e_iald (pc := 147) hE ar_317 h.1 dX10_counted_147 ?_
      have h := h.2
      refine e_if_lt (pc := 148) hE 155 dX10_counted_148 (by decide) (fun c0 => ?_) (fun c0 => ?_)
      · have h := h.1 c0
        refine e_sub hE [0, 1, 3] rfl ?_
        exact w_M_counted_155 hE hR h hKB hK164
      · have h := h.2 c0
        refine e_iconst (pc := 151) (v := 1) hE ki_1 dX10_counted_151 ?_
        refine e_goto (pc := 152) hE 156 dX10_counted_152 (by decide) ?_
        refine e_sub hE [0, 1, 3] rfl ?_
        exact w_M_counted_156 hE hR h hKB hK164
set_option maxHeartbeats 4000000 in
set_option maxRecDepth 20000 in
theorem w_lp_M_counted_130 {l : Launch} {G : Gs} {d : Nat} {E : EE} {a1 : Int32} {Q : Int32 → Mm → Prop} (hE : Mach l G RX10 cX10_counted 4 (d + 1) E) (hR : RtI cX10_counted E Q)   {K164 : Int32 → Mm → Prop} {n : Nat} {v2 : Int32} {v3 : Int32} {M : Mm} (h : lp_M_counted_130 a1 Q K164 n v2 v3 M) (hK164 : ∀ (v2 : Int32)  (M : Mm), K164 v2 M → E 164 [(0, rv G 312), (1, .int a1), (2, .int v2)] [] M) : E 130 [(0, rv G 312), (1, .int a1), (2, .int v2), (3, .int v3)] [] M := by
  have key : ∀ (n : Nat) (v2 : Int32) (v3 : Int32) (M : Mm), lp_M_counted_130 a1 Q K164 n v2 v3 M → E 130 [(0, rv G 312), (1, .int a1), (2, .int v2), (3, .int v3)] [] M := by
    intro n
    induction n with
    | zero => intro v2 v3 M h; exact h.elim
    | succ n ih => intro v2 v3 M h; exact w_M_counted_130 hE hR  (show k_M_counted_130 a1 Q (lp_M_counted_130 a1 Q K164 n) K164 v2 v3 M from h) ih hK164
  exact key n _ _ _ h
set_option maxHeartbeats 4000000 in
set_option maxRecDepth 20000 in
theorem w_M_counted_192 {l : Launch} {G : Gs} {d : Nat} {E : EE} {a1 : Int32} {Q : Int32 → Mm → Prop} (hE : Mach l G RX10 cX10_counted 4 (d + 1) E) (hR : RtI cX10_counted E Q)   {KB : Int32 → Int32 → Mm → Prop} {K200 : Int32 → Mm → Prop} {v3 : Int32} {s0 : Int32} {s1 : Int32} {M : Mm} (h : k_M_counted_192 a1 Q KB K200 v3 s0 s1 M) (hKB : ∀ (v2 : Int32) (v3 : Int32)  (M : Mm), KB v2 v3 M → E 166 [(0, rv G 312), (1, .int a1), (2, .int v2), (3, .int v3)] [] M) (hK200 : ∀ (v2 : Int32)  (M : Mm), K200 v2 M → E 200 [(0, rv G 312), (1, .int a1), (2, .int v2)] [] M) : E 192 [(0, rv G 312), (1, .int a1), (3, .int v3)] [.int s0, .int s1] M := by
  unfold k_M_counted_192 at h
  refine e_iadd (pc := 192) hE dX10_counted_192 ?_
  refine e_topi (fun x193 ex193 => ?_)
  have h := h x193 ex193
  refine e_istore_n (pc := 193) (lv' := [(2, .int x193), (0, rv G 312), (1, .int a1), (3, .int v3)]) hE dX10_counted_193 rfl (by decide) rfl ?_
  obtain ⟨x194, ex194⟩ : ∃ y : Int32, y = v3 + (1 : Int32) := ⟨_, rfl⟩
  have h := h x194 ex194
  refine e_iinc (pc := 194) (k := 3) (v := x194) (lv' := [(3, .int x194), (2, .int x193), (0, rv G 312), (1, .int a1)]) hE dX10_counted_194 rfl (by rw [ex194, ki_1]) (by decide) rfl ?_
  refine e_goto (pc := 197) hE 166 dX10_counted_197 (by decide) ?_
  refine e_sub hE [2, 3, 1, 0] rfl ?_
  exact hKB _ _ _ h
set_option maxHeartbeats 4000000 in
set_option maxRecDepth 20000 in
theorem w_M_counted_191 {l : Launch} {G : Gs} {d : Nat} {E : EE} {a1 : Int32} {Q : Int32 → Mm → Prop} (hE : Mach l G RX10 cX10_counted 4 (d + 1) E) (hR : RtI cX10_counted E Q)   {KB : Int32 → Int32 → Mm → Prop} {K200 : Int32 → Mm → Prop} {v3 : Int32} {s0 : Int32} {M : Mm} (h : k_M_counted_191 a1 Q KB K200 v3 s0 M) (hKB : ∀ (v2 : Int32) (v3 : Int32)  (M : Mm), KB v2 v3 M → E 166 [(0, rv G 312), (1, .int a1), (2, .int v2), (3, .int v3)] [] M) (hK200 : ∀ (v2 : Int32)  (M : Mm), K200 v2 M → E 200 [(0, rv G 312), (1, .int a1), (2, .int v2)] [] M) : E 191 [(0, rv G 312), (1, .int a1), (3, .int v3)] [.int s0] M := by
  unfold k_M_counted_191 at h
  refine e_iconst (pc := 191) (v := 0) hE ki_0 dX10_counted_191 ?_
  exact w_M_counted_192 hE hR h hKB hK200
set_option maxHeartbeats 4000000 in
set_option maxRecDepth 20000 in
theorem w_M_counted_166 {l : Launch} {G : Gs} {d : Nat} {E : EE} {a1 : Int32} {Q : Int32 → Mm → Prop} (hE : Mach l G RX10 cX10_counted 4 (d + 1) E) (hR : RtI cX10_counted E Q)   {KB : Int32 → Int32 → Mm → Prop} {K200 : Int32 → Mm → Prop} {v2 : Int32} {v3 : Int32} {M : Mm} (h : k_M_counted_166 a1 Q KB K200 v2 v3 M) (hKB : ∀ (v2 : Int32) (v3 : Int32)  (M : Mm), KB v2 v3 M → E 166 [(0, rv G 312), (1, .int a1), (2, .int v2), (3, .int v3)] [] M) (hK200 : ∀ (v2 : Int32)  (M : Mm), K200 v2 M → E 200 [(0, rv G 312), (1, .int a1), (2, .int v2)] [] M) : E 166 [(0, rv G 312), (1, .int a1), (2, .int v2), (3, .int v3)] [] M := by
  unfold k_M_counted_166 at h
  refine e_iload_n (pc := 166) hE rfl 3 rfl dX10_counted_166 ?_
  refine e_iconst (pc := 167) (v := 3) hE ki_3 dX10_counted_167 ?_
  refine e_icmp_ge (pc := 168) hE 200 dX10_counted_168 (by decide) (fun c0 => ?_) (fun c0 => ?_)
  · have h := h.1 c0
    refine e_sub hE [0, 1, 2] rfl ?_
    exact hK200 _ _ h
  · have h := h.2 c0
    refine e_iload_n (pc := 171) hE rfl 2 rfl dX10_counted_171 ?_
    refine e_iload_n (pc := 172) hE rfl 1 rfl dX10_counted_172 ?_
    refine e_bipush (pc := 173) (v := 8) hE kb_8 dX10_counted_173 ?_
    refine e_icmp_ne (pc := 175) hE 191 dX10_counted_175 (by decide) (fun c0 => ?_) (fun c0 => ?_)
    · have h := h.1 c0
      refine e_sub hE [0, 1, 3] rfl ?_
      exact w_M_counted_191 hE hR h hKB hK200
    · have h := h.2 c0
      refine e_aload_n (pc := 178) hE rfl 0 rfl dX10_counted_178 ?_
      refine g_Md_isKept (pc := 179) hE tw_1029 dX10_counted_179 ?_
      refine e_iload_n (pc := 182) hE rfl 3 rfl dX10_counted_182 ?_
      refine e_zald (pc := 183) hE ar_330 h.1 dX10_counted_183 ?_
      have h := h.2
      refine e_if_eq (pc := 184) hE 191 dX10_counted_184 (by decide) (fun c0 => ?_) (fun c0 => ?_)
      · have h := h.1 c0
        refine e_sub hE [0, 1, 3] rfl ?_
        exact w_M_counted_191 hE hR h hKB hK200
      · have h := h.2 c0
        refine e_iconst (pc := 187) (v := 1) hE ki_1 dX10_counted_187 ?_
        refine e_goto (pc := 188) hE 192 dX10_counted_188 (by decide) ?_
        refine e_sub hE [0, 1, 3] rfl ?_
        exact w_M_counted_192 hE hR h hKB hK200
set_option maxHeartbeats 4000000 in
set_option maxRecDepth 20000 in
theorem w_lp_M_counted_166 {l : Launch} {G : Gs} {d : Nat} {E : EE} {a1 : Int32} {Q : Int32 → Mm → Prop} (hE : Mach l G RX10 cX10_counted 4 (d + 1) E) (hR : RtI cX10_counted E Q)   {K200 : Int32 → Mm → Prop} {n : Nat} {v2 : Int32} {v3 : Int32} {M : Mm} (h : lp_M_counted_166 a1 Q K200 n v2 v3 M) (hK200 : ∀ (v2 : Int32)  (M : Mm), K200 v2 M → E 200 [(0, rv G 312), (1, .int a1), (2, .int v2)] [] M) : E 166 [(0, rv G 312), (1, .int a1), (2, .int v2), (3, .int v3)] [] M := by
  have key : ∀ (n : Nat) (v2 : Int32) (v3 : Int32) (M : Mm), lp_M_counted_166 a1 Q K200 n v2 v3 M → E 166 [(0, rv G 312), (1, .int a1), (2, .int v2), (3, .int v3)] [] M := by
    intro n
    induction n with
    | zero => intro v2 v3 M h; exact h.elim
    | succ n ih => intro v2 v3 M h; exact w_M_counted_166 hE hR  (show k_M_counted_166 a1 Q (lp_M_counted_166 a1 Q K200 n) K200 v2 v3 M from h) ih hK200
  exact key n _ _ _ h
set_option maxHeartbeats 4000000 in
set_option maxRecDepth 20000 in
theorem t_M_counted {l : Launch} {G : Gs} {d : Nat} {a1 : Int32} {M : Mm} {Q : Int32 → Mm → Prop}  (h : wp_M_counted a1 M Q) : CtI l G (d + 1) yX10_counted cX10_counted 4 (some .int) [rv G 312, .int a1] M Q := by
  refine CtI.mk (by decide) rfl (Nat.le_of_ble_eq_true rfl) (fun E hE hR => ?_)
  show E 0 [(0, rv G 312), (1, .int a1)] [] M
  unfold wp_M_counted at h
  refine e_iconst (pc := 0) (v := 0) hE ki_0 dX10_counted_0 ?_
  refine e_istore_n (pc := 1) (lv' := [(2, .int (0 : Int32)), (0, rv G 312), (1, .int a1)]) hE dX10_counted_1 rfl (by decide) rfl ?_
  refine e_iconst (pc := 2) (v := 0) hE ki_0 dX10_counted_2 ?_
  refine e_istore_n (pc := 3) (lv' := [(3, .int (0 : Int32)), (2, .int (0 : Int32)), (0, rv G 312), (1, .int a1)]) hE dX10_counted_3 rfl (by decide) rfl ?_
  obtain ⟨n, h⟩ := h
  refine e_sub hE [2, 3, 1, 0] rfl ?_
  refine w_lp_M_counted_4 hE hR  h (fun v2 M h => ?_)
  refine e_iconst (pc := 91) (v := 0) hE ki_0 dX10_counted_91 ?_
  refine e_istore_n (pc := 92) (lv' := [(3, .int (0 : Int32)), (0, rv G 312), (1, .int a1), (2, .int v2)]) hE dX10_counted_92 rfl (by decide) rfl ?_
  obtain ⟨n, h⟩ := h
  refine e_sub hE [1, 2, 3, 0] rfl ?_
  refine w_lp_M_counted_93 hE hR  h (fun v2 M h => ?_)
  refine e_iconst (pc := 128) (v := 0) hE ki_0 dX10_counted_128 ?_
  refine e_istore_n (pc := 129) (lv' := [(3, .int (0 : Int32)), (0, rv G 312), (1, .int a1), (2, .int v2)]) hE dX10_counted_129 rfl (by decide) rfl ?_
  obtain ⟨n, h⟩ := h
  refine e_sub hE [1, 2, 3, 0] rfl ?_
  refine w_lp_M_counted_130 hE hR  h (fun v2 M h => ?_)
  refine e_iconst (pc := 164) (v := 0) hE ki_0 dX10_counted_164 ?_
  refine e_istore_n (pc := 165) (lv' := [(3, .int (0 : Int32)), (0, rv G 312), (1, .int a1), (2, .int v2)]) hE dX10_counted_165 rfl (by decide) rfl ?_
  obtain ⟨n, h⟩ := h
  refine e_sub hE [1, 2, 3, 0] rfl ?_
  refine w_lp_M_counted_166 hE hR  h (fun v2 M h => ?_)
  refine e_iload_n (pc := 200) hE rfl 1 rfl dX10_counted_200 ?_
  refine e_if_ne (pc := 201) hE 211 dX10_counted_201 (by decide) (fun c0 => ?_) (fun c0 => ?_)
  · have h := h.1 c0
    refine e_iload_n (pc := 211) hE rfl 1 rfl dX10_counted_211 ?_
    refine e_iconst (pc := 212) (v := 1) hE ki_1 dX10_counted_212 ?_
    refine e_icmp_ne (pc := 213) hE 223 dX10_counted_213 (by decide) (fun c0 => ?_) (fun c0 => ?_)
    · have h := h.1 c0
      refine e_iload_n (pc := 223) hE rfl 1 rfl dX10_counted_223 ?_
      refine e_iconst (pc := 224) (v := 2) hE ki_2 dX10_counted_224 ?_
      refine e_icmp_ne (pc := 225) hE 235 dX10_counted_225 (by decide) (fun c0 => ?_) (fun c0 => ?_)
      · have h := h.1 c0
        refine e_iload_n (pc := 235) hE rfl 2 rfl dX10_counted_235 ?_
        exact hR dX10_counted_236 h
      · have h := h.2 c0
        refine e_aload_n (pc := 228) hE rfl 0 rfl dX10_counted_228 ?_
        refine g_Md_deedMany (pc := 229) hE tw_1027 dX10_counted_229 ?_
        refine e_goto (pc := 232) hE 236 dX10_counted_232 (by decide) ?_
        exact hR dX10_counted_236 h
    · have h := h.2 c0
      refine e_aload_n (pc := 216) hE rfl 0 rfl dX10_counted_216 ?_
      refine g_Md_river (pc := 217) hE tw_1010 dX10_counted_217 ?_
      refine e_goto (pc := 220) hE 236 dX10_counted_220 (by decide) ?_
      exact hR dX10_counted_236 h
  · have h := h.2 c0
    refine e_aload_n (pc := 204) hE rfl 0 rfl dX10_counted_204 ?_
    refine g_Md_n (pc := 205) hE tw_1009 dX10_counted_205 ?_
    refine e_goto (pc := 208) hE 236 dX10_counted_208 (by decide) ?_
    exact hR dX10_counted_236 h
set_option maxHeartbeats 4000000 in
set_option maxRecDepth 20000 in
theorem t_M_count {l : Launch} {G : Gs} {d : Nat} {a1 : Int32} {M : Mm} {Q : Int32 → Mm → Prop}  (h : wp_M_count a1 M Q) : CtI l G (d + 2) yX10_count cX10_count 2 (some .int) [rv G 312, .int a1] M Q := by
  refine CtI.mk (by decide) rfl (Nat.le_of_ble_eq_true rfl) (fun E hE hR => ?_)
  show E 0 [(0, rv G 312), (1, .int a1)] [] M
  unfold wp_M_count at h
  refine e_iload_n (pc := 0) hE rfl 1 rfl dX10_count_0 ?_
  refine e_iconst (pc := 1) (v := 0) hE ki_0 dX10_count_1 ?_
  refine e_bipush (pc := 2) (v := 9) hE kb_9 dX10_count_2 ?_
  refine c_M_in (pc := 4) (d := d + 1 + 0) hE (t_M_in (d := d + 1)  h) tw_1142 (Nat.le_of_ble_eq_true rfl) dX10_count_4 (fun r4 M4 h => ?_)
  refine e_if_eq (pc := 7) hE 18 dX10_count_7 (by decide) (fun c0 => ?_) (fun c0 => ?_)
  · have h := h.1 c0
    refine e_iconst (pc := 18) (v := -1) hE ki_m1 dX10_count_18 ?_
    exact hR dX10_count_19 h
  · have h := h.2 c0
    refine e_aload_n (pc := 10) hE rfl 0 rfl dX10_count_10 ?_
    refine e_iload_n (pc := 11) hE rfl 1 rfl dX10_count_11 ?_
    refine c_M_counted (pc := 12) (d := d + 1) hE (t_M_counted (d := d)  h) tw_1495 (Nat.le_of_ble_eq_true rfl) dX10_count_12 (fun r12 M12 h => ?_)
    refine e_goto (pc := 15) hE 19 dX10_count_15 (by decide) ?_
    exact hR dX10_count_19 h
set_option maxHeartbeats 4000000 in
set_option maxRecDepth 20000 in
theorem t_M_mix {l : Launch} {G : Gs} {d : Nat} {a1 : Int64} {M : Mm} {Q : Mm → Prop}  (h : wp_M_mix a1 M Q) : CtV l G (d + 0) yX10_mix cX10_mix 3 (none) [rv G 312, .long a1] M Q := by
  refine CtV.mk (by decide) rfl (Nat.le_of_ble_eq_true rfl) (fun E hE hR => ?_)
  show E 0 [(0, rv G 312), (1, .long a1)] [] M
  unfold wp_M_mix at h
  refine e_aload_n (pc := 0) hE rfl 0 rfl dX10_mix_0 ?_
  refine e_ldc2 (pc := 1) hE tw_1508 dX10_mix_1 ?_
  refine e_aload_n (pc := 4) hE rfl 0 rfl dX10_mix_4 ?_
  refine g_Md_hash (pc := 5) hE tw_1042 dX10_mix_5 ?_
  refine e_lmul (pc := 8) hE dX10_mix_8 ?_
  refine e_lload_n (pc := 9) hE rfl 1 rfl dX10_mix_9 ?_
  refine e_ladd (pc := 10) hE dX10_mix_10 ?_
  refine e_topl (fun x11 ex11 => ?_)
  have h := h x11 ex11
  refine p_Md_hash (pc := 11) hE tw_1042 dX10_mix_11 ?_
  exact hR dX10_mix_14 h
set_option maxHeartbeats 4000000 in
set_option maxRecDepth 20000 in
theorem w_M_mixDelta_24 {l : Launch} {G : Gs} {d : Nat} {E : EE}  {Q : Mm → Prop} (hE : Mach l G RX10 cX10_mixDelta 3 (d + 4) E) (hR : RtV cX10_mixDelta E Q)   {KB : Int32 → Int32 → Mm → Prop} {K47 : Int32 → Mm → Prop} {v1 : Int32} {v2 : Int32} {M : Mm} (h : k_M_mixDelta_24 Q KB K47 v1 v2 M) (hKB : ∀ (v1 : Int32) (v2 : Int32)  (M : Mm), KB v1 v2 M → E 24 [(0, rv G 312), (1, .int v1), (2, .int v2)] [] M) (hK47 : ∀ (v1 : Int32)  (M : Mm), K47 v1 M → E 47 [(0, rv G 312), (1, .int v1)] [] M) : E 24 [(0, rv G 312), (1, .int v1), (2, .int v2)] [] M := by
  unfold k_M_mixDelta_24 at h
  refine e_iload_n (pc := 24) hE rfl 2 rfl dX10_mixDelta_24 ?_
  refine e_bipush (pc := 25) (v := 8) hE kb_8 dX10_mixDelta_25 ?_
  refine e_icmp_ge (pc := 27) hE 47 dX10_mixDelta_27 (by decide) (fun c0 => ?_) (fun c0 => ?_)
  · have h := h.1 c0
    refine e_sub hE [0, 1] rfl ?_
    exact hK47 _ _ h
  · have h := h.2 c0
    refine e_aload_n (pc := 30) hE rfl 0 rfl dX10_mixDelta_30 ?_
    refine e_aload_n (pc := 31) hE rfl 0 rfl dX10_mixDelta_31 ?_
    refine e_iload_n (pc := 32) hE rfl 1 rfl dX10_mixDelta_32 ?_
    refine e_iload_n (pc := 33) hE rfl 2 rfl dX10_mixDelta_33 ?_
    refine c_M_armTells (pc := 34) (d := d + 3) hE (t_M_armTells (d := d)  h) tw_1257 (Nat.le_of_ble_eq_true rfl) dX10_mixDelta_34 (fun r34 M34 h => ?_)
    refine e_i2l (pc := 37) hE dX10_mixDelta_37 ?_
    refine c_M_mix (pc := 38) (d := d + 3 + 0) hE (t_M_mix (d := d + 3)  h) tw_1504 (Nat.le_of_ble_eq_true rfl) dX10_mixDelta_38 (fun M38 h => ?_)
    obtain ⟨x41, ex41⟩ : ∃ y : Int32, y = v2 + (1 : Int32) := ⟨_, rfl⟩
    have h := h x41 ex41
    refine e_iinc (pc := 41) (k := 2) (v := x41) (lv' := [(2, .int x41), (0, rv G 312), (1, .int v1)]) hE dX10_mixDelta_41 rfl (by rw [ex41, ki_1]) (by decide) rfl ?_
    refine e_goto (pc := 44) hE 24 dX10_mixDelta_44 (by decide) ?_
    refine e_sub hE [1, 2, 0] rfl ?_
    exact hKB _ _ _ h
set_option maxHeartbeats 4000000 in
set_option maxRecDepth 20000 in
theorem w_lp_M_mixDelta_24 {l : Launch} {G : Gs} {d : Nat} {E : EE}  {Q : Mm → Prop} (hE : Mach l G RX10 cX10_mixDelta 3 (d + 4) E) (hR : RtV cX10_mixDelta E Q)   {K47 : Int32 → Mm → Prop} {n : Nat} {v1 : Int32} {v2 : Int32} {M : Mm} (h : lp_M_mixDelta_24 Q K47 n v1 v2 M) (hK47 : ∀ (v1 : Int32)  (M : Mm), K47 v1 M → E 47 [(0, rv G 312), (1, .int v1)] [] M) : E 24 [(0, rv G 312), (1, .int v1), (2, .int v2)] [] M := by
  have key : ∀ (n : Nat) (v1 : Int32) (v2 : Int32) (M : Mm), lp_M_mixDelta_24 Q K47 n v1 v2 M → E 24 [(0, rv G 312), (1, .int v1), (2, .int v2)] [] M := by
    intro n
    induction n with
    | zero => intro v1 v2 M h; exact h.elim
    | succ n ih => intro v1 v2 M h; exact w_M_mixDelta_24 hE hR  (show k_M_mixDelta_24  Q (lp_M_mixDelta_24 Q K47 n) K47 v1 v2 M from h) ih hK47
  exact key n _ _ _ h
set_option maxHeartbeats 4000000 in
set_option maxRecDepth 20000 in
theorem w_M_mixDelta_14 {l : Launch} {G : Gs} {d : Nat} {E : EE}  {Q : Mm → Prop} (hE : Mach l G RX10 cX10_mixDelta 3 (d + 4) E) (hR : RtV cX10_mixDelta E Q)   {KB : Int32 → Mm → Prop} {K64 : Mm → Prop} {v1 : Int32} {M : Mm} (h : k_M_mixDelta_14 Q KB K64 v1 M) (hKB : ∀ (v1 : Int32)  (M : Mm), KB v1 M → E 14 [(0, rv G 312), (1, .int v1)] [] M) (hK64 : ∀  (M : Mm), K64 M → E 64 [(0, rv G 312)] [] M) : E 14 [(0, rv G 312), (1, .int v1)] [] M := by
  unfold k_M_mixDelta_14 at h
  refine e_iload_n (pc := 14) hE rfl 1 rfl dX10_mixDelta_14 ?_
  refine e_aload_n (pc := 15) hE rfl 0 rfl dX10_mixDelta_15 ?_
  refine g_Md_n (pc := 16) hE tw_1009 dX10_mixDelta_16 ?_
  refine e_icmp_ge (pc := 19) hE 64 dX10_mixDelta_19 (by decide) (fun c0 => ?_) (fun c0 => ?_)
  · have h := h.1 c0
    refine e_sub hE [0] rfl ?_
    exact hK64 _ h
  · have h := h.2 c0
    refine e_iconst (pc := 22) (v := 0) hE ki_0 dX10_mixDelta_22 ?_
    refine e_istore_n (pc := 23) (lv' := [(2, .int (0 : Int32)), (0, rv G 312), (1, .int v1)]) hE dX10_mixDelta_23 rfl (by decide) rfl ?_
    obtain ⟨n, h⟩ := h
    refine e_sub hE [1, 2, 0] rfl ?_
    refine w_lp_M_mixDelta_24 hE hR  h (fun v1 M h => ?_)
    refine e_aload_n (pc := 47) hE rfl 0 rfl dX10_mixDelta_47 ?_
    refine e_aload_n (pc := 48) hE rfl 0 rfl dX10_mixDelta_48 ?_
    refine g_Md_waits (pc := 49) hE tw_1016 dX10_mixDelta_49 ?_
    refine e_iload_n (pc := 52) hE rfl 1 rfl dX10_mixDelta_52 ?_
    refine e_iald (pc := 53) hE ar_324 h.1 dX10_mixDelta_53 ?_
    have h := h.2
    refine e_i2l (pc := 54) hE dX10_mixDelta_54 ?_
    refine c_M_mix (pc := 55) (d := d + 3 + 0) hE (t_M_mix (d := d + 3)  h) tw_1504 (Nat.le_of_ble_eq_true rfl) dX10_mixDelta_55 (fun M55 h => ?_)
    obtain ⟨x58, ex58⟩ : ∃ y : Int32, y = v1 + (1 : Int32) := ⟨_, rfl⟩
    have h := h x58 ex58
    refine e_iinc (pc := 58) (k := 1) (v := x58) (lv' := [(1, .int x58), (0, rv G 312)]) hE dX10_mixDelta_58 rfl (by rw [ex58, ki_1]) (by decide) rfl ?_
    refine e_goto (pc := 61) hE 14 dX10_mixDelta_61 (by decide) ?_
    refine e_sub hE [1, 0] rfl ?_
    exact hKB _ _ h
set_option maxHeartbeats 4000000 in
set_option maxRecDepth 20000 in
theorem w_lp_M_mixDelta_14 {l : Launch} {G : Gs} {d : Nat} {E : EE}  {Q : Mm → Prop} (hE : Mach l G RX10 cX10_mixDelta 3 (d + 4) E) (hR : RtV cX10_mixDelta E Q)   {K64 : Mm → Prop} {n : Nat} {v1 : Int32} {M : Mm} (h : lp_M_mixDelta_14 Q K64 n v1 M) (hK64 : ∀  (M : Mm), K64 M → E 64 [(0, rv G 312)] [] M) : E 14 [(0, rv G 312), (1, .int v1)] [] M := by
  have key : ∀ (n : Nat) (v1 : Int32) (M : Mm), lp_M_mixDelta_14 Q K64 n v1 M → E 14 [(0, rv G 312), (1, .int v1)] [] M := by
    intro n
    induction n with
    | zero => intro v1 M h; exact h.elim
    | succ n ih => intro v1 M h; exact w_M_mixDelta_14 hE hR  (show k_M_mixDelta_14  Q (lp_M_mixDelta_14 Q K64 n) K64 v1 M from h) ih hK64
  exact key n _ _ h
set_option maxHeartbeats 4000000 in
set_option maxRecDepth 20000 in
theorem w_M_mixDelta_94 {l : Launch} {G : Gs} {d : Nat} {E : EE}  {Q : Mm → Prop} (hE : Mach l G RX10 cX10_mixDelta 3 (d + 4) E) (hR : RtV cX10_mixDelta E Q)   {KB : Int32 → Mm → Prop} {v1 : Int32} {s0 : Int64} {M : Mm} (h : k_M_mixDelta_94 Q KB v1 s0 M) (hKB : ∀ (v1 : Int32)  (M : Mm), KB v1 M → E 66 [(0, rv G 312), (1, .int v1)] [] M) : E 94 [(0, rv G 312), (1, .int v1)] [.long s0, rv G 312] M := by
  unfold k_M_mixDelta_94 at h
  refine c_M_mix (pc := 94) (d := d + 3 + 0) hE (t_M_mix (d := d + 3)  h) tw_1504 (Nat.le_of_ble_eq_true rfl) dX10_mixDelta_94 (fun M94 h => ?_)
  obtain ⟨x97, ex97⟩ : ∃ y : Int32, y = v1 + (1 : Int32) := ⟨_, rfl⟩
  have h := h x97 ex97
  refine e_iinc (pc := 97) (k := 1) (v := x97) (lv' := [(1, .int x97), (0, rv G 312)]) hE dX10_mixDelta_97 rfl (by rw [ex97, ki_1]) (by decide) rfl ?_
  refine e_goto (pc := 100) hE 66 dX10_mixDelta_100 (by decide) ?_
  refine e_sub hE [1, 0] rfl ?_
  exact hKB _ _ h
set_option maxHeartbeats 4000000 in
set_option maxRecDepth 20000 in
theorem w_M_mixDelta_66 {l : Launch} {G : Gs} {d : Nat} {E : EE}  {Q : Mm → Prop} (hE : Mach l G RX10 cX10_mixDelta 3 (d + 4) E) (hR : RtV cX10_mixDelta E Q)   {KB : Int32 → Mm → Prop} {v1 : Int32} {M : Mm} (h : k_M_mixDelta_66 Q KB v1 M) (hKB : ∀ (v1 : Int32)  (M : Mm), KB v1 M → E 66 [(0, rv G 312), (1, .int v1)] [] M) : E 66 [(0, rv G 312), (1, .int v1)] [] M := by
  unfold k_M_mixDelta_66 at h
  refine e_iload_n (pc := 66) hE rfl 1 rfl dX10_mixDelta_66 ?_
  refine e_iconst (pc := 67) (v := 3) hE ki_3 dX10_mixDelta_67 ?_
  refine e_icmp_ge (pc := 68) hE 103 dX10_mixDelta_68 (by decide) (fun c0 => ?_) (fun c0 => ?_)
  · have h := h.1 c0
    exact hR dX10_mixDelta_103 h
  · have h := h.2 c0
    refine e_aload_n (pc := 71) hE rfl 0 rfl dX10_mixDelta_71 ?_
    refine e_aload_n (pc := 72) hE rfl 0 rfl dX10_mixDelta_72 ?_
    refine g_Md_isKept (pc := 73) hE tw_1029 dX10_mixDelta_73 ?_
    refine e_iload_n (pc := 76) hE rfl 1 rfl dX10_mixDelta_76 ?_
    refine e_zald (pc := 77) hE ar_330 h.1 dX10_mixDelta_77 ?_
    have h := h.2
    refine e_if_eq (pc := 78) hE 91 dX10_mixDelta_78 (by decide) (fun c0 => ?_) (fun c0 => ?_)
    · have h := h.1 c0
      refine e_ldc2 (pc := 91) hE tw_1513 dX10_mixDelta_91 ?_
      exact w_M_mixDelta_94 hE hR h hKB
    · have h := h.2 c0
      refine e_aload_n (pc := 81) hE rfl 0 rfl dX10_mixDelta_81 ?_
      refine g_Md_keptMany (pc := 82) hE tw_1030 dX10_mixDelta_82 ?_
      refine e_iload_n (pc := 85) hE rfl 1 rfl dX10_mixDelta_85 ?_
      refine e_iald (pc := 86) hE ar_331 h.1 dX10_mixDelta_86 ?_
      have h := h.2
      refine e_i2l (pc := 87) hE dX10_mixDelta_87 ?_
      refine e_goto (pc := 88) hE 94 dX10_mixDelta_88 (by decide) ?_
      exact w_M_mixDelta_94 hE hR h hKB
set_option maxHeartbeats 4000000 in
set_option maxRecDepth 20000 in
theorem w_lp_M_mixDelta_66 {l : Launch} {G : Gs} {d : Nat} {E : EE}  {Q : Mm → Prop} (hE : Mach l G RX10 cX10_mixDelta 3 (d + 4) E) (hR : RtV cX10_mixDelta E Q)    {n : Nat} {v1 : Int32} {M : Mm} (h : lp_M_mixDelta_66 Q n v1 M)  : E 66 [(0, rv G 312), (1, .int v1)] [] M := by
  have key : ∀ (n : Nat) (v1 : Int32) (M : Mm), lp_M_mixDelta_66 Q n v1 M → E 66 [(0, rv G 312), (1, .int v1)] [] M := by
    intro n
    induction n with
    | zero => intro v1 M h; exact h.elim
    | succ n ih => intro v1 M h; exact w_M_mixDelta_66 hE hR  (show k_M_mixDelta_66  Q (lp_M_mixDelta_66 Q n)  v1 M from h) ih 
  exact key n _ _ h
set_option maxHeartbeats 4000000 in
set_option maxRecDepth 20000 in
theorem t_M_mixDelta {l : Launch} {G : Gs} {d : Nat}  {M : Mm} {Q : Mm → Prop}  (h : wp_M_mixDelta  M Q) : CtV l G (d + 4) yX10_mixDelta cX10_mixDelta 3 (none) [rv G 312] M Q := by
  refine CtV.mk (by decide) rfl (Nat.le_of_ble_eq_true rfl) (fun E hE hR => ?_)
  show E 0 [(0, rv G 312)] [] M
  unfold wp_M_mixDelta at h
  refine e_aload_n (pc := 0) hE rfl 0 rfl dX10_mixDelta_0 ?_
  refine e_aload_n (pc := 1) hE rfl 0 rfl dX10_mixDelta_1 ?_
  refine g_Md_all (pc := 2) hE tw_1024 dX10_mixDelta_2 ?_
  refine e_bipush (pc := 5) (v := 30) hE kb_30 dX10_mixDelta_5 ?_
  refine e_iald (pc := 7) hE ar_327 h.1 dX10_mixDelta_7 ?_
  have h := h.2
  refine e_i2l (pc := 8) hE dX10_mixDelta_8 ?_
  refine c_M_mix (pc := 9) (d := d + 3 + 0) hE (t_M_mix (d := d + 3)  h) tw_1504 (Nat.le_of_ble_eq_true rfl) dX10_mixDelta_9 (fun M9 h => ?_)
  refine e_iconst (pc := 12) (v := 0) hE ki_0 dX10_mixDelta_12 ?_
  refine e_istore_n (pc := 13) (lv' := [(1, .int (0 : Int32)), (0, rv G 312)]) hE dX10_mixDelta_13 rfl (by decide) rfl ?_
  obtain ⟨n, h⟩ := h
  refine e_sub hE [1, 0] rfl ?_
  refine w_lp_M_mixDelta_14 hE hR  h (fun M h => ?_)
  refine e_iconst (pc := 64) (v := 0) hE ki_0 dX10_mixDelta_64 ?_
  refine e_istore_n (pc := 65) (lv' := [(1, .int (0 : Int32)), (0, rv G 312)]) hE dX10_mixDelta_65 rfl (by decide) rfl ?_
  obtain ⟨n, h⟩ := h
  refine e_sub hE [1, 0] rfl ?_
  refine w_lp_M_mixDelta_66 hE hR  h 
set_option maxHeartbeats 4000000 in
set_option maxRecDepth 20000 in
theorem w_M_digest_9 {l : Launch} {G : Gs} {d : Nat} {E : EE}  {Q : Int64 → Mm → Prop} (hE : Mach l G RX10 cX10_digest 3 (d + 5) E) (hR : RtL cX10_digest E Q)   {KB : Int32 → Mm → Prop} {K31 : Mm → Prop} {v1 : Int32} {M : Mm} (h : k_M_digest_9 Q KB K31 v1 M) (hKB : ∀ (v1 : Int32)  (M : Mm), KB v1 M → E 9 [(0, rv G 312), (1, .int v1)] [] M) (hK31 : ∀  (M : Mm), K31 M → E 31 [(0, rv G 312)] [] M) : E 9 [(0, rv G 312), (1, .int v1)] [] M := by
  unfold k_M_digest_9 at h
  refine e_iload_n (pc := 9) hE rfl 1 rfl dX10_digest_9 ?_
  refine e_bipush (pc := 10) (v := 10) hE kb_10 dX10_digest_10 ?_
  refine e_icmp_ge (pc := 12) hE 31 dX10_digest_12 (by decide) (fun c0 => ?_) (fun c0 => ?_)
  · have h := h.1 c0
    refine e_sub hE [0] rfl ?_
    exact hK31 _ h
  · have h := h.2 c0
    refine e_aload_n (pc := 15) hE rfl 0 rfl dX10_digest_15 ?_
    refine e_aload_n (pc := 16) hE rfl 0 rfl dX10_digest_16 ?_
    refine e_iload_n (pc := 17) hE rfl 1 rfl dX10_digest_17 ?_
    refine c_M_counted (pc := 18) (d := d + 3 + 1) hE (t_M_counted (d := d + 3)  h) tw_1495 (Nat.le_of_ble_eq_true rfl) dX10_digest_18 (fun r18 M18 h => ?_)
    refine e_i2l (pc := 21) hE dX10_digest_21 ?_
    refine c_M_mix (pc := 22) (d := d + 4 + 0) hE (t_M_mix (d := d + 4)  h) tw_1504 (Nat.le_of_ble_eq_true rfl) dX10_digest_22 (fun M22 h => ?_)
    obtain ⟨x25, ex25⟩ : ∃ y : Int32, y = v1 + (1 : Int32) := ⟨_, rfl⟩
    have h := h x25 ex25
    refine e_iinc (pc := 25) (k := 1) (v := x25) (lv' := [(1, .int x25), (0, rv G 312)]) hE dX10_digest_25 rfl (by rw [ex25, ki_1]) (by decide) rfl ?_
    refine e_goto (pc := 28) hE 9 dX10_digest_28 (by decide) ?_
    refine e_sub hE [1, 0] rfl ?_
    exact hKB _ _ h
set_option maxHeartbeats 4000000 in
set_option maxRecDepth 20000 in
theorem w_lp_M_digest_9 {l : Launch} {G : Gs} {d : Nat} {E : EE}  {Q : Int64 → Mm → Prop} (hE : Mach l G RX10 cX10_digest 3 (d + 5) E) (hR : RtL cX10_digest E Q)   {K31 : Mm → Prop} {n : Nat} {v1 : Int32} {M : Mm} (h : lp_M_digest_9 Q K31 n v1 M) (hK31 : ∀  (M : Mm), K31 M → E 31 [(0, rv G 312)] [] M) : E 9 [(0, rv G 312), (1, .int v1)] [] M := by
  have key : ∀ (n : Nat) (v1 : Int32) (M : Mm), lp_M_digest_9 Q K31 n v1 M → E 9 [(0, rv G 312), (1, .int v1)] [] M := by
    intro n
    induction n with
    | zero => intro v1 M h; exact h.elim
    | succ n ih => intro v1 M h; exact w_M_digest_9 hE hR  (show k_M_digest_9  Q (lp_M_digest_9 Q K31 n) K31 v1 M from h) ih hK31
  exact key n _ _ h
set_option maxHeartbeats 4000000 in
set_option maxRecDepth 20000 in
theorem w_M_digest_56 {l : Launch} {G : Gs} {d : Nat} {E : EE}  {Q : Int64 → Mm → Prop} (hE : Mach l G RX10 cX10_digest 3 (d + 5) E) (hR : RtL cX10_digest E Q)   {KB : Int32 → Int32 → Mm → Prop} {K83 : Int32 → Mm → Prop} {v1 : Int32} {v2 : Int32} {M : Mm} (h : k_M_digest_56 Q KB K83 v1 v2 M) (hKB : ∀ (v1 : Int32) (v2 : Int32)  (M : Mm), KB v1 v2 M → E 56 [(0, rv G 312), (1, .int v1), (2, .int v2)] [] M) (hK83 : ∀ (v1 : Int32)  (M : Mm), K83 v1 M → E 83 [(0, rv G 312), (1, .int v1)] [] M) : E 56 [(0, rv G 312), (1, .int v1), (2, .int v2)] [] M := by
  unfold k_M_digest_56 at h
  refine e_iload_n (pc := 56) hE rfl 2 rfl dX10_digest_56 ?_
  refine e_aload_n (pc := 57) hE rfl 0 rfl dX10_digest_57 ?_
  refine g_Md_sizes (pc := 58) hE tw_1004 dX10_digest_58 ?_
  refine e_iload_n (pc := 61) hE rfl 1 rfl dX10_digest_61 ?_
  refine e_iald (pc := 62) hE ar_314 h.1 dX10_digest_62 ?_
  have h := h.2
  refine e_icmp_ge (pc := 63) hE 83 dX10_digest_63 (by decide) (fun c0 => ?_) (fun c0 => ?_)
  · have h := h.1 c0
    refine e_sub hE [0, 1] rfl ?_
    exact hK83 _ _ h
  · have h := h.2 c0
    refine e_aload_n (pc := 66) hE rfl 0 rfl dX10_digest_66 ?_
    refine e_aload_n (pc := 67) hE rfl 0 rfl dX10_digest_67 ?_
    refine e_iload_n (pc := 68) hE rfl 1 rfl dX10_digest_68 ?_
    refine e_iload_n (pc := 69) hE rfl 2 rfl dX10_digest_69 ?_
    refine c_M_rowAt (pc := 70) (d := d + 4 + 0) hE (t_M_rowAt (d := d + 4)  h) tw_1172 (Nat.le_of_ble_eq_true rfl) dX10_digest_70 (fun r70 M70 h => ?_)
    refine e_i2l (pc := 73) hE dX10_digest_73 ?_
    refine c_M_mix (pc := 74) (d := d + 4 + 0) hE (t_M_mix (d := d + 4)  h) tw_1504 (Nat.le_of_ble_eq_true rfl) dX10_digest_74 (fun M74 h => ?_)
    obtain ⟨x77, ex77⟩ : ∃ y : Int32, y = v2 + (1 : Int32) := ⟨_, rfl⟩
    have h := h x77 ex77
    refine e_iinc (pc := 77) (k := 2) (v := x77) (lv' := [(2, .int x77), (0, rv G 312), (1, .int v1)]) hE dX10_digest_77 rfl (by rw [ex77, ki_1]) (by decide) rfl ?_
    refine e_goto (pc := 80) hE 56 dX10_digest_80 (by decide) ?_
    refine e_sub hE [1, 2, 0] rfl ?_
    exact hKB _ _ _ h
set_option maxHeartbeats 4000000 in
set_option maxRecDepth 20000 in
theorem w_lp_M_digest_56 {l : Launch} {G : Gs} {d : Nat} {E : EE}  {Q : Int64 → Mm → Prop} (hE : Mach l G RX10 cX10_digest 3 (d + 5) E) (hR : RtL cX10_digest E Q)   {K83 : Int32 → Mm → Prop} {n : Nat} {v1 : Int32} {v2 : Int32} {M : Mm} (h : lp_M_digest_56 Q K83 n v1 v2 M) (hK83 : ∀ (v1 : Int32)  (M : Mm), K83 v1 M → E 83 [(0, rv G 312), (1, .int v1)] [] M) : E 56 [(0, rv G 312), (1, .int v1), (2, .int v2)] [] M := by
  have key : ∀ (n : Nat) (v1 : Int32) (v2 : Int32) (M : Mm), lp_M_digest_56 Q K83 n v1 v2 M → E 56 [(0, rv G 312), (1, .int v1), (2, .int v2)] [] M := by
    intro n
    induction n with
    | zero => intro v1 v2 M h; exact h.elim
    | succ n ih => intro v1 v2 M h; exact w_M_digest_56 hE hR  (show k_M_digest_56  Q (lp_M_digest_56 Q K83 n) K83 v1 v2 M from h) ih hK83
  exact key n _ _ _ h
set_option maxHeartbeats 4000000 in
set_option maxRecDepth 20000 in
theorem w_M_digest_37 {l : Launch} {G : Gs} {d : Nat} {E : EE}  {Q : Int64 → Mm → Prop} (hE : Mach l G RX10 cX10_digest 3 (d + 5) E) (hR : RtL cX10_digest E Q)   {KB : Int32 → Mm → Prop} {K89 : Mm → Prop} {v1 : Int32} {M : Mm} (h : k_M_digest_37 Q KB K89 v1 M) (hKB : ∀ (v1 : Int32)  (M : Mm), KB v1 M → E 37 [(0, rv G 312), (1, .int v1)] [] M) (hK89 : ∀  (M : Mm), K89 M → E 89 [(0, rv G 312)] [] M) : E 37 [(0, rv G 312), (1, .int v1)] [] M := by
  unfold k_M_digest_37 at h
  refine e_iload_n (pc := 37) hE rfl 1 rfl dX10_digest_37 ?_
  refine e_bipush (pc := 38) (v := 6) hE kb_6 dX10_digest_38 ?_
  refine e_icmp_ge (pc := 40) hE 89 dX10_digest_40 (by decide) (fun c0 => ?_) (fun c0 => ?_)
  · have h := h.1 c0
    refine e_sub hE [0] rfl ?_
    exact hK89 _ h
  · have h := h.2 c0
    refine e_aload_n (pc := 43) hE rfl 0 rfl dX10_digest_43 ?_
    refine e_aload_n (pc := 44) hE rfl 0 rfl dX10_digest_44 ?_
    refine g_Md_sizes (pc := 45) hE tw_1004 dX10_digest_45 ?_
    refine e_iload_n (pc := 48) hE rfl 1 rfl dX10_digest_48 ?_
    refine e_iald (pc := 49) hE ar_314 h.1 dX10_digest_49 ?_
    have h := h.2
    refine e_i2l (pc := 50) hE dX10_digest_50 ?_
    refine c_M_mix (pc := 51) (d := d + 4 + 0) hE (t_M_mix (d := d + 4)  h) tw_1504 (Nat.le_of_ble_eq_true rfl) dX10_digest_51 (fun M51 h => ?_)
    refine e_iconst (pc := 54) (v := 0) hE ki_0 dX10_digest_54 ?_
    refine e_istore_n (pc := 55) (lv' := [(2, .int (0 : Int32)), (0, rv G 312), (1, .int v1)]) hE dX10_digest_55 rfl (by decide) rfl ?_
    obtain ⟨n, h⟩ := h
    refine e_sub hE [1, 2, 0] rfl ?_
    refine w_lp_M_digest_56 hE hR  h (fun v1 M h => ?_)
    obtain ⟨x83, ex83⟩ : ∃ y : Int32, y = v1 + (1 : Int32) := ⟨_, rfl⟩
    have h := h x83 ex83
    refine e_iinc (pc := 83) (k := 1) (v := x83) (lv' := [(1, .int x83), (0, rv G 312)]) hE dX10_digest_83 rfl (by rw [ex83, ki_1]) (by decide) rfl ?_
    refine e_goto (pc := 86) hE 37 dX10_digest_86 (by decide) ?_
    refine e_sub hE [1, 0] rfl ?_
    exact hKB _ _ h
set_option maxHeartbeats 4000000 in
set_option maxRecDepth 20000 in
theorem w_lp_M_digest_37 {l : Launch} {G : Gs} {d : Nat} {E : EE}  {Q : Int64 → Mm → Prop} (hE : Mach l G RX10 cX10_digest 3 (d + 5) E) (hR : RtL cX10_digest E Q)   {K89 : Mm → Prop} {n : Nat} {v1 : Int32} {M : Mm} (h : lp_M_digest_37 Q K89 n v1 M) (hK89 : ∀  (M : Mm), K89 M → E 89 [(0, rv G 312)] [] M) : E 37 [(0, rv G 312), (1, .int v1)] [] M := by
  have key : ∀ (n : Nat) (v1 : Int32) (M : Mm), lp_M_digest_37 Q K89 n v1 M → E 37 [(0, rv G 312), (1, .int v1)] [] M := by
    intro n
    induction n with
    | zero => intro v1 M h; exact h.elim
    | succ n ih => intro v1 M h; exact w_M_digest_37 hE hR  (show k_M_digest_37  Q (lp_M_digest_37 Q K89 n) K89 v1 M from h) ih hK89
  exact key n _ _ h
set_option maxHeartbeats 4000000 in
set_option maxRecDepth 20000 in
theorem w_M_digest_109 {l : Launch} {G : Gs} {d : Nat} {E : EE}  {Q : Int64 → Mm → Prop} (hE : Mach l G RX10 cX10_digest 3 (d + 5) E) (hR : RtL cX10_digest E Q)   {KB : Int32 → Int32 → Mm → Prop} {K136 : Int32 → Mm → Prop} {v1 : Int32} {v2 : Int32} {M : Mm} (h : k_M_digest_109 Q KB K136 v1 v2 M) (hKB : ∀ (v1 : Int32) (v2 : Int32)  (M : Mm), KB v1 v2 M → E 109 [(0, rv G 312), (1, .int v1), (2, .int v2)] [] M) (hK136 : ∀ (v1 : Int32)  (M : Mm), K136 v1 M → E 136 [(0, rv G 312), (1, .int v1)] [] M) : E 109 [(0, rv G 312), (1, .int v1), (2, .int v2)] [] M := by
  unfold k_M_digest_109 at h
  refine e_iload_n (pc := 109) hE rfl 2 rfl dX10_digest_109 ?_
  refine e_aload_n (pc := 110) hE rfl 0 rfl dX10_digest_110 ?_
  refine g_Md_textSizes (pc := 111) hE tw_1007 dX10_digest_111 ?_
  refine e_iload_n (pc := 114) hE rfl 1 rfl dX10_digest_114 ?_
  refine e_iald (pc := 115) hE ar_317 h.1 dX10_digest_115 ?_
  have h := h.2
  refine e_icmp_ge (pc := 116) hE 136 dX10_digest_116 (by decide) (fun c0 => ?_) (fun c0 => ?_)
  · have h := h.1 c0
    refine e_sub hE [0, 1] rfl ?_
    exact hK136 _ _ h
  · have h := h.2 c0
    refine e_aload_n (pc := 119) hE rfl 0 rfl dX10_digest_119 ?_
    refine e_aload_n (pc := 120) hE rfl 0 rfl dX10_digest_120 ?_
    refine e_iload_n (pc := 121) hE rfl 1 rfl dX10_digest_121 ?_
    refine e_iload_n (pc := 122) hE rfl 2 rfl dX10_digest_122 ?_
    refine c_M_byteAt (pc := 123) (d := d + 4 + 0) hE (t_M_byteAt (d := d + 4)  h) tw_1215 (Nat.le_of_ble_eq_true rfl) dX10_digest_123 (fun r123 M123 h => ?_)
    refine e_i2l (pc := 126) hE dX10_digest_126 ?_
    refine c_M_mix (pc := 127) (d := d + 4 + 0) hE (t_M_mix (d := d + 4)  h) tw_1504 (Nat.le_of_ble_eq_true rfl) dX10_digest_127 (fun M127 h => ?_)
    obtain ⟨x130, ex130⟩ : ∃ y : Int32, y = v2 + (1 : Int32) := ⟨_, rfl⟩
    have h := h x130 ex130
    refine e_iinc (pc := 130) (k := 2) (v := x130) (lv' := [(2, .int x130), (0, rv G 312), (1, .int v1)]) hE dX10_digest_130 rfl (by rw [ex130, ki_1]) (by decide) rfl ?_
    refine e_goto (pc := 133) hE 109 dX10_digest_133 (by decide) ?_
    refine e_sub hE [1, 2, 0] rfl ?_
    exact hKB _ _ _ h
set_option maxHeartbeats 4000000 in
set_option maxRecDepth 20000 in
theorem w_lp_M_digest_109 {l : Launch} {G : Gs} {d : Nat} {E : EE}  {Q : Int64 → Mm → Prop} (hE : Mach l G RX10 cX10_digest 3 (d + 5) E) (hR : RtL cX10_digest E Q)   {K136 : Int32 → Mm → Prop} {n : Nat} {v1 : Int32} {v2 : Int32} {M : Mm} (h : lp_M_digest_109 Q K136 n v1 v2 M) (hK136 : ∀ (v1 : Int32)  (M : Mm), K136 v1 M → E 136 [(0, rv G 312), (1, .int v1)] [] M) : E 109 [(0, rv G 312), (1, .int v1), (2, .int v2)] [] M := by
  have key : ∀ (n : Nat) (v1 : Int32) (v2 : Int32) (M : Mm), lp_M_digest_109 Q K136 n v1 v2 M → E 109 [(0, rv G 312), (1, .int v1), (2, .int v2)] [] M := by
    intro n
    induction n with
    | zero => intro v1 v2 M h; exact h.elim
    | succ n ih => intro v1 v2 M h; exact w_M_digest_109 hE hR  (show k_M_digest_109  Q (lp_M_digest_109 Q K136 n) K136 v1 v2 M from h) ih hK136
  exact key n _ _ _ h
set_option maxHeartbeats 4000000 in
set_option maxRecDepth 20000 in
theorem w_M_digest_91 {l : Launch} {G : Gs} {d : Nat} {E : EE}  {Q : Int64 → Mm → Prop} (hE : Mach l G RX10 cX10_digest 3 (d + 5) E) (hR : RtL cX10_digest E Q)   {KB : Int32 → Mm → Prop} {v1 : Int32} {M : Mm} (h : k_M_digest_91 Q KB v1 M) (hKB : ∀ (v1 : Int32)  (M : Mm), KB v1 M → E 91 [(0, rv G 312), (1, .int v1)] [] M) : E 91 [(0, rv G 312), (1, .int v1)] [] M := by
  unfold k_M_digest_91 at h
  refine e_iload_n (pc := 91) hE rfl 1 rfl dX10_digest_91 ?_
  refine e_iconst (pc := 92) (v := 4) hE ki_4 dX10_digest_92 ?_
  refine e_icmp_ge (pc := 93) hE 142 dX10_digest_93 (by decide) (fun c0 => ?_) (fun c0 => ?_)
  · have h := h.1 c0
    refine e_aload_n (pc := 142) hE rfl 0 rfl dX10_digest_142 ?_
    refine g_Md_hash (pc := 143) hE tw_1042 dX10_digest_143 ?_
    exact hR dX10_digest_146 h
  · have h := h.2 c0
    refine e_aload_n (pc := 96) hE rfl 0 rfl dX10_digest_96 ?_
    refine e_aload_n (pc := 97) hE rfl 0 rfl dX10_digest_97 ?_
    refine g_Md_textSizes (pc := 98) hE tw_1007 dX10_digest_98 ?_
    refine e_iload_n (pc := 101) hE rfl 1 rfl dX10_digest_101 ?_
    refine e_iald (pc := 102) hE ar_317 h.1 dX10_digest_102 ?_
    have h := h.2
    refine e_i2l (pc := 103) hE dX10_digest_103 ?_
    refine c_M_mix (pc := 104) (d := d + 4 + 0) hE (t_M_mix (d := d + 4)  h) tw_1504 (Nat.le_of_ble_eq_true rfl) dX10_digest_104 (fun M104 h => ?_)
    refine e_iconst (pc := 107) (v := 0) hE ki_0 dX10_digest_107 ?_
    refine e_istore_n (pc := 108) (lv' := [(2, .int (0 : Int32)), (0, rv G 312), (1, .int v1)]) hE dX10_digest_108 rfl (by decide) rfl ?_
    obtain ⟨n, h⟩ := h
    refine e_sub hE [1, 2, 0] rfl ?_
    refine w_lp_M_digest_109 hE hR  h (fun v1 M h => ?_)
    obtain ⟨x136, ex136⟩ : ∃ y : Int32, y = v1 + (1 : Int32) := ⟨_, rfl⟩
    have h := h x136 ex136
    refine e_iinc (pc := 136) (k := 1) (v := x136) (lv' := [(1, .int x136), (0, rv G 312)]) hE dX10_digest_136 rfl (by rw [ex136, ki_1]) (by decide) rfl ?_
    refine e_goto (pc := 139) hE 91 dX10_digest_139 (by decide) ?_
    refine e_sub hE [1, 0] rfl ?_
    exact hKB _ _ h
set_option maxHeartbeats 4000000 in
set_option maxRecDepth 20000 in
theorem w_lp_M_digest_91 {l : Launch} {G : Gs} {d : Nat} {E : EE}  {Q : Int64 → Mm → Prop} (hE : Mach l G RX10 cX10_digest 3 (d + 5) E) (hR : RtL cX10_digest E Q)    {n : Nat} {v1 : Int32} {M : Mm} (h : lp_M_digest_91 Q n v1 M)  : E 91 [(0, rv G 312), (1, .int v1)] [] M := by
  have key : ∀ (n : Nat) (v1 : Int32) (M : Mm), lp_M_digest_91 Q n v1 M → E 91 [(0, rv G 312), (1, .int v1)] [] M := by
    intro n
    induction n with
    | zero => intro v1 M h; exact h.elim
    | succ n ih => intro v1 M h; exact w_M_digest_91 hE hR  (show k_M_digest_91  Q (lp_M_digest_91 Q n)  v1 M from h) ih 
  exact key n _ _ h
set_option maxHeartbeats 4000000 in
set_option maxRecDepth 20000 in
theorem t_M_digest {l : Launch} {G : Gs} {d : Nat}  {M : Mm} {Q : Int64 → Mm → Prop}  (h : wp_M_digest  M Q) : CtL l G (d + 5) yX10_digest cX10_digest 3 (some .long) [rv G 312] M Q := by
  refine CtL.mk (by decide) rfl (Nat.le_of_ble_eq_true rfl) (fun E hE hR => ?_)
  show E 0 [(0, rv G 312)] [] M
  unfold wp_M_digest at h
  refine e_aload_n (pc := 0) hE rfl 0 rfl dX10_digest_0 ?_
  refine e_ldc2 (pc := 1) hE tw_1503 dX10_digest_1 ?_
  refine p_Md_hash (pc := 4) hE tw_1042 dX10_digest_4 ?_
  refine e_iconst (pc := 7) (v := 0) hE ki_0 dX10_digest_7 ?_
  refine e_istore_n (pc := 8) (lv' := [(1, .int (0 : Int32)), (0, rv G 312)]) hE dX10_digest_8 rfl (by decide) rfl ?_
  obtain ⟨n, h⟩ := h
  refine e_sub hE [1, 0] rfl ?_
  refine w_lp_M_digest_9 hE hR  h (fun M h => ?_)
  refine e_aload_n (pc := 31) hE rfl 0 rfl dX10_digest_31 ?_
  refine c_M_mixDelta (pc := 32) (d := d + 4) hE (t_M_mixDelta (d := d)  h) tw_1509 (Nat.le_of_ble_eq_true rfl) dX10_digest_32 (fun M32 h => ?_)
  refine e_iconst (pc := 35) (v := 0) hE ki_0 dX10_digest_35 ?_
  refine e_istore_n (pc := 36) (lv' := [(1, .int (0 : Int32)), (0, rv G 312)]) hE dX10_digest_36 rfl (by decide) rfl ?_
  obtain ⟨n, h⟩ := h
  refine e_sub hE [1, 0] rfl ?_
  refine w_lp_M_digest_37 hE hR  h (fun M h => ?_)
  refine e_iconst (pc := 89) (v := 0) hE ki_0 dX10_digest_89 ?_
  refine e_istore_n (pc := 90) (lv' := [(1, .int (0 : Int32)), (0, rv G 312)]) hE dX10_digest_90 rfl (by decide) rfl ?_
  obtain ⟨n, h⟩ := h
  refine e_sub hE [1, 0] rfl ?_
  refine w_lp_M_digest_91 hE hR  h 
