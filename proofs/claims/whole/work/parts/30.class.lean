set_option maxHeartbeats 4000000 in
set_option maxRecDepth 20000 in
theorem t_B_hasBit {l : Launch} {G : Gs} {d : Nat} {a0 : Int32} {a1 : Int32} {M : Mm} {Q : Int32 → Mm → Prop}  (h : wp_B_hasBit a0 a1 M Q) : CtI l G (d + 0) yX9_hasBit cX9_hasBit 2 (some .boolean) [.int a0, .int a1] M Q := by
  refine CtI.mkZ (by decide) rfl (Nat.le_of_ble_eq_true rfl) (fun E hE hR => ?_)
  show E 0 [(0, .int a0), (1, .int a1)] [] M
  unfold wp_B_hasBit at h
  refine e_iload_n (pc := 0) hE rfl 0 rfl dX9_hasBit_0 ?_
  refine e_iload_n (pc := 1) hE rfl 1 rfl dX9_hasBit_1 ?_
  refine e_ishr (pc := 2) hE dX9_hasBit_2 ?_
  refine e_iconst (pc := 3) (v := 1) hE ki_1 dX9_hasBit_3 ?_
  refine e_iand (pc := 4) hE dX9_hasBit_4 ?_
  refine e_if_eq (pc := 5) hE 12 dX9_hasBit_5 (by decide) (fun c0 => ?_) (fun c0 => ?_)
  · have h := h.1 c0
    refine e_iconst (pc := 12) (v := 0) hE ki_0 dX9_hasBit_12 ?_
    exact hR dX9_hasBit_13 (Or.inl rfl) h
  · have h := h.2 c0
    refine e_iconst (pc := 8) (v := 1) hE ki_1 dX9_hasBit_8 ?_
    refine e_goto (pc := 9) hE 13 dX9_hasBit_9 (by decide) ?_
    exact hR dX9_hasBit_13 (Or.inr rfl) h
set_option maxHeartbeats 4000000 in
set_option maxRecDepth 20000 in
theorem t_B_withBit {l : Launch} {G : Gs} {d : Nat} {a0 : Int32} {a1 : Int32} {a2 : Int32} {M : Mm} {Q : Int32 → Mm → Prop}  (h : wp_B_withBit a0 a1 a2 M Q) : CtI l G (d + 0) yX9_withBit cX9_withBit 3 (some .int) [.int a0, .int a1, .int a2] M Q := by
  refine CtI.mk (by decide) rfl (Nat.le_of_ble_eq_true rfl) (fun E hE hR => ?_)
  show E 0 [(0, .int a0), (1, .int a1), (2, .int a2)] [] M
  unfold wp_B_withBit at h
  refine e_iload_n (pc := 0) hE rfl 2 rfl dX9_withBit_0 ?_
  refine e_if_eq (pc := 1) hE 12 dX9_withBit_1 (by decide) (fun c0 => ?_) (fun c0 => ?_)
  · have h := h.1 c0
    refine e_iload_n (pc := 12) hE rfl 0 rfl dX9_withBit_12 ?_
    refine e_iconst (pc := 13) (v := 1) hE ki_1 dX9_withBit_13 ?_
    refine e_iload_n (pc := 14) hE rfl 1 rfl dX9_withBit_14 ?_
    refine e_ishl (pc := 15) hE dX9_withBit_15 ?_
    refine e_iconst (pc := 16) (v := -1) hE ki_m1 dX9_withBit_16 ?_
    refine e_ixor (pc := 17) hE dX9_withBit_17 ?_
    refine e_iand (pc := 18) hE dX9_withBit_18 ?_
    exact hR dX9_withBit_19 h
  · have h := h.2 c0
    refine e_iload_n (pc := 4) hE rfl 0 rfl dX9_withBit_4 ?_
    refine e_iconst (pc := 5) (v := 1) hE ki_1 dX9_withBit_5 ?_
    refine e_iload_n (pc := 6) hE rfl 1 rfl dX9_withBit_6 ?_
    refine e_ishl (pc := 7) hE dX9_withBit_7 ?_
    refine e_ior (pc := 8) hE dX9_withBit_8 ?_
    refine e_goto (pc := 9) hE 19 dX9_withBit_9 (by decide) ?_
    exact hR dX9_withBit_19 h
set_option maxHeartbeats 4000000 in
set_option maxRecDepth 20000 in
theorem w_B_firstOf_2 {l : Launch} {G : Gs} {d : Nat} {E : EE} {a0 : Int32} {Q : Int32 → Mm → Prop} (hE : Mach l G RX9 cX9_firstOf 2 (d + 1) E) (hR : RtI cX9_firstOf E Q)   {KB : Int32 → Mm → Prop} {v1 : Int32} {M : Mm} (h : k_B_firstOf_2 a0 Q KB v1 M) (hKB : ∀ (v1 : Int32)  (M : Mm), KB v1 M → E 2 [(0, .int a0), (1, .int v1)] [] M) : E 2 [(0, .int a0), (1, .int v1)] [] M := by
  unfold k_B_firstOf_2 at h
  refine e_iload_n (pc := 2) hE rfl 1 rfl dX9_firstOf_2 ?_
  refine e_iconst (pc := 3) (v := 5) hE ki_5 dX9_firstOf_3 ?_
  refine e_icmp_ge (pc := 4) hE 21 dX9_firstOf_4 (by decide) (fun c0 => ?_) (fun c0 => ?_)
  · have h := h.1 c0
    refine e_iload_n (pc := 21) hE rfl 1 rfl dX9_firstOf_21 ?_
    exact hR dX9_firstOf_22 h
  · have h := h.2 c0
    refine e_iload_n (pc := 7) hE rfl 0 rfl dX9_firstOf_7 ?_
    refine e_iload_n (pc := 8) hE rfl 1 rfl dX9_firstOf_8 ?_
    refine c_B_hasBit (pc := 9) (d := d + 0) hE (t_B_hasBit (d := d)  h) tw_713 (Nat.le_of_ble_eq_true rfl) dX9_firstOf_9 (fun r9 M9 h => ?_)
    refine e_if_ne (pc := 12) hE 21 dX9_firstOf_12 (by decide) (fun c0 => ?_) (fun c0 => ?_)
    · have h := h.1 c0
      refine e_iload_n (pc := 21) hE rfl 1 rfl dX9_firstOf_21 ?_
      exact hR dX9_firstOf_22 h
    · have h := h.2 c0
      obtain ⟨x15, ex15⟩ : ∃ y : Int32, y = v1 + (1 : Int32) := ⟨_, rfl⟩
      have h := h x15 ex15
      refine e_iinc (pc := 15) (k := 1) (v := x15) (lv' := [(1, .int x15), (0, .int a0)]) hE dX9_firstOf_15 rfl (by rw [ex15, ki_1]) (by decide) rfl ?_
      refine e_goto (pc := 18) hE 2 dX9_firstOf_18 (by decide) ?_
      refine e_sub hE [1, 0] rfl ?_
      exact hKB _ _ h
set_option maxHeartbeats 4000000 in
set_option maxRecDepth 20000 in
theorem w_lp_B_firstOf_2 {l : Launch} {G : Gs} {d : Nat} {E : EE} {a0 : Int32} {Q : Int32 → Mm → Prop} (hE : Mach l G RX9 cX9_firstOf 2 (d + 1) E) (hR : RtI cX9_firstOf E Q)    {n : Nat} {v1 : Int32} {M : Mm} (h : lp_B_firstOf_2 a0 Q n v1 M)  : E 2 [(0, .int a0), (1, .int v1)] [] M := by
  have key : ∀ (n : Nat) (v1 : Int32) (M : Mm), lp_B_firstOf_2 a0 Q n v1 M → E 2 [(0, .int a0), (1, .int v1)] [] M := by
    intro n
    induction n with
    | zero => intro v1 M h; exact h.elim
    | succ n ih => intro v1 M h; exact w_B_firstOf_2 hE hR  (show k_B_firstOf_2 a0 Q (lp_B_firstOf_2 a0 Q n)  v1 M from h) ih 
  exact key n _ _ h
set_option maxHeartbeats 4000000 in
set_option maxRecDepth 20000 in
theorem t_B_firstOf {l : Launch} {G : Gs} {d : Nat} {a0 : Int32} {M : Mm} {Q : Int32 → Mm → Prop}  (h : wp_B_firstOf a0 M Q) : CtI l G (d + 1) yX9_firstOf cX9_firstOf 2 (some .int) [.int a0] M Q := by
  refine CtI.mk (by decide) rfl (Nat.le_of_ble_eq_true rfl) (fun E hE hR => ?_)
  show E 0 [(0, .int a0)] [] M
  unfold wp_B_firstOf at h
  refine e_iconst (pc := 0) (v := 0) hE ki_0 dX9_firstOf_0 ?_
  refine e_istore_n (pc := 1) (lv' := [(1, .int (0 : Int32)), (0, .int a0)]) hE dX9_firstOf_1 rfl (by decide) rfl ?_
  obtain ⟨n, h⟩ := h
  refine e_sub hE [1, 0] rfl ?_
  refine w_lp_B_firstOf_2 hE hR  h 
set_option maxHeartbeats 4000000 in
set_option maxRecDepth 20000 in
theorem t_Sh_knows {l : Launch} {G : Gs} {d : Nat} {a0 : Nat} {a1 : Int32} {M : Mm} {Q : Int32 → Mm → Prop} (f0 : isSh a0) (h : wp_Sh_knows a0 a1 M Q) : CtI l G (d + 0) yX7_knows cX7_knows 2 (some .boolean) [rv G a0, .int a1] M Q := by
  refine CtI.mkZ (by decide) rfl (Nat.le_of_ble_eq_true rfl) (fun E hE hR => ?_)
  show E 0 [(0, rv G a0), (1, .int a1)] [] M
  unfold wp_Sh_knows at h
  refine e_iload_n (pc := 0) hE rfl 1 rfl dX7_knows_0 ?_
  refine e_if_lt (pc := 1) hE 17 dX7_knows_1 (by decide) (fun c0 => ?_) (fun c0 => ?_)
  · have h := h.1 c0
    refine e_iconst (pc := 17) (v := 0) hE ki_0 dX7_knows_17 ?_
    exact hR dX7_knows_18 (Or.inl rfl) h
  · have h := h.2 c0
    refine e_iload_n (pc := 4) hE rfl 1 rfl dX7_knows_4 ?_
    refine e_aload_n (pc := 5) hE rfl 0 rfl dX7_knows_5 ?_
    refine g_Shelf_sizes (pc := 6) hE (sh_kd f0) tw_116 dX7_knows_6 ?_
    refine e_ilen (pc := 9) hE (sh_sizes f0) rfl dX7_knows_9 ?_
    refine e_icmp_ge (pc := 10) hE 17 dX7_knows_10 (by decide) (fun c0 => ?_) (fun c0 => ?_)
    · have h := h.1 c0
      refine e_iconst (pc := 17) (v := 0) hE ki_0 dX7_knows_17 ?_
      exact hR dX7_knows_18 (Or.inl rfl) h
    · have h := h.2 c0
      refine e_iconst (pc := 13) (v := 1) hE ki_1 dX7_knows_13 ?_
      refine e_goto (pc := 14) hE 18 dX7_knows_14 (by decide) ?_
      exact hR dX7_knows_18 (Or.inr rfl) h
set_option maxHeartbeats 4000000 in
set_option maxRecDepth 20000 in
theorem w_J_fill_5 {l : Launch} {G : Gs} {d : Nat} {E : EE} {a0 n0 : Nat} {a1 : Int32} {Q : Mm → Prop} (hE : Mach l G RJ7 cJ7_fill_53178 4 (d + 0) E) (hR : RtV cJ7_fill_53178 E Q) (f0 : kd a0 = 12 ∧ ln a0 = n0)  {KB : Int32 → Int32 → Mm → Prop} {v2 : Int32} {v3 : Int32} {M : Mm} (h : k_J_fill_5 a0 n0 a1 Q KB v2 v3 M) (hKB : ∀ (v2 : Int32) (v3 : Int32)  (M : Mm), KB v2 v3 M → E 5 [(0, rv G a0), (1, .int a1), (2, .int v2), (3, .int v3)] [] M) : E 5 [(0, rv G a0), (1, .int a1), (2, .int v2), (3, .int v3)] [] M := by
  unfold k_J_fill_5 at h
  refine e_iload_n (pc := 5) hE rfl 2 rfl dJ7_fill_53178_5 ?_
  refine e_iload_n (pc := 6) hE rfl 3 rfl dJ7_fill_53178_6 ?_
  refine e_icmp_ge (pc := 7) hE 20 dJ7_fill_53178_7 (by decide) (fun c0 => ?_) (fun c0 => ?_)
  · have h := h.1 c0
    exact hR dJ7_fill_53178_20 h
  · have h := h.2 c0
    refine e_aload_n (pc := 10) hE rfl 0 rfl dJ7_fill_53178_10 ?_
    refine e_iload_n (pc := 11) hE rfl 2 rfl dJ7_fill_53178_11 ?_
    refine e_iload_n (pc := 12) hE rfl 1 rfl dJ7_fill_53178_12 ?_
    refine e_iast (pc := 13) hE f0 h.1 dJ7_fill_53178_13 ?_
    have h := h.2
    obtain ⟨x14, ex14⟩ : ∃ y : Int32, y = v2 + (1 : Int32) := ⟨_, rfl⟩
    have h := h x14 ex14
    refine e_iinc (pc := 14) (k := 2) (v := x14) (lv' := [(2, .int x14), (0, rv G a0), (1, .int a1), (3, .int v3)]) hE dJ7_fill_53178_14 rfl (by rw [ex14, ki_1]) (by decide) rfl ?_
    refine e_goto (pc := 17) hE 5 dJ7_fill_53178_17 (by decide) ?_
    refine e_sub hE [1, 2, 0, 3] rfl ?_
    exact hKB _ _ _ h
set_option maxHeartbeats 4000000 in
set_option maxRecDepth 20000 in
theorem w_lp_J_fill_5 {l : Launch} {G : Gs} {d : Nat} {E : EE} {a0 n0 : Nat} {a1 : Int32} {Q : Mm → Prop} (hE : Mach l G RJ7 cJ7_fill_53178 4 (d + 0) E) (hR : RtV cJ7_fill_53178 E Q) (f0 : kd a0 = 12 ∧ ln a0 = n0)   {n : Nat} {v2 : Int32} {v3 : Int32} {M : Mm} (h : lp_J_fill_5 a0 n0 a1 Q n v2 v3 M)  : E 5 [(0, rv G a0), (1, .int a1), (2, .int v2), (3, .int v3)] [] M := by
  have key : ∀ (n : Nat) (v2 : Int32) (v3 : Int32) (M : Mm), lp_J_fill_5 a0 n0 a1 Q n v2 v3 M → E 5 [(0, rv G a0), (1, .int a1), (2, .int v2), (3, .int v3)] [] M := by
    intro n
    induction n with
    | zero => intro v2 v3 M h; exact h.elim
    | succ n ih => intro v2 v3 M h; exact w_J_fill_5 hE hR f0 (show k_J_fill_5 a0 n0 a1 Q (lp_J_fill_5 a0 n0 a1 Q n)  v2 v3 M from h) ih 
  exact key n _ _ _ h
set_option maxHeartbeats 4000000 in
set_option maxRecDepth 20000 in
theorem t_J_fill {l : Launch} {G : Gs} {d : Nat} {a0 n0 : Nat} {a1 : Int32} {M : Mm} {Q : Mm → Prop} (f0 : kd a0 = 12 ∧ ln a0 = n0) (h : wp_J_fill a0 n0 a1 M Q) : CtV l G (d + 0) yJ7_fill_53178 cJ7_fill_53178 4 (none) [rv G a0, .int a1] M Q := by
  refine CtV.mk (by decide) rfl (Nat.le_of_ble_eq_true rfl) (fun E hE hR => ?_)
  show E 0 [(0, rv G a0), (1, .int a1)] [] M
  unfold wp_J_fill at h
  refine e_iconst (pc := 0) (v := 0) hE ki_0 dJ7_fill_53178_0 ?_
  refine e_istore_n (pc := 1) (lv' := [(2, .int (0 : Int32)), (0, rv G a0), (1, .int a1)]) hE dJ7_fill_53178_1 rfl (by decide) rfl ?_
  refine e_aload_n (pc := 2) hE rfl 1 rfl dJ7_fill_53178_2 ?_
  refine e_ilen (pc := 3) hE f0 rfl dJ7_fill_53178_3 ?_
  refine e_topi (fun x4 ex4 => ?_)
  have h := h x4 ex4
  refine e_istore_n (pc := 4) (lv' := [(3, .int x4), (2, .int (0 : Int32)), (0, rv G a0), (1, .int a1)]) hE dJ7_fill_53178_4 rfl (by decide) rfl ?_
  obtain ⟨n, h⟩ := h
  refine e_sub hE [2, 3, 1, 0] rfl ?_
  refine w_lp_J_fill_5 hE hR f0 h 
set_option maxHeartbeats 4000000 in
set_option maxRecDepth 20000 in
theorem t_Sh_make {l : Launch} {G : Gs} {d : Nat} {a0 : Nat} {a1 : Int32} {a2 : Int32} {a3 : Int32} {M : Mm} {Q : Mm → Prop} (f0 : isSh a0) (h : wp_Sh_make a0 a1 a2 a3 M Q) : CtV l G (d + 1) yX7_make cX7_make 4 (none) [rv G a0, .int a1, .int a2, .int a3] M Q := by
  refine CtV.mk (by decide) rfl (Nat.le_of_ble_eq_true rfl) (fun E hE hR => ?_)
  show E 0 [(0, rv G a0), (1, .int a1), (2, .int a2), (3, .int a3)] [] M
  unfold wp_Sh_make at h
  refine e_aload_n (pc := 0) hE rfl 0 rfl dX7_make_0 ?_
  refine e_iload_n (pc := 1) hE rfl 1 rfl dX7_make_1 ?_
  refine c_Sh_knows (pc := 2) (d := d + 0) hE (t_Sh_knows (d := d) f0 h) (sh_kd f0) tw_419 (Nat.le_of_ble_eq_true rfl) dX7_make_2 (fun r2 M2 h => ?_)
  refine e_if_eq (pc := 5) hE 37 dX7_make_5 (by decide) (fun c0 => ?_) (fun c0 => ?_)
  · have h := h.1 c0
    exact hR dX7_make_37 h
  · have h := h.2 c0
    refine e_iload_n (pc := 8) hE rfl 2 rfl dX7_make_8 ?_
    refine e_if_lt (pc := 9) hE 37 dX7_make_9 (by decide) (fun c0 => ?_) (fun c0 => ?_)
    · have h := h.1 c0
      exact hR dX7_make_37 h
    · have h := h.2 c0
      refine e_iload_n (pc := 12) hE rfl 2 rfl dX7_make_12 ?_
      refine e_aload_n (pc := 13) hE rfl 0 rfl dX7_make_13 ?_
      refine g_Shelf_room (pc := 14) hE (sh_kd f0) tw_113 dX7_make_14 ?_
      refine e_icmp_gt (pc := 17) hE 37 dX7_make_17 (by decide) (fun c0 => ?_) (fun c0 => ?_)
      · have h := h.1 c0
        exact hR dX7_make_37 h
      · have h := h.2 c0
        refine e_aload_n (pc := 20) hE rfl 0 rfl dX7_make_20 ?_
        refine g_Shelf_places (pc := 21) hE (sh_kd f0) tw_115 dX7_make_21 ?_
        refine e_iload_n (pc := 24) hE rfl 1 rfl dX7_make_24 ?_
        have hx25 := (rw_of f0) h.1
        refine e_gald (pc := 25) hE (sh_places f0) h.1 dX7_make_25 ?_
        have h := h.2
        refine e_iload_n (pc := 26) hE rfl 3 rfl dX7_make_26 ?_
        refine c_J_fill (pc := 27) (d := d + 0) hE (t_J_fill (d := d) hx25 h) tw_110 (Nat.le_of_ble_eq_true rfl) dX7_make_27 (fun M27 h => ?_)
        refine e_aload_n (pc := 30) hE rfl 0 rfl dX7_make_30 ?_
        refine g_Shelf_sizes (pc := 31) hE (sh_kd f0) tw_116 dX7_make_31 ?_
        refine e_iload_n (pc := 34) hE rfl 1 rfl dX7_make_34 ?_
        refine e_iload_n (pc := 35) hE rfl 2 rfl dX7_make_35 ?_
        refine e_iast (pc := 36) hE (sh_sizes f0) h.1 dX7_make_36 ?_
        have h := h.2
        exact hR dX7_make_37 h
set_option maxHeartbeats 4000000 in
set_option maxRecDepth 20000 in
theorem t_Sh_isThere {l : Launch} {G : Gs} {d : Nat} {a0 : Nat} {a1 : Int32} {M : Mm} {Q : Int32 → Mm → Prop} (f0 : isSh a0) (h : wp_Sh_isThere a0 a1 M Q) : CtI l G (d + 1) yX7_isThere cX7_isThere 2 (some .boolean) [rv G a0, .int a1] M Q := by
  refine CtI.mkZ (by decide) rfl (Nat.le_of_ble_eq_true rfl) (fun E hE hR => ?_)
  show E 0 [(0, rv G a0), (1, .int a1)] [] M
  unfold wp_Sh_isThere at h
  refine e_aload_n (pc := 0) hE rfl 0 rfl dX7_isThere_0 ?_
  refine e_iload_n (pc := 1) hE rfl 1 rfl dX7_isThere_1 ?_
  refine c_Sh_knows (pc := 2) (d := d + 0) hE (t_Sh_knows (d := d) f0 h) (sh_kd f0) tw_419 (Nat.le_of_ble_eq_true rfl) dX7_isThere_2 (fun r2 M2 h => ?_)
  refine e_if_eq (pc := 5) hE 22 dX7_isThere_5 (by decide) (fun c0 => ?_) (fun c0 => ?_)
  · have h := h.1 c0
    refine e_iconst (pc := 22) (v := 0) hE ki_0 dX7_isThere_22 ?_
    exact hR dX7_isThere_23 (Or.inl rfl) h
  · have h := h.2 c0
    refine e_aload_n (pc := 8) hE rfl 0 rfl dX7_isThere_8 ?_
    refine g_Shelf_sizes (pc := 9) hE (sh_kd f0) tw_116 dX7_isThere_9 ?_
    refine e_iload_n (pc := 12) hE rfl 1 rfl dX7_isThere_12 ?_
    refine e_iald (pc := 13) hE (sh_sizes f0) h.1 dX7_isThere_13 ?_
    have h := h.2
    refine e_iconst (pc := 14) (v := -1) hE ki_m1 dX7_isThere_14 ?_
    refine e_icmp_eq (pc := 15) hE 22 dX7_isThere_15 (by decide) (fun c0 => ?_) (fun c0 => ?_)
    · have h := h.1 c0
      refine e_iconst (pc := 22) (v := 0) hE ki_0 dX7_isThere_22 ?_
      exact hR dX7_isThere_23 (Or.inl rfl) h
    · have h := h.2 c0
      refine e_iconst (pc := 18) (v := 1) hE ki_1 dX7_isThere_18 ?_
      refine e_goto (pc := 19) hE 23 dX7_isThere_19 (by decide) ?_
      exact hR dX7_isThere_23 (Or.inr rfl) h
set_option maxHeartbeats 4000000 in
set_option maxRecDepth 20000 in
theorem t_Sh_hasStretch {l : Launch} {G : Gs} {d : Nat} {a0 : Nat} {a1 : Int32} {a2 : Int32} {a3 : Int32} {M : Mm} {Q : Int32 → Mm → Prop} (f0 : isSh a0) (h : wp_Sh_hasStretch a0 a1 a2 a3 M Q) : CtI l G (d + 1) yX7_hasStretch cX7_hasStretch 4 (some .boolean) [rv G a0, .int a1, .int a2, .int a3] M Q := by
  refine CtI.mkZ (by decide) rfl (Nat.le_of_ble_eq_true rfl) (fun E hE hR => ?_)
  show E 0 [(0, rv G a0), (1, .int a1), (2, .int a2), (3, .int a3)] [] M
  unfold wp_Sh_hasStretch at h
  refine e_aload_n (pc := 0) hE rfl 0 rfl dX7_hasStretch_0 ?_
  refine e_iload_n (pc := 1) hE rfl 1 rfl dX7_hasStretch_1 ?_
  refine c_Sh_knows (pc := 2) (d := d + 0) hE (t_Sh_knows (d := d) f0 h) (sh_kd f0) tw_419 (Nat.le_of_ble_eq_true rfl) dX7_hasStretch_2 (fun r2 M2 h => ?_)
  refine e_if_eq (pc := 5) hE 32 dX7_hasStretch_5 (by decide) (fun c0 => ?_) (fun c0 => ?_)
  · have h := h.1 c0
    refine e_iconst (pc := 32) (v := 0) hE ki_0 dX7_hasStretch_32 ?_
    exact hR dX7_hasStretch_33 (Or.inl rfl) h
  · have h := h.2 c0
    refine e_iload_n (pc := 8) hE rfl 2 rfl dX7_hasStretch_8 ?_
    refine e_if_lt (pc := 9) hE 32 dX7_hasStretch_9 (by decide) (fun c0 => ?_) (fun c0 => ?_)
    · have h := h.1 c0
      refine e_iconst (pc := 32) (v := 0) hE ki_0 dX7_hasStretch_32 ?_
      exact hR dX7_hasStretch_33 (Or.inl rfl) h
    · have h := h.2 c0
      refine e_iload_n (pc := 12) hE rfl 3 rfl dX7_hasStretch_12 ?_
      refine e_if_lt (pc := 13) hE 32 dX7_hasStretch_13 (by decide) (fun c0 => ?_) (fun c0 => ?_)
      · have h := h.1 c0
        refine e_iconst (pc := 32) (v := 0) hE ki_0 dX7_hasStretch_32 ?_
        exact hR dX7_hasStretch_33 (Or.inl rfl) h
      · have h := h.2 c0
        refine e_iload_n (pc := 16) hE rfl 2 rfl dX7_hasStretch_16 ?_
        refine e_aload_n (pc := 17) hE rfl 0 rfl dX7_hasStretch_17 ?_
        refine g_Shelf_sizes (pc := 18) hE (sh_kd f0) tw_116 dX7_hasStretch_18 ?_
        refine e_iload_n (pc := 21) hE rfl 1 rfl dX7_hasStretch_21 ?_
        refine e_iald (pc := 22) hE (sh_sizes f0) h.1 dX7_hasStretch_22 ?_
        have h := h.2
        refine e_iload_n (pc := 23) hE rfl 3 rfl dX7_hasStretch_23 ?_
        refine e_isub (pc := 24) hE dX7_hasStretch_24 ?_
        refine e_icmp_gt (pc := 25) hE 32 dX7_hasStretch_25 (by decide) (fun c0 => ?_) (fun c0 => ?_)
        · have h := h.1 c0
          refine e_iconst (pc := 32) (v := 0) hE ki_0 dX7_hasStretch_32 ?_
          exact hR dX7_hasStretch_33 (Or.inl rfl) h
        · have h := h.2 c0
          refine e_iconst (pc := 28) (v := 1) hE ki_1 dX7_hasStretch_28 ?_
          refine e_goto (pc := 29) hE 33 dX7_hasStretch_29 (by decide) ?_
          exact hR dX7_hasStretch_33 (Or.inr rfl) h
set_option maxHeartbeats 4000000 in
set_option maxRecDepth 20000 in
theorem t_Sh_valueAt {l : Launch} {G : Gs} {d : Nat} {a0 : Nat} {a1 : Int32} {a2 : Int32} {M : Mm} {Q : Int32 → Mm → Prop} (f0 : isSh a0) (h : wp_Sh_valueAt a0 a1 a2 M Q) : CtI l G (d + 2) yX7_valueAt cX7_valueAt 3 (some .int) [rv G a0, .int a1, .int a2] M Q := by
  refine CtI.mk (by decide) rfl (Nat.le_of_ble_eq_true rfl) (fun E hE hR => ?_)
  show E 0 [(0, rv G a0), (1, .int a1), (2, .int a2)] [] M
  unfold wp_Sh_valueAt at h
  refine e_aload_n (pc := 0) hE rfl 0 rfl dX7_valueAt_0 ?_
  refine e_iload_n (pc := 1) hE rfl 1 rfl dX7_valueAt_1 ?_
  refine e_iload_n (pc := 2) hE rfl 2 rfl dX7_valueAt_2 ?_
  refine e_iconst (pc := 3) (v := 1) hE ki_1 dX7_valueAt_3 ?_
  refine c_Sh_hasStretch (pc := 4) (d := d + 1) hE (t_Sh_hasStretch (d := d) f0 h) (sh_kd f0) tw_444 (Nat.le_of_ble_eq_true rfl) dX7_valueAt_4 (fun r4 M4 h => ?_)
  refine e_if_eq (pc := 7) hE 21 dX7_valueAt_7 (by decide) (fun c0 => ?_) (fun c0 => ?_)
  · have h := h.1 c0
    refine e_iconst (pc := 21) (v := 0) hE ki_0 dX7_valueAt_21 ?_
    exact hR dX7_valueAt_22 h
  · have h := h.2 c0
    refine e_aload_n (pc := 10) hE rfl 0 rfl dX7_valueAt_10 ?_
    refine g_Shelf_places (pc := 11) hE (sh_kd f0) tw_115 dX7_valueAt_11 ?_
    refine e_iload_n (pc := 14) hE rfl 1 rfl dX7_valueAt_14 ?_
    have hx15 := (rw_of f0) h.1
    refine e_gald (pc := 15) hE (sh_places f0) h.1 dX7_valueAt_15 ?_
    have h := h.2
    refine e_iload_n (pc := 16) hE rfl 2 rfl dX7_valueAt_16 ?_
    refine e_iald (pc := 17) hE hx15 h.1 dX7_valueAt_17 ?_
    have h := h.2
    refine e_goto (pc := 18) hE 22 dX7_valueAt_18 (by decide) ?_
    exact hR dX7_valueAt_22 h
set_option maxHeartbeats 4000000 in
set_option maxRecDepth 20000 in
theorem t_Sh_setValue {l : Launch} {G : Gs} {d : Nat} {a0 : Nat} {a1 : Int32} {a2 : Int32} {a3 : Int32} {M : Mm} {Q : Mm → Prop} (f0 : isSh a0) (h : wp_Sh_setValue a0 a1 a2 a3 M Q) : CtV l G (d + 2) yX7_setValue cX7_setValue 4 (none) [rv G a0, .int a1, .int a2, .int a3] M Q := by
  refine CtV.mk (by decide) rfl (Nat.le_of_ble_eq_true rfl) (fun E hE hR => ?_)
  show E 0 [(0, rv G a0), (1, .int a1), (2, .int a2), (3, .int a3)] [] M
  unfold wp_Sh_setValue at h
  refine e_aload_n (pc := 0) hE rfl 0 rfl dX7_setValue_0 ?_
  refine e_iload_n (pc := 1) hE rfl 1 rfl dX7_setValue_1 ?_
  refine e_iload_n (pc := 2) hE rfl 2 rfl dX7_setValue_2 ?_
  refine e_iconst (pc := 3) (v := 1) hE ki_1 dX7_setValue_3 ?_
  refine c_Sh_hasStretch (pc := 4) (d := d + 1) hE (t_Sh_hasStretch (d := d) f0 h) (sh_kd f0) tw_444 (Nat.le_of_ble_eq_true rfl) dX7_setValue_4 (fun r4 M4 h => ?_)
  refine e_if_eq (pc := 7) hE 19 dX7_setValue_7 (by decide) (fun c0 => ?_) (fun c0 => ?_)
  · have h := h.1 c0
    exact hR dX7_setValue_19 h
  · have h := h.2 c0
    refine e_aload_n (pc := 10) hE rfl 0 rfl dX7_setValue_10 ?_
    refine g_Shelf_places (pc := 11) hE (sh_kd f0) tw_115 dX7_setValue_11 ?_
    refine e_iload_n (pc := 14) hE rfl 1 rfl dX7_setValue_14 ?_
    have hx15 := (rw_of f0) h.1
    refine e_gald (pc := 15) hE (sh_places f0) h.1 dX7_setValue_15 ?_
    have h := h.2
    refine e_iload_n (pc := 16) hE rfl 2 rfl dX7_setValue_16 ?_
    refine e_iload_n (pc := 17) hE rfl 3 rfl dX7_setValue_17 ?_
    refine e_iast (pc := 18) hE hx15 h.1 dX7_setValue_18 ?_
    have h := h.2
    exact hR dX7_setValue_19 h
set_option maxHeartbeats 4000000 in
set_option maxRecDepth 20000 in
theorem t_Sh_drop {l : Launch} {G : Gs} {d : Nat} {a0 : Nat} {a1 : Int32} {M : Mm} {Q : Mm → Prop} (f0 : isSh a0) (h : wp_Sh_drop a0 a1 M Q) : CtV l G (d + 1) yX7_drop cX7_drop 2 (none) [rv G a0, .int a1] M Q := by
  refine CtV.mk (by decide) rfl (Nat.le_of_ble_eq_true rfl) (fun E hE hR => ?_)
  show E 0 [(0, rv G a0), (1, .int a1)] [] M
  unfold wp_Sh_drop at h
  refine e_aload_n (pc := 0) hE rfl 0 rfl dX7_drop_0 ?_
  refine e_iload_n (pc := 1) hE rfl 1 rfl dX7_drop_1 ?_
  refine c_Sh_knows (pc := 2) (d := d + 0) hE (t_Sh_knows (d := d) f0 h) (sh_kd f0) tw_419 (Nat.le_of_ble_eq_true rfl) dX7_drop_2 (fun r2 M2 h => ?_)
  refine e_if_eq (pc := 5) hE 15 dX7_drop_5 (by decide) (fun c0 => ?_) (fun c0 => ?_)
  · have h := h.1 c0
    exact hR dX7_drop_15 h
  · have h := h.2 c0
    refine e_aload_n (pc := 8) hE rfl 0 rfl dX7_drop_8 ?_
    refine g_Shelf_sizes (pc := 9) hE (sh_kd f0) tw_116 dX7_drop_9 ?_
    refine e_iload_n (pc := 12) hE rfl 1 rfl dX7_drop_12 ?_
    refine e_iconst (pc := 13) (v := -1) hE ki_m1 dX7_drop_13 ?_
    refine e_iast (pc := 14) hE (sh_sizes f0) h.1 dX7_drop_14 ?_
    have h := h.2
    exact hR dX7_drop_15 h
set_option maxHeartbeats 4000000 in
set_option maxRecDepth 20000 in
theorem t_Sh_move {l : Launch} {G : Gs} {d : Nat} {a0 : Nat} {a1 : Int32} {a2 : Int32} {a3 : Int32} {a4 : Int32} {a5 : Int32} {M : Mm} {Q : Mm → Prop} (f0 : isSh a0) (h : wp_Sh_move a0 a1 a2 a3 a4 a5 M Q) : CtV l G (d + 2) yX7_move cX7_move 6 (none) [rv G a0, .int a1, .int a2, .int a3, .int a4, .int a5] M Q := by
  refine CtV.mk (by decide) rfl (Nat.le_of_ble_eq_true rfl) (fun E hE hR => ?_)
  show E 0 [(0, rv G a0), (1, .int a1), (2, .int a2), (3, .int a3), (4, .int a4), (5, .int a5)] [] M
  unfold wp_Sh_move at h
  refine e_aload_n (pc := 0) hE rfl 0 rfl dX7_move_0 ?_
  refine e_iload_n (pc := 1) hE rfl 1 rfl dX7_move_1 ?_
  refine e_iload_n (pc := 2) hE rfl 2 rfl dX7_move_2 ?_
  refine e_iload (pc := 3) hE 5 rfl dX7_move_3 ?_
  refine c_Sh_hasStretch (pc := 5) (d := d + 1) hE (t_Sh_hasStretch (d := d) f0 h) (sh_kd f0) tw_444 (Nat.le_of_ble_eq_true rfl) dX7_move_5 (fun r5 M5 h => ?_)
  refine e_if_eq (pc := 8) hE 43 dX7_move_8 (by decide) (fun c0 => ?_) (fun c0 => ?_)
  · have h := h.1 c0
    exact hR dX7_move_43 h
  · have h := h.2 c0
    refine e_aload_n (pc := 11) hE rfl 0 rfl dX7_move_11 ?_
    refine e_iload_n (pc := 12) hE rfl 3 rfl dX7_move_12 ?_
    refine e_iload (pc := 13) hE 4 rfl dX7_move_13 ?_
    refine e_iload (pc := 15) hE 5 rfl dX7_move_15 ?_
    refine c_Sh_hasStretch (pc := 17) (d := d + 1) hE (t_Sh_hasStretch (d := d) f0 h) (sh_kd f0) tw_444 (Nat.le_of_ble_eq_true rfl) dX7_move_17 (fun r17 M17 h => ?_)
    refine e_if_eq (pc := 20) hE 43 dX7_move_20 (by decide) (fun c0 => ?_) (fun c0 => ?_)
    · have h := h.1 c0
      exact hR dX7_move_43 h
    · have h := h.2 c0
      refine e_aload_n (pc := 23) hE rfl 0 rfl dX7_move_23 ?_
      refine g_Shelf_places (pc := 24) hE (sh_kd f0) tw_115 dX7_move_24 ?_
      refine e_iload_n (pc := 27) hE rfl 1 rfl dX7_move_27 ?_
      have hx28 := (rw_of f0) h.1
      refine e_gald (pc := 28) hE (sh_places f0) h.1 dX7_move_28 ?_
      have h := h.2
      refine e_iload_n (pc := 29) hE rfl 2 rfl dX7_move_29 ?_
      refine e_aload_n (pc := 30) hE rfl 0 rfl dX7_move_30 ?_
      refine g_Shelf_places (pc := 31) hE (sh_kd f0) tw_115 dX7_move_31 ?_
      refine e_iload_n (pc := 34) hE rfl 3 rfl dX7_move_34 ?_
      have hx35 := (rw_of f0) h.1
      refine e_gald (pc := 35) hE (sh_places f0) h.1 dX7_move_35 ?_
      have h := h.2
      refine e_iload (pc := 36) hE 4 rfl dX7_move_36 ?_
      refine e_iload (pc := 38) hE 5 rfl dX7_move_38 ?_
      refine e_acopy (pc := 40) hE (by omega) tw_469 tw_acN tw_acS tw_acI hx28 hx35 h.1 h.2.1 h.2.2.1 h.2.2.2.1 h.2.2.2.2.1 (Nat.le_of_ble_eq_true rfl) dX7_move_40 ?_
      have h := h.2.2.2.2.2
      exact hR dX7_move_43 h
set_option maxHeartbeats 4000000 in
set_option maxRecDepth 20000 in
theorem t_Sh_sizeOf {l : Launch} {G : Gs} {d : Nat} {a0 : Nat} {a1 : Int32} {M : Mm} {Q : Int32 → Mm → Prop} (f0 : isSh a0) (h : wp_Sh_sizeOf a0 a1 M Q) : CtI l G (d + 1) yX7_sizeOf cX7_sizeOf 2 (some .int) [rv G a0, .int a1] M Q := by
  refine CtI.mk (by decide) rfl (Nat.le_of_ble_eq_true rfl) (fun E hE hR => ?_)
  show E 0 [(0, rv G a0), (1, .int a1)] [] M
  unfold wp_Sh_sizeOf at h
  refine e_aload_n (pc := 0) hE rfl 0 rfl dX7_sizeOf_0 ?_
  refine e_iload_n (pc := 1) hE rfl 1 rfl dX7_sizeOf_1 ?_
  refine c_Sh_knows (pc := 2) (d := d + 0) hE (t_Sh_knows (d := d) f0 h) (sh_kd f0) tw_419 (Nat.le_of_ble_eq_true rfl) dX7_sizeOf_2 (fun r2 M2 h => ?_)
  refine e_if_eq (pc := 5) hE 17 dX7_sizeOf_5 (by decide) (fun c0 => ?_) (fun c0 => ?_)
  · have h := h.1 c0
    refine e_iconst (pc := 17) (v := -1) hE ki_m1 dX7_sizeOf_17 ?_
    exact hR dX7_sizeOf_18 h
  · have h := h.2 c0
    refine e_aload_n (pc := 8) hE rfl 0 rfl dX7_sizeOf_8 ?_
    refine g_Shelf_sizes (pc := 9) hE (sh_kd f0) tw_116 dX7_sizeOf_9 ?_
    refine e_iload_n (pc := 12) hE rfl 1 rfl dX7_sizeOf_12 ?_
    refine e_iald (pc := 13) hE (sh_sizes f0) h.1 dX7_sizeOf_13 ?_
    have h := h.2
    refine e_goto (pc := 14) hE 18 dX7_sizeOf_14 (by decide) ?_
    exact hR dX7_sizeOf_18 h
set_option maxHeartbeats 4000000 in
set_option maxRecDepth 20000 in
theorem w_Sh_sumOf_5 {l : Launch} {G : Gs} {d : Nat} {E : EE} {a0 : Nat} {a1 : Int32} {Q : Int64 → Mm → Prop} (hE : Mach l G RX7 cX7_sumOf 5 (d + 2) E) (hR : RtL cX7_sumOf E Q) (f0 : isSh a0)  {KB : Int64 → Int32 → Mm → Prop} {v2 : Int64} {v4 : Int32} {M : Mm} (h : k_Sh_sumOf_5 a0 a1 Q KB v2 v4 M) (hKB : ∀ (v2 : Int64) (v4 : Int32)  (M : Mm), KB v2 v4 M → E 5 [(0, rv G a0), (1, .int a1), (2, .long v2), (4, .int v4)] [] M) : E 5 [(0, rv G a0), (1, .int a1), (2, .long v2), (4, .int v4)] [] M := by
  unfold k_Sh_sumOf_5 at h
  refine e_iload (pc := 5) hE 3 rfl dX7_sumOf_5 ?_
  refine e_aload_n (pc := 7) hE rfl 0 rfl dX7_sumOf_7 ?_
  refine e_iload_n (pc := 8) hE rfl 1 rfl dX7_sumOf_8 ?_
  refine c_Sh_sizeOf (pc := 9) (d := d + 1) hE (t_Sh_sizeOf (d := d) f0 h) (sh_kd f0) tw_484 (Nat.le_of_ble_eq_true rfl) dX7_sumOf_9 (fun r9 M9 h => ?_)
  refine e_icmp_ge (pc := 12) hE 34 dX7_sumOf_12 (by decide) (fun c0 => ?_) (fun c0 => ?_)
  · have h := h.1 c0
    refine e_lload_n (pc := 34) hE rfl 2 rfl dX7_sumOf_34 ?_
    exact hR dX7_sumOf_35 h
  · have h := h.2 c0
    refine e_lload_n (pc := 15) hE rfl 2 rfl dX7_sumOf_15 ?_
    refine e_aload_n (pc := 16) hE rfl 0 rfl dX7_sumOf_16 ?_
    refine g_Shelf_places (pc := 17) hE (sh_kd f0) tw_115 dX7_sumOf_17 ?_
    refine e_iload_n (pc := 20) hE rfl 1 rfl dX7_sumOf_20 ?_
    have hx21 := (rw_of f0) h.1
    refine e_gald (pc := 21) hE (sh_places f0) h.1 dX7_sumOf_21 ?_
    have h := h.2
    refine e_iload (pc := 22) hE 3 rfl dX7_sumOf_22 ?_
    refine e_iald (pc := 24) hE hx21 h.1 dX7_sumOf_24 ?_
    have h := h.2
    refine e_i2l (pc := 25) hE dX7_sumOf_25 ?_
    refine e_ladd (pc := 26) hE dX7_sumOf_26 ?_
    refine e_topl (fun x27 ex27 => ?_)
    have h := h x27 ex27
    refine e_lstore_n (pc := 27) (lv' := [(2, .long x27), (0, rv G a0), (1, .int a1), (4, .int v4)]) hE dX7_sumOf_27 rfl (by decide) rfl ?_
    obtain ⟨x28, ex28⟩ : ∃ y : Int32, y = v4 + (1 : Int32) := ⟨_, rfl⟩
    have h := h x28 ex28
    refine e_iinc (pc := 28) (k := 3) (v := x28) (lv' := [(4, .int x28), (2, .long x27), (0, rv G a0), (1, .int a1)]) hE dX7_sumOf_28 rfl (by rw [ex28, ki_1]) (by decide) rfl ?_
    refine e_goto (pc := 31) hE 5 dX7_sumOf_31 (by decide) ?_
    refine e_sub hE [2, 3, 1, 0] rfl ?_
    exact hKB _ _ _ h
set_option maxHeartbeats 4000000 in
set_option maxRecDepth 20000 in
theorem w_lp_Sh_sumOf_5 {l : Launch} {G : Gs} {d : Nat} {E : EE} {a0 : Nat} {a1 : Int32} {Q : Int64 → Mm → Prop} (hE : Mach l G RX7 cX7_sumOf 5 (d + 2) E) (hR : RtL cX7_sumOf E Q) (f0 : isSh a0)   {n : Nat} {v2 : Int64} {v4 : Int32} {M : Mm} (h : lp_Sh_sumOf_5 a0 a1 Q n v2 v4 M)  : E 5 [(0, rv G a0), (1, .int a1), (2, .long v2), (4, .int v4)] [] M := by
  have key : ∀ (n : Nat) (v2 : Int64) (v4 : Int32) (M : Mm), lp_Sh_sumOf_5 a0 a1 Q n v2 v4 M → E 5 [(0, rv G a0), (1, .int a1), (2, .long v2), (4, .int v4)] [] M := by
    intro n
    induction n with
    | zero => intro v2 v4 M h; exact h.elim
    | succ n ih => intro v2 v4 M h; exact w_Sh_sumOf_5 hE hR f0 (show k_Sh_sumOf_5 a0 a1 Q (lp_Sh_sumOf_5 a0 a1 Q n)  v2 v4 M from h) ih 
  exact key n _ _ _ h
set_option maxHeartbeats 4000000 in
set_option maxRecDepth 20000 in
theorem t_Sh_sumOf {l : Launch} {G : Gs} {d : Nat} {a0 : Nat} {a1 : Int32} {M : Mm} {Q : Int64 → Mm → Prop} (f0 : isSh a0) (h : wp_Sh_sumOf a0 a1 M Q) : CtL l G (d + 2) yX7_sumOf cX7_sumOf 5 (some .long) [rv G a0, .int a1] M Q := by
  refine CtL.mk (by decide) rfl (Nat.le_of_ble_eq_true rfl) (fun E hE hR => ?_)
  show E 0 [(0, rv G a0), (1, .int a1)] [] M
  unfold wp_Sh_sumOf at h
  refine e_lconst (pc := 0) (v := 0) hE kl_0 dX7_sumOf_0 ?_
  refine e_lstore_n (pc := 1) (lv' := [(2, .long (0 : Int64)), (0, rv G a0), (1, .int a1)]) hE dX7_sumOf_1 rfl (by decide) rfl ?_
  refine e_iconst (pc := 2) (v := 0) hE ki_0 dX7_sumOf_2 ?_
  refine e_istore (pc := 3) (lv' := [(4, .int (0 : Int32)), (2, .long (0 : Int64)), (0, rv G a0), (1, .int a1)]) hE dX7_sumOf_3 (by decide) rfl ?_
  obtain ⟨n, h⟩ := h
  refine e_sub hE [2, 3, 1, 0] rfl ?_
  refine w_lp_Sh_sumOf_5 hE hR f0 h 
set_option maxHeartbeats 4000000 in
set_option maxRecDepth 20000 in
theorem w_Sh_copyOut_18 {l : Launch} {G : Gs} {d : Nat} {E : EE} {a0 : Nat} {a1 : Int32} {a2 n2 : Nat} {Q : Int32 → Mm → Prop} (hE : Mach l G RX7 cX7_copyOut 5 (d + 2) E) (hR : RtI cX7_copyOut E Q) (f0 : isSh a0) (f2 : kd a2 = 12 ∧ ln a2 = n2)  {KB : Int32 → Int32 → Mm → Prop} {v3 : Int32} {v4 : Int32} {M : Mm} (h : k_Sh_copyOut_18 a0 a1 a2 n2 Q KB v3 v4 M) (hKB : ∀ (v3 : Int32) (v4 : Int32)  (M : Mm), KB v3 v4 M → E 18 [(0, rv G a0), (1, .int a1), (2, rv G a2), (3, .int v3), (4, .int v4)] [] M) : E 18 [(0, rv G a0), (1, .int a1), (2, rv G a2), (3, .int v3), (4, .int v4)] [] M := by
  unfold k_Sh_copyOut_18 at h
  refine e_iload (pc := 18) hE 4 rfl dX7_copyOut_18 ?_
  refine e_iload_n (pc := 20) hE rfl 3 rfl dX7_copyOut_20 ?_
  refine e_icmp_ge (pc := 21) hE 43 dX7_copyOut_21 (by decide) (fun c0 => ?_) (fun c0 => ?_)
  · have h := h.1 c0
    refine e_iload_n (pc := 43) hE rfl 3 rfl dX7_copyOut_43 ?_
    exact hR dX7_copyOut_44 h
  · have h := h.2 c0
    refine e_aload_n (pc := 24) hE rfl 2 rfl dX7_copyOut_24 ?_
    refine e_iload (pc := 25) hE 4 rfl dX7_copyOut_25 ?_
    refine e_aload_n (pc := 27) hE rfl 0 rfl dX7_copyOut_27 ?_
    refine g_Shelf_places (pc := 28) hE (sh_kd f0) tw_115 dX7_copyOut_28 ?_
    refine e_iload_n (pc := 31) hE rfl 1 rfl dX7_copyOut_31 ?_
    have hx32 := (rw_of f0) h.1
    refine e_gald (pc := 32) hE (sh_places f0) h.1 dX7_copyOut_32 ?_
    have h := h.2
    refine e_iload (pc := 33) hE 4 rfl dX7_copyOut_33 ?_
    refine e_iald (pc := 35) hE hx32 h.1 dX7_copyOut_35 ?_
    have h := h.2
    refine e_topi (fun x36 ex36 => ?_)
    have h := h x36 ex36
    refine e_iast (pc := 36) hE f2 h.1 dX7_copyOut_36 ?_
    have h := h.2
    obtain ⟨x37, ex37⟩ : ∃ y : Int32, y = v4 + (1 : Int32) := ⟨_, rfl⟩
    have h := h x37 ex37
    refine e_iinc (pc := 37) (k := 4) (v := x37) (lv' := [(4, .int x37), (0, rv G a0), (1, .int a1), (2, rv G a2), (3, .int v3)]) hE dX7_copyOut_37 rfl (by rw [ex37, ki_1]) (by decide) rfl ?_
    refine e_goto (pc := 40) hE 18 dX7_copyOut_40 (by decide) ?_
    refine e_sub hE [1, 2, 3, 4, 0] rfl ?_
    exact hKB _ _ _ h
set_option maxHeartbeats 4000000 in
set_option maxRecDepth 20000 in
theorem w_lp_Sh_copyOut_18 {l : Launch} {G : Gs} {d : Nat} {E : EE} {a0 : Nat} {a1 : Int32} {a2 n2 : Nat} {Q : Int32 → Mm → Prop} (hE : Mach l G RX7 cX7_copyOut 5 (d + 2) E) (hR : RtI cX7_copyOut E Q) (f0 : isSh a0) (f2 : kd a2 = 12 ∧ ln a2 = n2)   {n : Nat} {v3 : Int32} {v4 : Int32} {M : Mm} (h : lp_Sh_copyOut_18 a0 a1 a2 n2 Q n v3 v4 M)  : E 18 [(0, rv G a0), (1, .int a1), (2, rv G a2), (3, .int v3), (4, .int v4)] [] M := by
  have key : ∀ (n : Nat) (v3 : Int32) (v4 : Int32) (M : Mm), lp_Sh_copyOut_18 a0 a1 a2 n2 Q n v3 v4 M → E 18 [(0, rv G a0), (1, .int a1), (2, rv G a2), (3, .int v3), (4, .int v4)] [] M := by
    intro n
    induction n with
    | zero => intro v3 v4 M h; exact h.elim
    | succ n ih => intro v3 v4 M h; exact w_Sh_copyOut_18 hE hR f0 f2 (show k_Sh_copyOut_18 a0 a1 a2 n2 Q (lp_Sh_copyOut_18 a0 a1 a2 n2 Q n)  v3 v4 M from h) ih 
  exact key n _ _ _ h
set_option maxHeartbeats 4000000 in
set_option maxRecDepth 20000 in
theorem t_Sh_copyOut {l : Launch} {G : Gs} {d : Nat} {a0 : Nat} {a1 : Int32} {a2 n2 : Nat} {M : Mm} {Q : Int32 → Mm → Prop} (f0 : isSh a0) (f2 : kd a2 = 12 ∧ ln a2 = n2) (h : wp_Sh_copyOut a0 a1 a2 n2 M Q) : CtI l G (d + 2) yX7_copyOut cX7_copyOut 5 (some .int) [rv G a0, .int a1, rv G a2] M Q := by
  refine CtI.mk (by decide) rfl (Nat.le_of_ble_eq_true rfl) (fun E hE hR => ?_)
  show E 0 [(0, rv G a0), (1, .int a1), (2, rv G a2)] [] M
  unfold wp_Sh_copyOut at h
  refine e_aload_n (pc := 0) hE rfl 2 rfl dX7_copyOut_0 ?_
  refine e_ilen (pc := 1) hE f2 rfl dX7_copyOut_1 ?_
  refine e_iconst (pc := 2) (v := 0) hE ki_0 dX7_copyOut_2 ?_
  refine e_aload_n (pc := 3) hE rfl 0 rfl dX7_copyOut_3 ?_
  refine e_iload_n (pc := 4) hE rfl 1 rfl dX7_copyOut_4 ?_
  refine c_Sh_sizeOf (pc := 5) (d := d + 1) hE (t_Sh_sizeOf (d := d) f0 h) (sh_kd f0) tw_484 (Nat.le_of_ble_eq_true rfl) dX7_copyOut_5 (fun r5 M5 h => ?_)
  refine e_mmax (pc := 8) hE (by omega) tw_505 tw_maxS tw_MathI tw_maxC (Nat.le_of_ble_eq_true rfl) dX7_copyOut_8 ?_
  refine e_mmin (pc := 11) hE (by omega) tw_508 tw_minS tw_MathI tw_minC (Nat.le_of_ble_eq_true rfl) dX7_copyOut_11 ?_
  refine e_topi (fun x14 ex14 => ?_)
  have h := h x14 ex14
  refine e_istore_n (pc := 14) (lv' := [(3, .int x14), (0, rv G a0), (1, .int a1), (2, rv G a2)]) hE dX7_copyOut_14 rfl (by decide) rfl ?_
  refine e_iconst (pc := 15) (v := 0) hE ki_0 dX7_copyOut_15 ?_
  refine e_istore (pc := 16) (lv' := [(4, .int (0 : Int32)), (3, .int x14), (0, rv G a0), (1, .int a1), (2, rv G a2)]) hE dX7_copyOut_16 (by decide) rfl ?_
  obtain ⟨n, h⟩ := h
  refine e_sub hE [2, 3, 4, 1, 0] rfl ?_
  refine w_lp_Sh_copyOut_18 hE hR f0 f2 h 
set_option maxHeartbeats 4000000 in
set_option maxRecDepth 20000 in
theorem t_Ch_forgetServed {l : Launch} {G : Gs} {d : Nat} {a0 : Nat} {M : Mm} {Q : Mm → Prop} (f0 : isCh a0) (h : wp_Ch_forgetServed a0 M Q) : CtV l G (d + 1) yX0_forgetServed cX0_forgetServed 1 (none) [rv G a0] M Q := by
  refine CtV.mk (by decide) rfl (Nat.le_of_ble_eq_true rfl) (fun E hE hR => ?_)
  show E 0 [(0, rv G a0)] [] M
  unfold wp_Ch_forgetServed at h
  refine e_aload_n (pc := 0) hE rfl 0 rfl dX0_forgetServed_0 ?_
  refine g_Chart_served (pc := 1) hE (ch_kd f0) tw_152 dX0_forgetServed_1 ?_
  refine e_iconst (pc := 4) (v := -1) hE ki_m1 dX0_forgetServed_4 ?_
  refine c_J_fill (pc := 5) (d := d + 0) hE (t_J_fill (d := d) (ch_served f0) h) tw_515 (Nat.le_of_ble_eq_true rfl) dX0_forgetServed_5 (fun M5 h => ?_)
  exact hR dX0_forgetServed_8 h
set_option maxHeartbeats 4000000 in
set_option maxRecDepth 20000 in
theorem t_Ch_clear {l : Launch} {G : Gs} {d : Nat} {a0 : Nat} {M : Mm} {Q : Mm → Prop} (f0 : isCh a0) (h : wp_Ch_clear a0 M Q) : CtV l G (d + 2) yX0_clear cX0_clear 1 (none) [rv G a0] M Q := by
  refine CtV.mk (by decide) rfl (Nat.le_of_ble_eq_true rfl) (fun E hE hR => ?_)
  show E 0 [(0, rv G a0)] [] M
  unfold wp_Ch_clear at h
  refine e_aload_n (pc := 0) hE rfl 0 rfl dX0_clear_0 ?_
  refine e_iconst (pc := 1) (v := 0) hE ki_0 dX0_clear_1 ?_
  refine p_Chart_arms (pc := 2) hE (ch_kd f0) tw_153 dX0_clear_2 ?_
  refine e_aload_n (pc := 5) hE rfl 0 rfl dX0_clear_5 ?_
  refine e_iconst (pc := 6) (v := 0) hE ki_0 dX0_clear_6 ?_
  refine p_Chart_river (pc := 7) hE (ch_kd f0) tw_159 dX0_clear_7 ?_
  refine e_aload_n (pc := 10) hE rfl 0 rfl dX0_clear_10 ?_
  refine g_Chart_waits (pc := 11) hE (ch_kd f0) tw_147 dX0_clear_11 ?_
  refine e_iconst (pc := 14) (v := 0) hE ki_0 dX0_clear_14 ?_
  refine c_J_fill (pc := 15) (d := d + 1 + 0) hE (t_J_fill (d := d + 1) (ch_waits f0) h) tw_515 (Nat.le_of_ble_eq_true rfl) dX0_clear_15 (fun M15 h => ?_)
  refine e_aload_n (pc := 18) hE rfl 0 rfl dX0_clear_18 ?_
  refine c_Ch_forgetServed (pc := 19) (d := d + 1) hE (t_Ch_forgetServed (d := d) f0 h) (ch_kd f0) tw_516 (Nat.le_of_ble_eq_true rfl) dX0_clear_19 (fun M19 h => ?_)
  exact hR dX0_clear_22 h
set_option maxHeartbeats 4000000 in
set_option maxRecDepth 20000 in
theorem t_Rd_nextSign {l : Launch} {G : Gs} {d : Nat} {a0 : Nat} {M : Mm} {Q : Int32 → Mm → Prop} (f0 : isRd a0) (h : wp_Rd_nextSign a0 M Q) : CtI l G (d + 0) yX6_nextSign cX6_nextSign 1 (some .int) [rv G a0] M Q := by
  refine CtI.mk (by decide) rfl (Nat.le_of_ble_eq_true rfl) (fun E hE hR => ?_)
  show E 0 [(0, rv G a0)] [] M
  unfold wp_Rd_nextSign at h
  refine e_aload_n (pc := 0) hE rfl 0 rfl dX6_nextSign_0 ?_
  refine g_Reader_place (pc := 1) hE (rd_kd f0) tw_190 dX6_nextSign_1 ?_
  refine e_aload_n (pc := 4) hE rfl 0 rfl dX6_nextSign_4 ?_
  refine g_Reader_size (pc := 5) hE (rd_kd f0) tw_189 dX6_nextSign_5 ?_
  refine e_icmp_ge (pc := 8) hE 32 dX6_nextSign_8 (by decide) (fun c0 => ?_) (fun c0 => ?_)
  · have h := h.1 c0
    refine e_sipush (pc := 32) (v := 1000) hE ks_1000 dX6_nextSign_32 ?_
    exact hR dX6_nextSign_35 h
  · have h := h.2 c0
    refine e_aload_n (pc := 11) hE rfl 0 rfl dX6_nextSign_11 ?_
    refine g_Reader_place (pc := 12) hE (rd_kd f0) tw_190 dX6_nextSign_12 ?_
    refine e_bipush (pc := 15) (v := 60) hE kb_60 dX6_nextSign_15 ?_
    refine e_icmp_ge (pc := 17) hE 32 dX6_nextSign_17 (by decide) (fun c0 => ?_) (fun c0 => ?_)
    · have h := h.1 c0
      refine e_sipush (pc := 32) (v := 1000) hE ks_1000 dX6_nextSign_32 ?_
      exact hR dX6_nextSign_35 h
    · have h := h.2 c0
      refine e_aload_n (pc := 20) hE rfl 0 rfl dX6_nextSign_20 ?_
      refine g_Reader_signs (pc := 21) hE (rd_kd f0) tw_188 dX6_nextSign_21 ?_
      refine e_aload_n (pc := 24) hE rfl 0 rfl dX6_nextSign_24 ?_
      refine g_Reader_place (pc := 25) hE (rd_kd f0) tw_190 dX6_nextSign_25 ?_
      refine e_iald (pc := 28) hE (rd_signs f0) h.1 dX6_nextSign_28 ?_
      have h := h.2
      refine e_goto (pc := 29) hE 35 dX6_nextSign_29 (by decide) ?_
      exact hR dX6_nextSign_35 h
set_option maxHeartbeats 4000000 in
set_option maxRecDepth 20000 in
theorem w_Rd_skipBlanks_0 {l : Launch} {G : Gs} {d : Nat} {E : EE} {a0 : Nat} {Q : Mm → Prop} (hE : Mach l G RX6 cX6_skipBlanks 1 (d + 1) E) (hR : RtV cX6_skipBlanks E Q) (f0 : isRd a0)  {KB : Mm → Prop}  {M : Mm} (h : k_Rd_skipBlanks_0 a0 Q KB M) (hKB : ∀  (M : Mm), KB M → E 0 [(0, rv G a0)] [] M) : E 0 [(0, rv G a0)] [] M := by
  unfold k_Rd_skipBlanks_0 at h
  refine e_aload_n (pc := 0) hE rfl 0 rfl dX6_skipBlanks_0 ?_
  refine g_Reader_place (pc := 1) hE (rd_kd f0) tw_190 dX6_skipBlanks_1 ?_
  refine e_aload_n (pc := 4) hE rfl 0 rfl dX6_skipBlanks_4 ?_
  refine g_Reader_size (pc := 5) hE (rd_kd f0) tw_189 dX6_skipBlanks_5 ?_
  refine e_icmp_ge (pc := 8) hE 33 dX6_skipBlanks_8 (by decide) (fun c0 => ?_) (fun c0 => ?_)
  · have h := h.1 c0
    exact hR dX6_skipBlanks_33 h
  · have h := h.2 c0
    refine e_aload_n (pc := 11) hE rfl 0 rfl dX6_skipBlanks_11 ?_
    refine c_Rd_nextSign (pc := 12) (d := d + 0) hE (t_Rd_nextSign (d := d) f0 h) (rd_kd f0) tw_528 (Nat.le_of_ble_eq_true rfl) dX6_skipBlanks_12 (fun r12 M12 h => ?_)
    refine e_bipush (pc := 15) (v := 32) hE kb_32 dX6_skipBlanks_15 ?_
    refine e_icmp_ne (pc := 17) hE 33 dX6_skipBlanks_17 (by decide) (fun c0 => ?_) (fun c0 => ?_)
    · have h := h.1 c0
      exact hR dX6_skipBlanks_33 h
    · have h := h.2 c0
      refine e_aload_n (pc := 20) hE rfl 0 rfl dX6_skipBlanks_20 ?_
      refine e_dup (pc := 21) hE rfl dX6_skipBlanks_21 ?_
      refine g_Reader_place (pc := 22) hE (rd_kd f0) tw_190 dX6_skipBlanks_22 ?_
      refine e_iconst (pc := 25) (v := 1) hE ki_1 dX6_skipBlanks_25 ?_
      refine e_iadd (pc := 26) hE dX6_skipBlanks_26 ?_
      refine e_topi (fun x27 ex27 => ?_)
      have h := h x27 ex27
      refine p_Reader_place (pc := 27) hE (rd_kd f0) tw_190 dX6_skipBlanks_27 ?_
      refine e_goto (pc := 30) hE 0 dX6_skipBlanks_30 (by decide) ?_
      exact hKB _ h
set_option maxHeartbeats 4000000 in
set_option maxRecDepth 20000 in
theorem w_lp_Rd_skipBlanks_0 {l : Launch} {G : Gs} {d : Nat} {E : EE} {a0 : Nat} {Q : Mm → Prop} (hE : Mach l G RX6 cX6_skipBlanks 1 (d + 1) E) (hR : RtV cX6_skipBlanks E Q) (f0 : isRd a0)   {n : Nat}  {M : Mm} (h : lp_Rd_skipBlanks_0 a0 Q n M)  : E 0 [(0, rv G a0)] [] M := by
  have key : ∀ (n : Nat)  (M : Mm), lp_Rd_skipBlanks_0 a0 Q n M → E 0 [(0, rv G a0)] [] M := by
    intro n
    induction n with
    | zero => intro M h; exact h.elim
    | succ n ih => intro M h; exact w_Rd_skipBlanks_0 hE hR f0 (show k_Rd_skipBlanks_0 a0 Q (lp_Rd_skipBlanks_0 a0 Q n)  M from h) ih 
  exact key n _ h
set_option maxHeartbeats 4000000 in
set_option maxRecDepth 20000 in
theorem t_Rd_skipBlanks {l : Launch} {G : Gs} {d : Nat} {a0 : Nat} {M : Mm} {Q : Mm → Prop} (f0 : isRd a0) (h : wp_Rd_skipBlanks a0 M Q) : CtV l G (d + 1) yX6_skipBlanks cX6_skipBlanks 1 (none) [rv G a0] M Q := by
  refine CtV.mk (by decide) rfl (Nat.le_of_ble_eq_true rfl) (fun E hE hR => ?_)
  show E 0 [(0, rv G a0)] [] M
  unfold wp_Rd_skipBlanks at h
  obtain ⟨n, h⟩ := h
  refine w_lp_Rd_skipBlanks_0 hE hR f0 h 
set_option maxHeartbeats 4000000 in
set_option maxRecDepth 20000 in
theorem t_Rd_readFigure {l : Launch} {G : Gs} {d : Nat} {a0 : Nat} {a1 : Int32} {a2 : Int32} {M : Mm} {Q : Int32 → Mm → Prop} (f0 : isRd a0) (h : wp_Rd_readFigure a0 a1 a2 M Q) : CtI l G (d + 1) yX6_readFigure cX6_readFigure 4 (some .int) [rv G a0, .int a1, .int a2] M Q := by
  refine CtI.mk (by decide) rfl (Nat.le_of_ble_eq_true rfl) (fun E hE hR => ?_)
  show E 0 [(0, rv G a0), (1, .int a1), (2, .int a2)] [] M
  unfold wp_Rd_readFigure at h
  refine e_aload_n (pc := 0) hE rfl 0 rfl dX6_readFigure_0 ?_
  refine g_Reader_fault (pc := 1) hE (rd_kd f0) tw_192 dX6_readFigure_1 ?_
  refine e_bipush (pc := 4) (v := -9) hE kb_m9 dX6_readFigure_4 ?_
  refine e_icmp_eq (pc := 6) hE 11 dX6_readFigure_6 (by decide) (fun c0 => ?_) (fun c0 => ?_)
  · have h := h.1 c0
    refine e_aload_n (pc := 11) hE rfl 0 rfl dX6_readFigure_11 ?_
    refine c_Rd_nextSign (pc := 12) (d := d + 0) hE (t_Rd_nextSign (d := d) f0 h) (rd_kd f0) tw_528 (Nat.le_of_ble_eq_true rfl) dX6_readFigure_12 (fun r12 M12 h => ?_)
    refine e_bipush (pc := 15) (v := 48) hE kb_48 dX6_readFigure_15 ?_
    refine e_isub (pc := 17) hE dX6_readFigure_17 ?_
    refine e_topi (fun x18 ex18 => ?_)
    have h := h x18 ex18
    refine e_istore_n (pc := 18) (lv' := [(3, .int x18), (0, rv G a0), (1, .int a1), (2, .int a2)]) hE dX6_readFigure_18 rfl (by decide) rfl ?_
    refine e_iload_n (pc := 19) hE rfl 0 rfl dX6_readFigure_19 ?_
    refine e_iload_n (pc := 20) hE rfl 2 rfl dX6_readFigure_20 ?_
    refine e_icmp_lt (pc := 21) hE 29 dX6_readFigure_21 (by decide) (fun c0 => ?_) (fun c0 => ?_)
    · have h := h.1 c0
      refine e_aload_n (pc := 29) hE rfl 1 rfl dX6_readFigure_29 ?_
      refine e_aload_n (pc := 30) hE rfl 1 rfl dX6_readFigure_30 ?_
      refine g_Reader_place (pc := 31) hE (rd_kd f0) tw_190 dX6_readFigure_31 ?_
      refine e_topi (fun x34 ex34 => ?_)
      have h := h x34 ex34
      refine p_Reader_fault (pc := 34) hE (rd_kd f0) tw_192 dX6_readFigure_34 ?_
      refine e_iconst (pc := 37) (v := 0) hE ki_0 dX6_readFigure_37 ?_
      exact hR dX6_readFigure_38 h
    · have h := h.2 c0
      refine e_iload_n (pc := 24) hE rfl 0 rfl dX6_readFigure_24 ?_
      refine e_iload_n (pc := 25) hE rfl 3 rfl dX6_readFigure_25 ?_
      refine e_icmp_le (pc := 26) hE 39 dX6_readFigure_26 (by decide) (fun c0 => ?_) (fun c0 => ?_)
      · have h := h.1 c0
        refine e_aload_n (pc := 39) hE rfl 1 rfl dX6_readFigure_39 ?_
        refine e_dup (pc := 40) hE rfl dX6_readFigure_40 ?_
        refine g_Reader_place (pc := 41) hE (rd_kd f0) tw_190 dX6_readFigure_41 ?_
        refine e_iconst (pc := 44) (v := 1) hE ki_1 dX6_readFigure_44 ?_
        refine e_iadd (pc := 45) hE dX6_readFigure_45 ?_
        refine e_topi (fun x46 ex46 => ?_)
        have h := h x46 ex46
        refine p_Reader_place (pc := 46) hE (rd_kd f0) tw_190 dX6_readFigure_46 ?_
        refine e_iload_n (pc := 49) hE rfl 0 rfl dX6_readFigure_49 ?_
        exact hR dX6_readFigure_50 h
      · have h := h.2 c0
        refine e_aload_n (pc := 29) hE rfl 1 rfl dX6_readFigure_29 ?_
        refine e_aload_n (pc := 30) hE rfl 1 rfl dX6_readFigure_30 ?_
        refine g_Reader_place (pc := 31) hE (rd_kd f0) tw_190 dX6_readFigure_31 ?_
        refine e_topi (fun x34 ex34 => ?_)
        have h := h x34 ex34
        refine p_Reader_fault (pc := 34) hE (rd_kd f0) tw_192 dX6_readFigure_34 ?_
        refine e_iconst (pc := 37) (v := 0) hE ki_0 dX6_readFigure_37 ?_
        exact hR dX6_readFigure_38 h
  · have h := h.2 c0
    refine e_iconst (pc := 9) (v := 0) hE ki_0 dX6_readFigure_9 ?_
    exact hR dX6_readFigure_10 h
set_option maxHeartbeats 4000000 in
set_option maxRecDepth 20000 in
theorem t_Rd_readRiver {l : Launch} {G : Gs} {d : Nat} {a0 : Nat} {M : Mm} {Q : Mm → Prop} (f0 : isRd a0) (h : wp_Rd_readRiver a0 M Q) : CtV l G (d + 2) yX6_readRiver cX6_readRiver 1 (none) [rv G a0] M Q := by
  refine CtV.mk (by decide) rfl (Nat.le_of_ble_eq_true rfl) (fun E hE hR => ?_)
  show E 0 [(0, rv G a0)] [] M
  unfold wp_Rd_readRiver at h
  refine e_aload_n (pc := 0) hE rfl 0 rfl dX6_readRiver_0 ?_
  refine c_Rd_skipBlanks (pc := 1) (d := d + 1) hE (t_Rd_skipBlanks (d := d) f0 h) (rd_kd f0) tw_524 (Nat.le_of_ble_eq_true rfl) dX6_readRiver_1 (fun M1 h => ?_)
  refine e_aload_n (pc := 4) hE rfl 0 rfl dX6_readRiver_4 ?_
  refine c_Rd_nextSign (pc := 5) (d := d + 1 + 0) hE (t_Rd_nextSign (d := d + 1) f0 h) (rd_kd f0) tw_528 (Nat.le_of_ble_eq_true rfl) dX6_readRiver_5 (fun r5 M5 h => ?_)
  refine e_bipush (pc := 8) (v := 114) hE kb_114 dX6_readRiver_8 ?_
  refine e_icmp_eq (pc := 10) hE 22 dX6_readRiver_10 (by decide) (fun c0 => ?_) (fun c0 => ?_)
  · have h := h.1 c0
    refine e_aload_n (pc := 22) hE rfl 0 rfl dX6_readRiver_22 ?_
    refine e_dup (pc := 23) hE rfl dX6_readRiver_23 ?_
    refine g_Reader_place (pc := 24) hE (rd_kd f0) tw_190 dX6_readRiver_24 ?_
    refine e_iconst (pc := 27) (v := 1) hE ki_1 dX6_readRiver_27 ?_
    refine e_iadd (pc := 28) hE dX6_readRiver_28 ?_
    refine e_topi (fun x29 ex29 => ?_)
    have h := h x29 ex29
    refine p_Reader_place (pc := 29) hE (rd_kd f0) tw_190 dX6_readRiver_29 ?_
    refine e_aload_n (pc := 32) hE rfl 0 rfl dX6_readRiver_32 ?_
    refine g_Reader_chart (pc := 33) hE (rd_kd f0) tw_187 dX6_readRiver_33 ?_
    refine e_iconst (pc := 36) (v := 3) hE ki_3 dX6_readRiver_36 ?_
    refine e_aload_n (pc := 37) hE rfl 0 rfl dX6_readRiver_37 ?_
    refine e_iconst (pc := 38) (v := 1) hE ki_1 dX6_readRiver_38 ?_
    refine e_bipush (pc := 39) (v := 9) hE kb_9 dX6_readRiver_39 ?_
    refine c_Rd_readFigure (pc := 41) (d := d + 1) hE (t_Rd_readFigure (d := d) f0 h) (rd_kd f0) tw_532 (Nat.le_of_ble_eq_true rfl) dX6_readRiver_41 (fun r41 M41 h => ?_)
    refine e_imul (pc := 44) hE dX6_readRiver_44 ?_
    refine e_topi (fun x45 ex45 => ?_)
    have h := h x45 ex45
    refine p_Chart_river (pc := 45) hE (ch_kd (chOf_ch f0)) tw_160 dX6_readRiver_45 ?_
    exact hR dX6_readRiver_48 h
  · have h := h.2 c0
    refine e_aload_n (pc := 13) hE rfl 0 rfl dX6_readRiver_13 ?_
    refine e_aload_n (pc := 14) hE rfl 0 rfl dX6_readRiver_14 ?_
    refine g_Reader_place (pc := 15) hE (rd_kd f0) tw_190 dX6_readRiver_15 ?_
    refine e_topi (fun x18 ex18 => ?_)
    have h := h x18 ex18
    refine p_Reader_fault (pc := 18) hE (rd_kd f0) tw_192 dX6_readRiver_18 ?_
    exact hR dX6_readRiver_21 h
set_option maxHeartbeats 4000000 in
set_option maxRecDepth 20000 in
theorem t_Rd_readWait {l : Launch} {G : Gs} {d : Nat} {a0 : Nat} {M : Mm} {Q : Mm → Prop} (f0 : isRd a0) (h : wp_Rd_readWait a0 M Q) : CtV l G (d + 2) yX6_readWait cX6_readWait 4 (none) [rv G a0] M Q := by
  refine CtV.mk (by decide) rfl (Nat.le_of_ble_eq_true rfl) (fun E hE hR => ?_)
  show E 0 [(0, rv G a0)] [] M
  unfold wp_Rd_readWait at h
  refine e_aload_n (pc := 0) hE rfl 0 rfl dX6_readWait_0 ?_
  refine g_Reader_chart (pc := 1) hE (rd_kd f0) tw_187 dX6_readWait_1 ?_
  refine g_Chart_arms (pc := 4) hE (ch_kd (chOf_ch f0)) tw_155 dX6_readWait_4 ?_
  refine e_if_eq (pc := 7) hE 19 dX6_readWait_7 (by decide) (fun c0 => ?_) (fun c0 => ?_)
  · have h := h.1 c0
    refine e_aload_n (pc := 19) hE rfl 0 rfl dX6_readWait_19 ?_
    refine e_aload_n (pc := 20) hE rfl 0 rfl dX6_readWait_20 ?_
    refine g_Reader_place (pc := 21) hE (rd_kd f0) tw_190 dX6_readWait_21 ?_
    refine e_topi (fun x24 ex24 => ?_)
    have h := h x24 ex24
    refine p_Reader_fault (pc := 24) hE (rd_kd f0) tw_192 dX6_readWait_24 ?_
    exact hR dX6_readWait_27 h
  · have h := h.2 c0
    refine e_aload_n (pc := 10) hE rfl 0 rfl dX6_readWait_10 ?_
    refine g_Reader_waitsRead (pc := 11) hE (rd_kd f0) tw_191 dX6_readWait_11 ?_
    refine e_bipush (pc := 14) (v := 8) hE kb_8 dX6_readWait_14 ?_
    refine e_icmp_lt (pc := 16) hE 28 dX6_readWait_16 (by decide) (fun c0 => ?_) (fun c0 => ?_)
    · have h := h.1 c0
      refine e_aload_n (pc := 28) hE rfl 0 rfl dX6_readWait_28 ?_
      refine e_dup (pc := 29) hE rfl dX6_readWait_29 ?_
      refine g_Reader_place (pc := 30) hE (rd_kd f0) tw_190 dX6_readWait_30 ?_
      refine e_iconst (pc := 33) (v := 1) hE ki_1 dX6_readWait_33 ?_
      refine e_iadd (pc := 34) hE dX6_readWait_34 ?_
      refine e_topi (fun x35 ex35 => ?_)
      have h := h x35 ex35
      refine p_Reader_place (pc := 35) hE (rd_kd f0) tw_190 dX6_readWait_35 ?_
      refine e_aload_n (pc := 38) hE rfl 0 rfl dX6_readWait_38 ?_
      refine e_iconst (pc := 39) (v := 0) hE ki_0 dX6_readWait_39 ?_
      refine e_aload_n (pc := 40) hE rfl 0 rfl dX6_readWait_40 ?_
      refine g_Reader_chart (pc := 41) hE (rd_kd f0) tw_187 dX6_readWait_41 ?_
      refine g_Chart_arms (pc := 44) hE (ch_kd (chOf_ch f0)) tw_155 dX6_readWait_44 ?_
      refine e_iconst (pc := 47) (v := 1) hE ki_1 dX6_readWait_47 ?_
      refine e_isub (pc := 48) hE dX6_readWait_48 ?_
      refine c_Rd_readFigure (pc := 49) (d := d + 1) hE (t_Rd_readFigure (d := d) f0 h) (rd_kd f0) tw_532 (Nat.le_of_ble_eq_true rfl) dX6_readWait_49 (fun r49 M49 h => ?_)
      refine e_istore_n (pc := 52) (lv' := [(1, .int r49), (0, rv G a0)]) hE dX6_readWait_52 rfl (by decide) rfl ?_
      refine e_aload_n (pc := 53) hE rfl 1 rfl dX6_readWait_53 ?_
      refine g_Reader_place (pc := 54) hE (rd_kd f0) tw_190 dX6_readWait_54 ?_
      refine e_topi (fun x57 ex57 => ?_)
      have h := h x57 ex57
      refine e_istore_n (pc := 57) (lv' := [(2, .int x57), (1, .int r49), (0, rv G a0)]) hE dX6_readWait_57 rfl (by decide) rfl ?_
      refine e_aload_n (pc := 58) hE rfl 2 rfl dX6_readWait_58 ?_
      refine e_iconst (pc := 59) (v := 0) hE ki_0 dX6_readWait_59 ?_
      refine e_aload_n (pc := 60) hE rfl 2 rfl dX6_readWait_60 ?_
      refine g_Reader_chart (pc := 61) hE (rd_kd f0) tw_187 dX6_readWait_61 ?_
      refine g_Chart_arms (pc := 64) hE (ch_kd (chOf_ch f0)) tw_155 dX6_readWait_64 ?_
      refine e_iconst (pc := 67) (v := 1) hE ki_1 dX6_readWait_67 ?_
      refine e_isub (pc := 68) hE dX6_readWait_68 ?_
      refine c_Rd_readFigure (pc := 69) (d := d + 1) hE (t_Rd_readFigure (d := d) f0 h) (rd_kd f0) tw_532 (Nat.le_of_ble_eq_true rfl) dX6_readWait_69 (fun r69 M69 h => ?_)
      refine e_istore_n (pc := 72) (lv' := [(3, .int r69), (2, .int x57), (1, .int r49), (0, rv G a0)]) hE dX6_readWait_72 rfl (by decide) rfl ?_
      refine e_aload_n (pc := 73) hE rfl 3 rfl dX6_readWait_73 ?_
      refine g_Reader_fault (pc := 74) hE (rd_kd f0) tw_192 dX6_readWait_74 ?_
      refine e_bipush (pc := 77) (v := -9) hE kb_m9 dX6_readWait_77 ?_
      refine e_icmp_eq (pc := 79) hE 83 dX6_readWait_79 (by decide) (fun c0 => ?_) (fun c0 => ?_)
      · have h := h.1 c0
        refine e_iload_n (pc := 83) hE rfl 2 rfl dX6_readWait_83 ?_
        refine e_iload_n (pc := 84) hE rfl 0 rfl dX6_readWait_84 ?_
        refine e_icmp_eq (pc := 85) hE 104 dX6_readWait_85 (by decide) (fun c0 => ?_) (fun c0 => ?_)
        · have h := h.1 c0
          refine e_aload_n (pc := 104) hE rfl 3 rfl dX6_readWait_104 ?_
          refine e_iload_n (pc := 105) hE rfl 1 rfl dX6_readWait_105 ?_
          refine p_Reader_fault (pc := 106) hE (rd_kd f0) tw_192 dX6_readWait_106 ?_
          exact hR dX6_readWait_109 h
        · have h := h.2 c0
          refine e_aload_n (pc := 88) hE rfl 3 rfl dX6_readWait_88 ?_
          refine g_Reader_chart (pc := 89) hE (rd_kd f0) tw_187 dX6_readWait_89 ?_
          refine g_Chart_waits (pc := 92) hE (ch_kd (chOf_ch f0)) tw_150 dX6_readWait_92 ?_
          refine e_iload_n (pc := 95) hE rfl 2 rfl dX6_readWait_95 ?_
          refine e_iald (pc := 96) hE (ch_waits (chOf_ch f0)) h.1 dX6_readWait_96 ?_
          have h := h.2
          refine e_iload_n (pc := 97) hE rfl 0 rfl dX6_readWait_97 ?_
          refine cN_B_hasBit (pc := 98) (d := d + 1 + 0) hE (t_B_hasBit (d := d + 1)  h) tn_544 (Nat.le_of_ble_eq_true rfl) dX6_readWait_98 (fun r98 M98 h => ?_)
          refine e_if_eq (pc := 101) hE 110 dX6_readWait_101 (by decide) (fun c0 => ?_) (fun c0 => ?_)
          · have h := h.1 c0
            refine e_aload_n (pc := 110) hE rfl 3 rfl dX6_readWait_110 ?_
            refine g_Reader_chart (pc := 111) hE (rd_kd f0) tw_187 dX6_readWait_111 ?_
            refine g_Chart_waits (pc := 114) hE (ch_kd (chOf_ch f0)) tw_150 dX6_readWait_114 ?_
            refine e_iload_n (pc := 117) hE rfl 2 rfl dX6_readWait_117 ?_
            refine e_dup2 (pc := 118) hE rfl rfl dX6_readWait_118 ?_
            refine e_iald (pc := 119) hE (ch_waits (chOf_ch f0)) h.1 dX6_readWait_119 ?_
            have h := h.2
            refine e_iconst (pc := 120) (v := 1) hE ki_1 dX6_readWait_120 ?_
            refine e_iload_n (pc := 121) hE rfl 0 rfl dX6_readWait_121 ?_
            refine e_ishl (pc := 122) hE dX6_readWait_122 ?_
            refine e_ior (pc := 123) hE dX6_readWait_123 ?_
            refine e_topi (fun x124 ex124 => ?_)
            have h := h x124 ex124
            refine e_iast (pc := 124) hE (ch_waits (chOf_ch f0)) h.1 dX6_readWait_124 ?_
            have h := h.2
            refine e_aload_n (pc := 125) hE rfl 3 rfl dX6_readWait_125 ?_
            refine e_dup (pc := 126) hE rfl dX6_readWait_126 ?_
            refine g_Reader_waitsRead (pc := 127) hE (rd_kd f0) tw_191 dX6_readWait_127 ?_
            refine e_iconst (pc := 130) (v := 1) hE ki_1 dX6_readWait_130 ?_
            refine e_iadd (pc := 131) hE dX6_readWait_131 ?_
            refine e_topi (fun x132 ex132 => ?_)
            have h := h x132 ex132
            refine p_Reader_waitsRead (pc := 132) hE (rd_kd f0) tw_191 dX6_readWait_132 ?_
            exact hR dX6_readWait_135 h
          · have h := h.2 c0
            refine e_aload_n (pc := 104) hE rfl 3 rfl dX6_readWait_104 ?_
            refine e_iload_n (pc := 105) hE rfl 1 rfl dX6_readWait_105 ?_
            refine p_Reader_fault (pc := 106) hE (rd_kd f0) tw_192 dX6_readWait_106 ?_
            exact hR dX6_readWait_109 h
      · have h := h.2 c0
        exact hR dX6_readWait_82 h
    · have h := h.2 c0
      refine e_aload_n (pc := 19) hE rfl 0 rfl dX6_readWait_19 ?_
      refine e_aload_n (pc := 20) hE rfl 0 rfl dX6_readWait_20 ?_
      refine g_Reader_place (pc := 21) hE (rd_kd f0) tw_190 dX6_readWait_21 ?_
      refine e_topi (fun x24 ex24 => ?_)
      have h := h x24 ex24
      refine p_Reader_fault (pc := 24) hE (rd_kd f0) tw_192 dX6_readWait_24 ?_
      exact hR dX6_readWait_27 h
set_option maxHeartbeats 4000000 in
set_option maxRecDepth 20000 in
theorem w_Ch_kindOfLetter_2 {l : Launch} {G : Gs} {d : Nat} {E : EE} {a0 : Int32} {Q : Int32 → Mm → Prop} (hE : Mach l G RX0 cX0_kindOfLetter 2 (d + 0) E) (hR : RtI cX0_kindOfLetter E Q)   {KB : Int32 → Mm → Prop} {v1 : Int32} {M : Mm} (h : k_Ch_kindOfLetter_2 a0 Q KB v1 M) (hKB : ∀ (v1 : Int32)  (M : Mm), KB v1 M → E 2 [(0, .int a0), (1, .int v1)] [] M) : E 2 [(0, .int a0), (1, .int v1)] [] M := by
  unfold k_Ch_kindOfLetter_2 at h
  refine e_iload_n (pc := 2) hE rfl 1 rfl dX0_kindOfLetter_2 ?_
  refine e_getLETTERS (pc := 3) hE tw_550 dX0_kindOfLetter_3 ?_
  refine e_lenLETTERS (pc := 6) hE dX0_kindOfLetter_6 ?_
  refine e_icmp_ge (pc := 7) hE 27 dX0_kindOfLetter_7 (by decide) (fun c0 => ?_) (fun c0 => ?_)
  · have h := h.1 c0
    refine e_bipush (pc := 27) (v := -9) hE kb_m9 dX0_kindOfLetter_27 ?_
    exact hR dX0_kindOfLetter_29 h
  · have h := h.2 c0
    refine e_getLETTERS (pc := 10) hE tw_550 dX0_kindOfLetter_10 ?_
    refine e_iload_n (pc := 13) hE rfl 1 rfl dX0_kindOfLetter_13 ?_
    refine e_aldLETTERS (pc := 14) hE h.1 dX0_kindOfLetter_14 ?_
    have h := h.2
    refine e_iload_n (pc := 15) hE rfl 0 rfl dX0_kindOfLetter_15 ?_
    refine e_icmp_ne (pc := 16) hE 21 dX0_kindOfLetter_16 (by decide) (fun c0 => ?_) (fun c0 => ?_)
    · have h := h.1 c0
      obtain ⟨x21, ex21⟩ : ∃ y : Int32, y = v1 + (1 : Int32) := ⟨_, rfl⟩
      have h := h x21 ex21
      refine e_iinc (pc := 21) (k := 1) (v := x21) (lv' := [(1, .int x21), (0, .int a0)]) hE dX0_kindOfLetter_21 rfl (by rw [ex21, ki_1]) (by decide) rfl ?_
      refine e_goto (pc := 24) hE 2 dX0_kindOfLetter_24 (by decide) ?_
      refine e_sub hE [1, 0] rfl ?_
      exact hKB _ _ h
    · have h := h.2 c0
      refine e_iload_n (pc := 19) hE rfl 1 rfl dX0_kindOfLetter_19 ?_
      exact hR dX0_kindOfLetter_20 h
set_option maxHeartbeats 4000000 in
set_option maxRecDepth 20000 in
theorem w_lp_Ch_kindOfLetter_2 {l : Launch} {G : Gs} {d : Nat} {E : EE} {a0 : Int32} {Q : Int32 → Mm → Prop} (hE : Mach l G RX0 cX0_kindOfLetter 2 (d + 0) E) (hR : RtI cX0_kindOfLetter E Q)    {n : Nat} {v1 : Int32} {M : Mm} (h : lp_Ch_kindOfLetter_2 a0 Q n v1 M)  : E 2 [(0, .int a0), (1, .int v1)] [] M := by
  have key : ∀ (n : Nat) (v1 : Int32) (M : Mm), lp_Ch_kindOfLetter_2 a0 Q n v1 M → E 2 [(0, .int a0), (1, .int v1)] [] M := by
    intro n
    induction n with
    | zero => intro v1 M h; exact h.elim
    | succ n ih => intro v1 M h; exact w_Ch_kindOfLetter_2 hE hR  (show k_Ch_kindOfLetter_2 a0 Q (lp_Ch_kindOfLetter_2 a0 Q n)  v1 M from h) ih 
  exact key n _ _ h
set_option maxHeartbeats 4000000 in
set_option maxRecDepth 20000 in
theorem t_Ch_kindOfLetter {l : Launch} {G : Gs} {d : Nat} {a0 : Int32} {M : Mm} {Q : Int32 → Mm → Prop}  (h : wp_Ch_kindOfLetter a0 M Q) : CtI l G (d + 0) yX0_kindOfLetter cX0_kindOfLetter 2 (some .int) [.int a0] M Q := by
  refine CtI.mk (by decide) rfl (Nat.le_of_ble_eq_true rfl) (fun E hE hR => ?_)
  show E 0 [(0, .int a0)] [] M
  unfold wp_Ch_kindOfLetter at h
  refine e_iconst (pc := 0) (v := 0) hE ki_0 dX0_kindOfLetter_0 ?_
  refine e_istore_n (pc := 1) (lv' := [(1, .int (0 : Int32)), (0, .int a0)]) hE dX0_kindOfLetter_1 rfl (by decide) rfl ?_
  obtain ⟨n, h⟩ := h
  refine e_sub hE [1, 0] rfl ?_
  refine w_lp_Ch_kindOfLetter_2 hE hR  h 
set_option maxHeartbeats 4000000 in
set_option maxRecDepth 20000 in
theorem t_Rd_readArm {l : Launch} {G : Gs} {d : Nat} {a0 : Nat} {a1 : Int32} {M : Mm} {Q : Mm → Prop} (f0 : isRd a0) (h : wp_Rd_readArm a0 a1 M Q) : CtV l G (d + 2) yX6_readArm cX6_readArm 3 (none) [rv G a0, .int a1] M Q := by
  refine CtV.mk (by decide) rfl (Nat.le_of_ble_eq_true rfl) (fun E hE hR => ?_)
  show E 0 [(0, rv G a0), (1, .int a1)] [] M
  unfold wp_Rd_readArm at h
  refine e_aload_n (pc := 0) hE rfl 0 rfl dX6_readArm_0 ?_
  refine e_dup (pc := 1) hE rfl dX6_readArm_1 ?_
  refine g_Reader_place (pc := 2) hE (rd_kd f0) tw_190 dX6_readArm_2 ?_
  refine e_iconst (pc := 5) (v := 1) hE ki_1 dX6_readArm_5 ?_
  refine e_iadd (pc := 6) hE dX6_readArm_6 ?_
  refine e_topi (fun x7 ex7 => ?_)
  have h := h x7 ex7
  refine p_Reader_place (pc := 7) hE (rd_kd f0) tw_190 dX6_readArm_7 ?_
  refine e_aload_n (pc := 10) hE rfl 0 rfl dX6_readArm_10 ?_
  refine g_Reader_chart (pc := 11) hE (rd_kd f0) tw_187 dX6_readArm_11 ?_
  refine g_Chart_arms (pc := 14) hE (ch_kd (chOf_ch f0)) tw_155 dX6_readArm_14 ?_
  refine e_topi (fun x17 ex17 => ?_)
  have h := h x17 ex17
  refine e_istore_n (pc := 17) (lv' := [(2, .int x17), (0, rv G a0), (1, .int a1)]) hE dX6_readArm_17 rfl (by decide) rfl ?_
  refine e_aload_n (pc := 18) hE rfl 1 rfl dX6_readArm_18 ?_
  refine g_Reader_chart (pc := 19) hE (rd_kd f0) tw_187 dX6_readArm_19 ?_
  refine g_Chart_kind (pc := 22) hE (ch_kd (chOf_ch f0)) tw_132 dX6_readArm_22 ?_
  refine e_iload_n (pc := 25) hE rfl 0 rfl dX6_readArm_25 ?_
  refine e_iload_n (pc := 26) hE rfl 2 rfl dX6_readArm_26 ?_
  refine e_iast (pc := 27) hE (ch_kind (chOf_ch f0)) h.1 dX6_readArm_27 ?_
  have h := h.2
  refine e_aload_n (pc := 28) hE rfl 1 rfl dX6_readArm_28 ?_
  refine g_Reader_chart (pc := 29) hE (rd_kd f0) tw_187 dX6_readArm_29 ?_
  refine g_Chart_width (pc := 32) hE (ch_kd (chOf_ch f0)) tw_136 dX6_readArm_32 ?_
  refine e_iload_n (pc := 35) hE rfl 0 rfl dX6_readArm_35 ?_
  refine e_aload_n (pc := 36) hE rfl 1 rfl dX6_readArm_36 ?_
  refine e_iconst (pc := 37) (v := 1) hE ki_1 dX6_readArm_37 ?_
  refine e_bipush (pc := 38) (v := 9) hE kb_9 dX6_readArm_38 ?_
  refine c_Rd_readFigure (pc := 40) (d := d + 1) hE (t_Rd_readFigure (d := d) f0 h) (rd_kd f0) tw_532 (Nat.le_of_ble_eq_true rfl) dX6_readArm_40 (fun r40 M40 h => ?_)
  refine e_iast (pc := 43) hE (ch_width (chOf_ch f0)) h.1 dX6_readArm_43 ?_
  have h := h.2
  refine e_aload_n (pc := 44) hE rfl 1 rfl dX6_readArm_44 ?_
  refine g_Reader_chart (pc := 45) hE (rd_kd f0) tw_187 dX6_readArm_45 ?_
  refine g_Chart_need (pc := 48) hE (ch_kd (chOf_ch f0)) tw_139 dX6_readArm_48 ?_
  refine e_iload_n (pc := 51) hE rfl 0 rfl dX6_readArm_51 ?_
  refine e_aload_n (pc := 52) hE rfl 1 rfl dX6_readArm_52 ?_
  refine e_iconst (pc := 53) (v := 0) hE ki_0 dX6_readArm_53 ?_
  refine e_bipush (pc := 54) (v := 9) hE kb_9 dX6_readArm_54 ?_
  refine c_Rd_readFigure (pc := 56) (d := d + 1) hE (t_Rd_readFigure (d := d) f0 h) (rd_kd f0) tw_532 (Nat.le_of_ble_eq_true rfl) dX6_readArm_56 (fun r56 M56 h => ?_)
  refine e_iast (pc := 59) hE (ch_need (chOf_ch f0)) h.1 dX6_readArm_59 ?_
  have h := h.2
  refine e_aload_n (pc := 60) hE rfl 1 rfl dX6_readArm_60 ?_
  refine g_Reader_chart (pc := 61) hE (rd_kd f0) tw_187 dX6_readArm_61 ?_
  refine g_Chart_year (pc := 64) hE (ch_kd (chOf_ch f0)) tw_142 dX6_readArm_64 ?_
  refine e_iload_n (pc := 67) hE rfl 0 rfl dX6_readArm_67 ?_
  refine e_aload_n (pc := 68) hE rfl 1 rfl dX6_readArm_68 ?_
  refine e_iconst (pc := 69) (v := 1) hE ki_1 dX6_readArm_69 ?_
  refine e_bipush (pc := 70) (v := 6) hE kb_6 dX6_readArm_70 ?_
  refine c_Rd_readFigure (pc := 72) (d := d + 1) hE (t_Rd_readFigure (d := d) f0 h) (rd_kd f0) tw_532 (Nat.le_of_ble_eq_true rfl) dX6_readArm_72 (fun r72 M72 h => ?_)
  refine e_iast (pc := 75) hE (ch_year (chOf_ch f0)) h.1 dX6_readArm_75 ?_
  have h := h.2
  refine e_aload_n (pc := 76) hE rfl 1 rfl dX6_readArm_76 ?_
  refine g_Reader_chart (pc := 77) hE (rd_kd f0) tw_187 dX6_readArm_77 ?_
  refine g_Chart_day (pc := 80) hE (ch_kd (chOf_ch f0)) tw_145 dX6_readArm_80 ?_
  refine e_iload_n (pc := 83) hE rfl 0 rfl dX6_readArm_83 ?_
  refine e_aload_n (pc := 84) hE rfl 1 rfl dX6_readArm_84 ?_
  refine e_iconst (pc := 85) (v := 0) hE ki_0 dX6_readArm_85 ?_
  refine e_aload_n (pc := 86) hE rfl 1 rfl dX6_readArm_86 ?_
  refine g_Reader_chart (pc := 87) hE (rd_kd f0) tw_187 dX6_readArm_87 ?_
  refine g_Chart_year (pc := 90) hE (ch_kd (chOf_ch f0)) tw_142 dX6_readArm_90 ?_
  refine e_iload_n (pc := 93) hE rfl 0 rfl dX6_readArm_93 ?_
  refine e_iald (pc := 94) hE (ch_year (chOf_ch f0)) h.1 dX6_readArm_94 ?_
  have h := h.2
  refine e_iconst (pc := 95) (v := 1) hE ki_1 dX6_readArm_95 ?_
  refine e_isub (pc := 96) hE dX6_readArm_96 ?_
  refine c_Rd_readFigure (pc := 97) (d := d + 1) hE (t_Rd_readFigure (d := d) f0 h) (rd_kd f0) tw_532 (Nat.le_of_ble_eq_true rfl) dX6_readArm_97 (fun r97 M97 h => ?_)
  refine e_iast (pc := 100) hE (ch_day (chOf_ch f0)) h.1 dX6_readArm_100 ?_
  have h := h.2
  refine e_aload_n (pc := 101) hE rfl 1 rfl dX6_readArm_101 ?_
  refine g_Reader_chart (pc := 102) hE (rd_kd f0) tw_187 dX6_readArm_102 ?_
  refine e_dup (pc := 105) hE rfl dX6_readArm_105 ?_
  refine g_Chart_arms (pc := 106) hE (ch_kd (chOf_ch f0)) tw_155 dX6_readArm_106 ?_
  refine e_iconst (pc := 109) (v := 1) hE ki_1 dX6_readArm_109 ?_
  refine e_iadd (pc := 110) hE dX6_readArm_110 ?_
  refine e_topi (fun x111 ex111 => ?_)
  have h := h x111 ex111
  refine p_Chart_arms (pc := 111) hE (ch_kd (chOf_ch f0)) tw_155 dX6_readArm_111 ?_
  exact hR dX6_readArm_114 h
set_option maxHeartbeats 4000000 in
set_option maxRecDepth 20000 in
theorem t_Rd_readItem {l : Launch} {G : Gs} {d : Nat} {a0 : Nat} {M : Mm} {Q : Mm → Prop} (f0 : isRd a0) (h : wp_Rd_readItem a0 M Q) : CtV l G (d + 3) yX6_readItem cX6_readItem 2 (none) [rv G a0] M Q := by
  refine CtV.mk (by decide) rfl (Nat.le_of_ble_eq_true rfl) (fun E hE hR => ?_)
  show E 0 [(0, rv G a0)] [] M
  unfold wp_Rd_readItem at h
  refine e_aload_n (pc := 0) hE rfl 0 rfl dX6_readItem_0 ?_
  refine c_Rd_nextSign (pc := 1) (d := d + 2 + 0) hE (t_Rd_nextSign (d := d + 2) f0 h) (rd_kd f0) tw_528 (Nat.le_of_ble_eq_true rfl) dX6_readItem_1 (fun r1 M1 h => ?_)
  refine e_bipush (pc := 4) (v := 119) hE kb_119 dX6_readItem_4 ?_
  refine e_icmp_ne (pc := 6) hE 14 dX6_readItem_6 (by decide) (fun c0 => ?_) (fun c0 => ?_)
  · have h := h.1 c0
    refine e_aload_n (pc := 14) hE rfl 0 rfl dX6_readItem_14 ?_
    refine c_Rd_nextSign (pc := 15) (d := d + 2 + 0) hE (t_Rd_nextSign (d := d + 2) f0 h) (rd_kd f0) tw_528 (Nat.le_of_ble_eq_true rfl) dX6_readItem_15 (fun r15 M15 h => ?_)
    refine c_Ch_kindOfLetter (pc := 18) (d := d + 2 + 0) hE (t_Ch_kindOfLetter (d := d + 2)  h) tw_547 (Nat.le_of_ble_eq_true rfl) dX6_readItem_18 (fun r18 M18 h => ?_)
    refine e_istore_n (pc := 21) (lv' := [(1, .int r18), (0, rv G a0)]) hE dX6_readItem_21 rfl (by decide) rfl ?_
    refine e_iload_n (pc := 22) hE rfl 0 rfl dX6_readItem_22 ?_
    refine e_bipush (pc := 23) (v := -9) hE kb_m9 dX6_readItem_23 ?_
    refine e_icmp_eq (pc := 25) hE 46 dX6_readItem_25 (by decide) (fun c0 => ?_) (fun c0 => ?_)
    · have h := h.1 c0
      refine e_aload_n (pc := 46) hE rfl 1 rfl dX6_readItem_46 ?_
      refine e_aload_n (pc := 47) hE rfl 1 rfl dX6_readItem_47 ?_
      refine g_Reader_place (pc := 48) hE (rd_kd f0) tw_190 dX6_readItem_48 ?_
      refine e_topi (fun x51 ex51 => ?_)
      have h := h x51 ex51
      refine p_Reader_fault (pc := 51) hE (rd_kd f0) tw_192 dX6_readItem_51 ?_
      exact hR dX6_readItem_54 h
    · have h := h.2 c0
      refine e_aload_n (pc := 28) hE rfl 1 rfl dX6_readItem_28 ?_
      refine g_Reader_chart (pc := 29) hE (rd_kd f0) tw_187 dX6_readItem_29 ?_
      refine g_Chart_arms (pc := 32) hE (ch_kd (chOf_ch f0)) tw_155 dX6_readItem_32 ?_
      refine e_iconst (pc := 35) (v := 5) hE ki_5 dX6_readItem_35 ?_
      refine e_icmp_ge (pc := 36) hE 46 dX6_readItem_36 (by decide) (fun c0 => ?_) (fun c0 => ?_)
      · have h := h.1 c0
        refine e_aload_n (pc := 46) hE rfl 1 rfl dX6_readItem_46 ?_
        refine e_aload_n (pc := 47) hE rfl 1 rfl dX6_readItem_47 ?_
        refine g_Reader_place (pc := 48) hE (rd_kd f0) tw_190 dX6_readItem_48 ?_
        refine e_topi (fun x51 ex51 => ?_)
        have h := h x51 ex51
        refine p_Reader_fault (pc := 51) hE (rd_kd f0) tw_192 dX6_readItem_51 ?_
        exact hR dX6_readItem_54 h
      · have h := h.2 c0
        refine e_aload_n (pc := 39) hE rfl 1 rfl dX6_readItem_39 ?_
        refine g_Reader_waitsRead (pc := 40) hE (rd_kd f0) tw_191 dX6_readItem_40 ?_
        refine e_if_le (pc := 43) hE 55 dX6_readItem_43 (by decide) (fun c0 => ?_) (fun c0 => ?_)
        · have h := h.1 c0
          refine e_aload_n (pc := 55) hE rfl 1 rfl dX6_readItem_55 ?_
          refine e_iload_n (pc := 56) hE rfl 0 rfl dX6_readItem_56 ?_
          refine c_Rd_readArm (pc := 57) (d := d + 2) hE (t_Rd_readArm (d := d) f0 h) (rd_kd f0) tw_552 (Nat.le_of_ble_eq_true rfl) dX6_readItem_57 (fun M57 h => ?_)
          exact hR dX6_readItem_60 h
        · have h := h.2 c0
          refine e_aload_n (pc := 46) hE rfl 1 rfl dX6_readItem_46 ?_
          refine e_aload_n (pc := 47) hE rfl 1 rfl dX6_readItem_47 ?_
          refine g_Reader_place (pc := 48) hE (rd_kd f0) tw_190 dX6_readItem_48 ?_
          refine e_topi (fun x51 ex51 => ?_)
          have h := h x51 ex51
          refine p_Reader_fault (pc := 51) hE (rd_kd f0) tw_192 dX6_readItem_51 ?_
          exact hR dX6_readItem_54 h
  · have h := h.2 c0
    refine e_aload_n (pc := 9) hE rfl 0 rfl dX6_readItem_9 ?_
    refine c_Rd_readWait (pc := 10) (d := d + 2) hE (t_Rd_readWait (d := d) f0 h) (rd_kd f0) tw_540 (Nat.le_of_ble_eq_true rfl) dX6_readItem_10 (fun M10 h => ?_)
    exact hR dX6_readItem_13 h
set_option maxHeartbeats 4000000 in
set_option maxRecDepth 20000 in
theorem w_Rd_read_42 {l : Launch} {G : Gs} {d : Nat} {E : EE} {a0 : Nat} {a1 : Nat} {a2 : Int32} {Q : Int32 → Mm → Prop} (hE : Mach l G RX6 cX6_read 4 (d + 4) E) (hR : RtI cX6_read E Q) (f0 : isRd a0) (f1 : isSh a1)  {KB : Int32 → Mm → Prop} {K72 : Mm → Prop} {K85 : Mm → Prop} {v3 : Int32} {M : Mm} (h : k_Rd_read_42 a0 a1 a2 Q KB K72 K85 v3 M) (hKB : ∀ (v3 : Int32)  (M : Mm), KB v3 M → E 42 [(0, rv G a0), (3, .int v3)] [] M) (hK72 : ∀  (M : Mm), K72 M → E 72 [(0, rv G a0)] [] M) (hK85 : ∀  (M : Mm), K85 M → E 85 [(0, rv G a0)] [] M) : E 42 [(0, rv G a0), (3, .int v3)] [] M := by
  unfold k_Rd_read_42 at h
  refine e_iload_n (pc := 42) hE rfl 1 rfl dX6_read_42 ?_
  refine e_bipush (pc := 43) (v := 60) hE kb_60 dX6_read_43 ?_
  refine e_icmp_ge (pc := 45) hE 85 dX6_read_45 (by decide) (fun c0 => ?_) (fun c0 => ?_)
  · have h := h.1 c0
    refine e_sub hE [0] rfl ?_
    exact hK85 _ h
  · have h := h.2 c0
    refine e_aload_n (pc := 48) hE rfl 0 rfl dX6_read_48 ?_
    refine g_Reader_fault (pc := 49) hE (rd_kd f0) tw_192 dX6_read_49 ?_
    refine e_bipush (pc := 52) (v := -9) hE kb_m9 dX6_read_52 ?_
    refine e_icmp_ne (pc := 54) hE 85 dX6_read_54 (by decide) (fun c0 => ?_) (fun c0 => ?_)
    · have h := h.1 c0
      refine e_sub hE [0] rfl ?_
      exact hK85 _ h
    · have h := h.2 c0
      refine e_aload_n (pc := 57) hE rfl 0 rfl dX6_read_57 ?_
      refine c_Rd_skipBlanks (pc := 58) (d := d + 2 + 1) hE (t_Rd_skipBlanks (d := d + 2) f0 h) (rd_kd f0) tw_524 (Nat.le_of_ble_eq_true rfl) dX6_read_58 (fun M58 h => ?_)
      refine e_aload_n (pc := 61) hE rfl 0 rfl dX6_read_61 ?_
      refine g_Reader_place (pc := 62) hE (rd_kd f0) tw_190 dX6_read_62 ?_
      refine e_aload_n (pc := 65) hE rfl 0 rfl dX6_read_65 ?_
      refine g_Reader_size (pc := 66) hE (rd_kd f0) tw_189 dX6_read_66 ?_
      refine e_icmp_lt (pc := 69) hE 75 dX6_read_69 (by decide) (fun c0 => ?_) (fun c0 => ?_)
      · have h := h.1 c0
        refine e_aload_n (pc := 75) hE rfl 0 rfl dX6_read_75 ?_
        refine c_Rd_readItem (pc := 76) (d := d + 3) hE (t_Rd_readItem (d := d) f0 h) (rd_kd f0) tw_536 (Nat.le_of_ble_eq_true rfl) dX6_read_76 (fun M76 h => ?_)
        obtain ⟨x79, ex79⟩ : ∃ y : Int32, y = v3 + (1 : Int32) := ⟨_, rfl⟩
        have h := h x79 ex79
        refine e_iinc (pc := 79) (k := 1) (v := x79) (lv' := [(3, .int x79), (0, rv G a0)]) hE dX6_read_79 rfl (by rw [ex79, ki_1]) (by decide) rfl ?_
        refine e_goto (pc := 82) hE 42 dX6_read_82 (by decide) ?_
        refine e_sub hE [1, 0] rfl ?_
        exact hKB _ _ h
      · have h := h.2 c0
        refine e_sub hE [0] rfl ?_
        exact hK72 _ h
set_option maxHeartbeats 4000000 in
set_option maxRecDepth 20000 in
theorem w_lp_Rd_read_42 {l : Launch} {G : Gs} {d : Nat} {E : EE} {a0 : Nat} {a1 : Nat} {a2 : Int32} {Q : Int32 → Mm → Prop} (hE : Mach l G RX6 cX6_read 4 (d + 4) E) (hR : RtI cX6_read E Q) (f0 : isRd a0) (f1 : isSh a1)  {K72 : Mm → Prop} {K85 : Mm → Prop} {n : Nat} {v3 : Int32} {M : Mm} (h : lp_Rd_read_42 a0 a1 a2 Q K72 K85 n v3 M) (hK72 : ∀  (M : Mm), K72 M → E 72 [(0, rv G a0)] [] M) (hK85 : ∀  (M : Mm), K85 M → E 85 [(0, rv G a0)] [] M) : E 42 [(0, rv G a0), (3, .int v3)] [] M := by
  have key : ∀ (n : Nat) (v3 : Int32) (M : Mm), lp_Rd_read_42 a0 a1 a2 Q K72 K85 n v3 M → E 42 [(0, rv G a0), (3, .int v3)] [] M := by
    intro n
    induction n with
    | zero => intro v3 M h; exact h.elim
    | succ n ih => intro v3 M h; exact w_Rd_read_42 hE hR f0 f1 (show k_Rd_read_42 a0 a1 a2 Q (lp_Rd_read_42 a0 a1 a2 Q K72 K85 n) K72 K85 v3 M from h) ih hK72 hK85
  exact key n _ _ h
set_option maxHeartbeats 4000000 in
set_option maxRecDepth 20000 in
theorem w_Rd_read_85 {l : Launch} {G : Gs} {d : Nat} {E : EE} {a0 : Nat} {a1 : Nat} {a2 : Int32} {Q : Int32 → Mm → Prop} (hE : Mach l G RX6 cX6_read 4 (d + 4) E) (hR : RtI cX6_read E Q) (f0 : isRd a0) (f1 : isSh a1)    {M : Mm} (h : k_Rd_read_85 a0 a1 a2 Q M)  : E 85 [(0, rv G a0)] [] M := by
  unfold k_Rd_read_85 at h
  refine e_aload_n (pc := 85) hE rfl 0 rfl dX6_read_85 ?_
  refine g_Reader_fault (pc := 86) hE (rd_kd f0) tw_192 dX6_read_86 ?_
  refine e_bipush (pc := 89) (v := -9) hE kb_m9 dX6_read_89 ?_
  refine e_icmp_ne (pc := 91) hE 112 dX6_read_91 (by decide) (fun c0 => ?_) (fun c0 => ?_)
  · have h := h.1 c0
    refine e_aload_n (pc := 112) hE rfl 0 rfl dX6_read_112 ?_
    refine g_Reader_fault (pc := 113) hE (rd_kd f0) tw_192 dX6_read_113 ?_
    exact hR dX6_read_116 h
  · have h := h.2 c0
    refine e_aload_n (pc := 94) hE rfl 0 rfl dX6_read_94 ?_
    refine g_Reader_chart (pc := 95) hE (rd_kd f0) tw_187 dX6_read_95 ?_
    refine g_Chart_arms (pc := 98) hE (ch_kd (chOf_ch f0)) tw_155 dX6_read_98 ?_
    refine e_if_ne (pc := 101) hE 112 dX6_read_101 (by decide) (fun c0 => ?_) (fun c0 => ?_)
    · have h := h.1 c0
      refine e_aload_n (pc := 112) hE rfl 0 rfl dX6_read_112 ?_
      refine g_Reader_fault (pc := 113) hE (rd_kd f0) tw_192 dX6_read_113 ?_
      exact hR dX6_read_116 h
    · have h := h.2 c0
      refine e_aload_n (pc := 104) hE rfl 0 rfl dX6_read_104 ?_
      refine e_aload_n (pc := 105) hE rfl 0 rfl dX6_read_105 ?_
      refine g_Reader_size (pc := 106) hE (rd_kd f0) tw_189 dX6_read_106 ?_
      refine e_topi (fun x109 ex109 => ?_)
      have h := h x109 ex109
      refine p_Reader_fault (pc := 109) hE (rd_kd f0) tw_192 dX6_read_109 ?_
      refine e_aload_n (pc := 112) hE rfl 0 rfl dX6_read_112 ?_
      refine g_Reader_fault (pc := 113) hE (rd_kd f0) tw_192 dX6_read_113 ?_
      exact hR dX6_read_116 h
set_option maxHeartbeats 4000000 in
set_option maxRecDepth 20000 in
theorem t_Rd_read {l : Launch} {G : Gs} {d : Nat} {a0 : Nat} {a1 : Nat} {a2 : Int32} {M : Mm} {Q : Int32 → Mm → Prop} (f0 : isRd a0) (f1 : isSh a1) (h : wp_Rd_read a0 a1 a2 M Q) : CtI l G (d + 4) yX6_read cX6_read 4 (some .int) [rv G a0, rv G a1, .int a2] M Q := by
  refine CtI.mk (by decide) rfl (Nat.le_of_ble_eq_true rfl) (fun E hE hR => ?_)
  show E 0 [(0, rv G a0), (1, rv G a1), (2, .int a2)] [] M
  unfold wp_Rd_read at h
  refine e_aload_n (pc := 0) hE rfl 0 rfl dX6_read_0 ?_
  refine e_aload_n (pc := 1) hE rfl 1 rfl dX6_read_1 ?_
  refine e_iload_n (pc := 2) hE rfl 2 rfl dX6_read_2 ?_
  refine e_aload_n (pc := 3) hE rfl 0 rfl dX6_read_3 ?_
  refine g_Reader_signs (pc := 4) hE (rd_kd f0) tw_188 dX6_read_4 ?_
  refine c_Sh_copyOut (pc := 7) (d := d + 1 + 2) hE (t_Sh_copyOut (d := d + 1) f1 (rd_signs f0) h) (sh_kd f1) tw_501 (Nat.le_of_ble_eq_true rfl) dX6_read_7 (fun r7 M7 h => ?_)
  refine p_Reader_size (pc := 10) hE (rd_kd f0) tw_189 dX6_read_10 ?_
  refine e_aload_n (pc := 13) hE rfl 0 rfl dX6_read_13 ?_
  refine e_iconst (pc := 14) (v := 0) hE ki_0 dX6_read_14 ?_
  refine p_Reader_place (pc := 15) hE (rd_kd f0) tw_190 dX6_read_15 ?_
  refine e_aload_n (pc := 18) hE rfl 0 rfl dX6_read_18 ?_
  refine e_iconst (pc := 19) (v := 0) hE ki_0 dX6_read_19 ?_
  refine p_Reader_waitsRead (pc := 20) hE (rd_kd f0) tw_191 dX6_read_20 ?_
  refine e_aload_n (pc := 23) hE rfl 0 rfl dX6_read_23 ?_
  refine e_bipush (pc := 24) (v := -9) hE kb_m9 dX6_read_24 ?_
  refine p_Reader_fault (pc := 26) hE (rd_kd f0) tw_192 dX6_read_26 ?_
  refine e_aload_n (pc := 29) hE rfl 0 rfl dX6_read_29 ?_
  refine g_Reader_chart (pc := 30) hE (rd_kd f0) tw_187 dX6_read_30 ?_
  refine c_Ch_clear (pc := 33) (d := d + 1 + 2) hE (t_Ch_clear (d := d + 1) (chOf_ch f0) h) (ch_kd (chOf_ch f0)) tw_511 (Nat.le_of_ble_eq_true rfl) dX6_read_33 (fun M33 h => ?_)
  refine e_aload_n (pc := 36) hE rfl 0 rfl dX6_read_36 ?_
  refine c_Rd_readRiver (pc := 37) (d := d + 1 + 2) hE (t_Rd_readRiver (d := d + 1) f0 h) (rd_kd f0) tw_520 (Nat.le_of_ble_eq_true rfl) dX6_read_37 (fun M37 h => ?_)
  refine e_iconst (pc := 40) (v := 0) hE ki_0 dX6_read_40 ?_
  refine e_istore_n (pc := 41) (lv' := [(3, .int (0 : Int32)), (0, rv G a0), (1, rv G a1), (2, .int a2)]) hE dX6_read_41 rfl (by decide) rfl ?_
  obtain ⟨n, h⟩ := h
  refine e_sub hE [1, 0] rfl ?_
  refine w_lp_Rd_read_42 hE hR f0 f1 h (fun M h => ?_) (fun M h => ?_)
  · refine e_goto (pc := 72) hE 85 dX6_read_72 (by decide) ?_
    exact w_Rd_read_85 hE hR f0 f1 h
  · exact w_Rd_read_85 hE hR f0 f1 h
set_option maxHeartbeats 4000000 in
set_option maxRecDepth 20000 in
theorem w_Ch_isOf_24 {l : Launch} {G : Gs} {d : Nat} {E : EE} {a0 : Nat} {a1 : Int32} {a2 : Int32} {Q : Int32 → Mm → Prop} (hE : Mach l G RX0 cX0_isOf 3 (d + 0) E) (hR : RtZ cX0_isOf E Q) (f0 : isCh a0)    {M : Mm} (h : k_Ch_isOf_24 a0 a1 a2 Q M)  : E 24 [] [] M := by
  unfold k_Ch_isOf_24 at h
  refine e_iconst (pc := 24) (v := 1) hE ki_1 dX0_isOf_24 ?_
  refine e_goto (pc := 25) hE 29 dX0_isOf_25 (by decide) ?_
  exact hR dX0_isOf_29 (Or.inr rfl) h
set_option maxHeartbeats 4000000 in
set_option maxRecDepth 20000 in
theorem t_Ch_isOf {l : Launch} {G : Gs} {d : Nat} {a0 : Nat} {a1 : Int32} {a2 : Int32} {M : Mm} {Q : Int32 → Mm → Prop} (f0 : isCh a0) (h : wp_Ch_isOf a0 a1 a2 M Q) : CtI l G (d + 0) yX0_isOf cX0_isOf 3 (some .boolean) [rv G a0, .int a1, .int a2] M Q := by
  refine CtI.mkZ (by decide) rfl (Nat.le_of_ble_eq_true rfl) (fun E hE hR => ?_)
  show E 0 [(0, rv G a0), (1, .int a1), (2, .int a2)] [] M
  unfold wp_Ch_isOf at h
  refine e_aload_n (pc := 0) hE rfl 0 rfl dX0_isOf_0 ?_
  refine g_Chart_kind (pc := 1) hE (ch_kd f0) tw_131 dX0_isOf_1 ?_
  refine e_iload_n (pc := 4) hE rfl 1 rfl dX0_isOf_4 ?_
  refine e_iald (pc := 5) hE (ch_kind f0) h.1 dX0_isOf_5 ?_
  have h := h.2
  refine e_iload_n (pc := 6) hE rfl 2 rfl dX0_isOf_6 ?_
  refine e_icmp_eq (pc := 7) hE 24 dX0_isOf_7 (by decide) (fun c0 => ?_) (fun c0 => ?_)
  · have h := h.1 c0
    refine e_sub hE [] rfl ?_
    exact w_Ch_isOf_24 hE hR f0 h
  · have h := h.2 c0
    refine e_getPARENTS (pc := 10) hE tw_572 dX0_isOf_10 ?_
    refine e_aload_n (pc := 13) hE rfl 0 rfl dX0_isOf_13 ?_
    refine g_Chart_kind (pc := 14) hE (ch_kd f0) tw_131 dX0_isOf_14 ?_
    refine e_iload_n (pc := 17) hE rfl 1 rfl dX0_isOf_17 ?_
    refine e_iald (pc := 18) hE (ch_kind f0) h.1 dX0_isOf_18 ?_
    have h := h.2
    refine e_aldPARENTS (pc := 19) hE h.1 dX0_isOf_19 ?_
    have h := h.2
    refine e_iload_n (pc := 20) hE rfl 2 rfl dX0_isOf_20 ?_
    refine e_icmp_ne (pc := 21) hE 28 dX0_isOf_21 (by decide) (fun c0 => ?_) (fun c0 => ?_)
    · have h := h.1 c0
      refine e_iconst (pc := 28) (v := 0) hE ki_0 dX0_isOf_28 ?_
      exact hR dX0_isOf_29 (Or.inl rfl) h
    · have h := h.2 c0
      refine e_sub hE [] rfl ?_
      exact w_Ch_isOf_24 hE hR f0 h
set_option maxHeartbeats 4000000 in
set_option maxRecDepth 20000 in
theorem w_Fl_begin_41 {l : Launch} {G : Gs} {d : Nat} {E : EE} {a0 : Nat} {a1 : Nat} {Q : Mm → Prop} (hE : Mach l G RX2 cX2_begin 3 (d + 1) E) (hR : RtV cX2_begin E Q) (f0 : kd a0 = 2) (f1 : isCh a1)  {KB : Int32 → Mm → Prop} {K51 : Mm → Prop} {v2 : Int32} {s0 : Int32} {s1 : Int32} {M : Mm} (h : k_Fl_begin_41 a0 a1 Q KB K51 v2 s0 s1 M) (hKB : ∀ (v2 : Int32)  (M : Mm), KB v2 M → E 12 [(0, rv G a0), (1, rv G a1), (2, .int v2)] [] M) (hK51 : ∀  (M : Mm), K51 M → E 51 [(0, rv G a0)] [] M) : E 41 [(0, rv G a0), (1, rv G a1), (2, .int v2)] [.int s0, .int s1, rv G a0] M := by
  unfold k_Fl_begin_41 at h
  refine e_ior (pc := 41) hE dX2_begin_41 ?_
  refine e_topi (fun x42 ex42 => ?_)
  have h := h x42 ex42
  refine p_Flow_barges (pc := 42) hE f0 tw_222 dX2_begin_42 ?_
  obtain ⟨x45, ex45⟩ : ∃ y : Int32, y = v2 + (1 : Int32) := ⟨_, rfl⟩
  have h := h x45 ex45
  refine e_iinc (pc := 45) (k := 2) (v := x45) (lv' := [(2, .int x45), (0, rv G a0), (1, rv G a1)]) hE dX2_begin_45 rfl (by rw [ex45, ki_1]) (by decide) rfl ?_
  refine e_goto (pc := 48) hE 12 dX2_begin_48 (by decide) ?_
  refine e_sub hE [1, 2, 0] rfl ?_
  exact hKB _ _ h
set_option maxHeartbeats 4000000 in
set_option maxRecDepth 20000 in
theorem w_Fl_begin_12 {l : Launch} {G : Gs} {d : Nat} {E : EE} {a0 : Nat} {a1 : Nat} {Q : Mm → Prop} (hE : Mach l G RX2 cX2_begin 3 (d + 1) E) (hR : RtV cX2_begin E Q) (f0 : kd a0 = 2) (f1 : isCh a1)  {KB : Int32 → Mm → Prop} {K51 : Mm → Prop} {v2 : Int32} {M : Mm} (h : k_Fl_begin_12 a0 a1 Q KB K51 v2 M) (hKB : ∀ (v2 : Int32)  (M : Mm), KB v2 M → E 12 [(0, rv G a0), (1, rv G a1), (2, .int v2)] [] M) (hK51 : ∀  (M : Mm), K51 M → E 51 [(0, rv G a0)] [] M) : E 12 [(0, rv G a0), (1, rv G a1), (2, .int v2)] [] M := by
  unfold k_Fl_begin_12 at h
  refine e_iload_n (pc := 12) hE rfl 2 rfl dX2_begin_12 ?_
  refine e_aload_n (pc := 13) hE rfl 1 rfl dX2_begin_13 ?_
  refine g_Chart_arms (pc := 14) hE (ch_kd f1) tw_154 dX2_begin_14 ?_
  refine e_icmp_ge (pc := 17) hE 51 dX2_begin_17 (by decide) (fun c0 => ?_) (fun c0 => ?_)
  · have h := h.1 c0
    refine e_sub hE [0] rfl ?_
    exact hK51 _ h
  · have h := h.2 c0
    refine e_aload_n (pc := 20) hE rfl 0 rfl dX2_begin_20 ?_
    refine e_dup (pc := 21) hE rfl dX2_begin_21 ?_
    refine g_Flow_barges (pc := 22) hE f0 tw_222 dX2_begin_22 ?_
    refine e_aload_n (pc := 25) hE rfl 1 rfl dX2_begin_25 ?_
    refine e_iload_n (pc := 26) hE rfl 2 rfl dX2_begin_26 ?_
    refine e_iconst (pc := 27) (v := 3) hE ki_3 dX2_begin_27 ?_
    refine c_Ch_isOf (pc := 28) (d := d + 0) hE (t_Ch_isOf (d := d) f1 h) (ch_kd f1) tw_568 (Nat.le_of_ble_eq_true rfl) dX2_begin_28 (fun r28 M28 h => ?_)
    refine e_if_eq (pc := 31) hE 40 dX2_begin_31 (by decide) (fun c0 => ?_) (fun c0 => ?_)
    · have h := h.1 c0
      refine e_iconst (pc := 40) (v := 0) hE ki_0 dX2_begin_40 ?_
      exact w_Fl_begin_41 hE hR f0 f1 h hKB hK51
    · have h := h.2 c0
      refine e_iconst (pc := 34) (v := 1) hE ki_1 dX2_begin_34 ?_
      refine e_iload_n (pc := 35) hE rfl 2 rfl dX2_begin_35 ?_
      refine e_ishl (pc := 36) hE dX2_begin_36 ?_
      refine e_goto (pc := 37) hE 41 dX2_begin_37 (by decide) ?_
      exact w_Fl_begin_41 hE hR f0 f1 h hKB hK51
set_option maxHeartbeats 4000000 in
set_option maxRecDepth 20000 in
theorem w_lp_Fl_begin_12 {l : Launch} {G : Gs} {d : Nat} {E : EE} {a0 : Nat} {a1 : Nat} {Q : Mm → Prop} (hE : Mach l G RX2 cX2_begin 3 (d + 1) E) (hR : RtV cX2_begin E Q) (f0 : kd a0 = 2) (f1 : isCh a1)  {K51 : Mm → Prop} {n : Nat} {v2 : Int32} {M : Mm} (h : lp_Fl_begin_12 a0 a1 Q K51 n v2 M) (hK51 : ∀  (M : Mm), K51 M → E 51 [(0, rv G a0)] [] M) : E 12 [(0, rv G a0), (1, rv G a1), (2, .int v2)] [] M := by
  have key : ∀ (n : Nat) (v2 : Int32) (M : Mm), lp_Fl_begin_12 a0 a1 Q K51 n v2 M → E 12 [(0, rv G a0), (1, rv G a1), (2, .int v2)] [] M := by
    intro n
    induction n with
    | zero => intro v2 M h; exact h.elim
    | succ n ih => intro v2 M h; exact w_Fl_begin_12 hE hR f0 f1 (show k_Fl_begin_12 a0 a1 Q (lp_Fl_begin_12 a0 a1 Q K51 n) K51 v2 M from h) ih hK51
  exact key n _ _ h
set_option maxHeartbeats 4000000 in
set_option maxRecDepth 20000 in
theorem t_Fl_begin {l : Launch} {G : Gs} {d : Nat} {a0 : Nat} {a1 : Nat} {M : Mm} {Q : Mm → Prop} (f0 : kd a0 = 2) (f1 : isCh a1) (h : wp_Fl_begin a0 a1 M Q) : CtV l G (d + 1) yX2_begin cX2_begin 3 (none) [rv G a0, rv G a1] M Q := by
  refine CtV.mk (by decide) rfl (Nat.le_of_ble_eq_true rfl) (fun E hE hR => ?_)
  show E 0 [(0, rv G a0), (1, rv G a1)] [] M
  unfold wp_Fl_begin at h
  refine e_aload_n (pc := 0) hE rfl 0 rfl dX2_begin_0 ?_
  refine e_iconst (pc := 1) (v := 0) hE ki_0 dX2_begin_1 ?_
  refine p_Flow_season (pc := 2) hE f0 tw_218 dX2_begin_2 ?_
  refine e_aload_n (pc := 5) hE rfl 0 rfl dX2_begin_5 ?_
  refine e_iconst (pc := 6) (v := 0) hE ki_0 dX2_begin_6 ?_
  refine p_Flow_barges (pc := 7) hE f0 tw_222 dX2_begin_7 ?_
  refine e_iconst (pc := 10) (v := 0) hE ki_0 dX2_begin_10 ?_
  refine e_istore_n (pc := 11) (lv' := [(2, .int (0 : Int32)), (0, rv G a0), (1, rv G a1)]) hE dX2_begin_11 rfl (by decide) rfl ?_
  obtain ⟨n, h⟩ := h
  refine e_sub hE [1, 2, 0] rfl ?_
  refine w_lp_Fl_begin_12 hE hR f0 f1 h (fun M h => ?_)
  refine e_aload_n (pc := 51) hE rfl 0 rfl dX2_begin_51 ?_
  refine e_aload_n (pc := 52) hE rfl 0 rfl dX2_begin_52 ?_
  refine g_Flow_barges (pc := 53) hE f0 tw_222 dX2_begin_53 ?_
  refine e_topi (fun x56 ex56 => ?_)
  have h := h x56 ex56
  refine p_Flow_open (pc := 56) hE f0 tw_220 dX2_begin_56 ?_
  refine e_aload_n (pc := 59) hE rfl 0 rfl dX2_begin_59 ?_
  refine e_iconst (pc := 60) (v := 0) hE ki_0 dX2_begin_60 ?_
  refine p_Flow_dead (pc := 61) hE f0 tw_224 dX2_begin_61 ?_
  refine e_aload_n (pc := 64) hE rfl 0 rfl dX2_begin_64 ?_
  refine e_iconst (pc := 65) (v := 0) hE ki_0 dX2_begin_65 ?_
  refine p_Flow_salts (pc := 66) hE f0 tw_227 dX2_begin_66 ?_
  refine e_aload_n (pc := 69) hE rfl 0 rfl dX2_begin_69 ?_
  refine e_iconst (pc := 70) (v := 0) hE ki_0 dX2_begin_70 ?_
  refine p_Flow_silts (pc := 71) hE f0 tw_228 dX2_begin_71 ?_
  refine e_aload_n (pc := 74) hE rfl 0 rfl dX2_begin_74 ?_
  refine e_lconst (pc := 75) (v := 0) hE kl_0 dX2_begin_75 ?_
  refine p_Flow_harvests (pc := 76) hE f0 tw_229 dX2_begin_76 ?_
  exact hR dX2_begin_79 h
set_option maxHeartbeats 4000000 in
set_option maxRecDepth 20000 in
theorem t_St_begin {l : Launch} {G : Gs} {d : Nat} {a0 : Nat} {a1 : Nat} {M : Mm} {Q : Mm → Prop} (f0 : isSt a0) (f1 : isCh a1) (h : wp_St_begin a0 a1 M Q) : CtV l G (d + 2) yX8_begin cX8_begin 2 (none) [rv G a0, rv G a1] M Q := by
  refine CtV.mk (by decide) rfl (Nat.le_of_ble_eq_true rfl) (fun E hE hR => ?_)
  show E 0 [(0, rv G a0), (1, rv G a1)] [] M
  unfold wp_St_begin at h
  refine e_aload_n (pc := 0) hE rfl 0 rfl dX8_begin_0 ?_
  refine g_Story_present (pc := 1) hE (st_kd f0) tw_246 dX8_begin_1 ?_
  refine e_aload_n (pc := 4) hE rfl 1 rfl dX8_begin_4 ?_
  refine c_Fl_begin (pc := 5) (d := d + 1) hE (t_Fl_begin (d := d) (st_pres f0) f1 h) (st_pres f0) tw_564 (Nat.le_of_ble_eq_true rfl) dX8_begin_5 (fun M5 h => ?_)
  refine e_aload_n (pc := 8) hE rfl 0 rfl dX8_begin_8 ?_
  refine e_iconst (pc := 9) (v := 0) hE ki_0 dX8_begin_9 ?_
  refine p_Story_deeds (pc := 10) hE (st_kd f0) tw_249 dX8_begin_10 ?_
  exact hR dX8_begin_13 h
set_option maxHeartbeats 4000000 in
set_option maxRecDepth 20000 in
theorem t_Ch_hasArm {l : Launch} {G : Gs} {d : Nat} {a0 : Nat} {a1 : Int32} {M : Mm} {Q : Int32 → Mm → Prop} (f0 : isCh a0) (h : wp_Ch_hasArm a0 a1 M Q) : CtI l G (d + 0) yX0_hasArm cX0_hasArm 2 (some .boolean) [rv G a0, .int a1] M Q := by
  refine CtI.mkZ (by decide) rfl (Nat.le_of_ble_eq_true rfl) (fun E hE hR => ?_)
  show E 0 [(0, rv G a0), (1, .int a1)] [] M
  unfold wp_Ch_hasArm at h
  refine e_iload_n (pc := 0) hE rfl 1 rfl dX0_hasArm_0 ?_
  refine e_if_lt (pc := 1) hE 16 dX0_hasArm_1 (by decide) (fun c0 => ?_) (fun c0 => ?_)
  · have h := h.1 c0
    refine e_iconst (pc := 16) (v := 0) hE ki_0 dX0_hasArm_16 ?_
    exact hR dX0_hasArm_17 (Or.inl rfl) h
  · have h := h.2 c0
    refine e_iload_n (pc := 4) hE rfl 1 rfl dX0_hasArm_4 ?_
    refine e_aload_n (pc := 5) hE rfl 0 rfl dX0_hasArm_5 ?_
    refine g_Chart_arms (pc := 6) hE (ch_kd f0) tw_153 dX0_hasArm_6 ?_
    refine e_icmp_ge (pc := 9) hE 16 dX0_hasArm_9 (by decide) (fun c0 => ?_) (fun c0 => ?_)
    · have h := h.1 c0
      refine e_iconst (pc := 16) (v := 0) hE ki_0 dX0_hasArm_16 ?_
      exact hR dX0_hasArm_17 (Or.inl rfl) h
    · have h := h.2 c0
      refine e_iconst (pc := 12) (v := 1) hE ki_1 dX0_hasArm_12 ?_
      refine e_goto (pc := 13) hE 17 dX0_hasArm_13 (by decide) ?_
      exact hR dX0_hasArm_17 (Or.inr rfl) h
set_option maxHeartbeats 4000000 in
set_option maxRecDepth 20000 in
theorem t_Fl_saltOf {l : Launch} {G : Gs} {d : Nat} {a0 : Nat} {a1 : Int32} {M : Mm} {Q : Int32 → Mm → Prop} (f0 : kd a0 = 2) (h : wp_Fl_saltOf a0 a1 M Q) : CtI l G (d + 0) yX2_saltOf cX2_saltOf 2 (some .int) [rv G a0, .int a1] M Q := by
  refine CtI.mk (by decide) rfl (Nat.le_of_ble_eq_true rfl) (fun E hE hR => ?_)
  show E 0 [(0, rv G a0), (1, .int a1)] [] M
  unfold wp_Fl_saltOf at h
  refine e_aload_n (pc := 0) hE rfl 0 rfl dX2_saltOf_0 ?_
  refine g_Flow_salts (pc := 1) hE f0 tw_227 dX2_saltOf_1 ?_
  refine e_iconst (pc := 4) (v := 4) hE ki_4 dX2_saltOf_4 ?_
  refine e_iload_n (pc := 5) hE rfl 1 rfl dX2_saltOf_5 ?_
  refine e_imul (pc := 6) hE dX2_saltOf_6 ?_
  refine e_ishr (pc := 7) hE dX2_saltOf_7 ?_
  refine e_bipush (pc := 8) (v := 15) hE kb_15 dX2_saltOf_8 ?_
  refine e_iand (pc := 10) hE dX2_saltOf_10 ?_
  exact hR dX2_saltOf_11 h
set_option maxHeartbeats 4000000 in
set_option maxRecDepth 20000 in
theorem t_Fl_siltOf {l : Launch} {G : Gs} {d : Nat} {a0 : Nat} {a1 : Int32} {M : Mm} {Q : Int32 → Mm → Prop} (f0 : kd a0 = 2) (h : wp_Fl_siltOf a0 a1 M Q) : CtI l G (d + 0) yX2_siltOf cX2_siltOf 2 (some .int) [rv G a0, .int a1] M Q := by
  refine CtI.mk (by decide) rfl (Nat.le_of_ble_eq_true rfl) (fun E hE hR => ?_)
  show E 0 [(0, rv G a0), (1, .int a1)] [] M
  unfold wp_Fl_siltOf at h
  refine e_aload_n (pc := 0) hE rfl 0 rfl dX2_siltOf_0 ?_
  refine g_Flow_silts (pc := 1) hE f0 tw_228 dX2_siltOf_1 ?_
  refine e_iconst (pc := 4) (v := 4) hE ki_4 dX2_siltOf_4 ?_
  refine e_iload_n (pc := 5) hE rfl 1 rfl dX2_siltOf_5 ?_
  refine e_imul (pc := 6) hE dX2_siltOf_6 ?_
  refine e_ishr (pc := 7) hE dX2_siltOf_7 ?_
  refine e_bipush (pc := 8) (v := 15) hE kb_15 dX2_siltOf_8 ?_
  refine e_iand (pc := 10) hE dX2_siltOf_10 ?_
  exact hR dX2_siltOf_11 h
set_option maxHeartbeats 4000000 in
set_option maxRecDepth 20000 in
theorem t_Fl_harvestsOf {l : Launch} {G : Gs} {d : Nat} {a0 : Nat} {a1 : Int32} {M : Mm} {Q : Int32 → Mm → Prop} (f0 : kd a0 = 2) (h : wp_Fl_harvestsOf a0 a1 M Q) : CtI l G (d + 0) yX2_harvestsOf cX2_harvestsOf 2 (some .int) [rv G a0, .int a1] M Q := by
  refine CtI.mk (by decide) rfl (Nat.le_of_ble_eq_true rfl) (fun E hE hR => ?_)
  show E 0 [(0, rv G a0), (1, .int a1)] [] M
  unfold wp_Fl_harvestsOf at h
  refine e_aload_n (pc := 0) hE rfl 0 rfl dX2_harvestsOf_0 ?_
  refine g_Flow_harvests (pc := 1) hE f0 tw_229 dX2_harvestsOf_1 ?_
  refine e_bipush (pc := 4) (v := 8) hE kb_8 dX2_harvestsOf_4 ?_
  refine e_iload_n (pc := 6) hE rfl 1 rfl dX2_harvestsOf_6 ?_
  refine e_imul (pc := 7) hE dX2_harvestsOf_7 ?_
  refine e_lshr (pc := 8) hE dX2_harvestsOf_8 ?_
  refine e_ldc2 (pc := 9) hE tw_598 dX2_harvestsOf_9 ?_
  refine e_land (pc := 12) hE dX2_harvestsOf_12 ?_
  refine e_l2i (pc := 13) hE dX2_harvestsOf_13 ?_
  exact hR dX2_harvestsOf_14 h
set_option maxHeartbeats 4000000 in
set_option maxRecDepth 20000 in
theorem t_Fl_mayBeStamped {l : Launch} {G : Gs} {d : Nat} {a0 : Nat} {a1 : Nat} {a2 : Int32} {M : Mm} {Q : Int32 → Mm → Prop} (f0 : kd a0 = 2) (f1 : isCh a1) (h : wp_Fl_mayBeStamped a0 a1 a2 M Q) : CtI l G (d + 1) yX2_mayBeStamped cX2_mayBeStamped 4 (some .boolean) [rv G a0, rv G a1, .int a2] M Q := by
  refine CtI.mkZ (by decide) rfl (Nat.le_of_ble_eq_true rfl) (fun E hE hR => ?_)
  show E 0 [(0, rv G a0), (1, rv G a1), (2, .int a2)] [] M
  unfold wp_Fl_mayBeStamped at h
  refine e_aload_n (pc := 0) hE rfl 1 rfl dX2_mayBeStamped_0 ?_
  refine g_Chart_year (pc := 1) hE (ch_kd f1) tw_143 dX2_mayBeStamped_1 ?_
  refine e_iload_n (pc := 4) hE rfl 2 rfl dX2_mayBeStamped_4 ?_
  refine e_iald (pc := 5) hE (ch_year f1) h.1 dX2_mayBeStamped_5 ?_
  have h := h.2
  refine e_topi (fun x6 ex6 => ?_)
  have h := h x6 ex6
  refine e_istore_n (pc := 6) (lv' := [(3, .int x6), (0, rv G a0), (1, rv G a1), (2, .int a2)]) hE dX2_mayBeStamped_6 rfl (by decide) rfl ?_
  refine e_iload_n (pc := 7) hE rfl 0 rfl dX2_mayBeStamped_7 ?_
  refine e_if_le (pc := 8) hE 26 dX2_mayBeStamped_8 (by decide) (fun c0 => ?_) (fun c0 => ?_)
  · have h := h.1 c0
    refine e_iconst (pc := 26) (v := 0) hE ki_0 dX2_mayBeStamped_26 ?_
    exact hR dX2_mayBeStamped_27 (Or.inl rfl) h
  · have h := h.2 c0
    refine e_aload_n (pc := 11) hE rfl 1 rfl dX2_mayBeStamped_11 ?_
    refine g_Flow_season (pc := 12) hE f0 tw_218 dX2_mayBeStamped_12 ?_
    refine e_iload_n (pc := 15) hE rfl 0 rfl dX2_mayBeStamped_15 ?_
    refine e_irem (pc := 16) hE h.1 dX2_mayBeStamped_16 ?_
    have h := h.2
    refine e_aload_n (pc := 17) hE rfl 2 rfl dX2_mayBeStamped_17 ?_
    refine g_Chart_day (pc := 18) hE (ch_kd f1) tw_146 dX2_mayBeStamped_18 ?_
    refine e_iload_n (pc := 21) hE rfl 3 rfl dX2_mayBeStamped_21 ?_
    refine e_iald (pc := 22) hE (ch_day f1) h.1 dX2_mayBeStamped_22 ?_
    have h := h.2
    refine e_icmp_eq (pc := 23) hE 28 dX2_mayBeStamped_23 (by decide) (fun c0 => ?_) (fun c0 => ?_)
    · have h := h.1 c0
      refine e_aload_n (pc := 28) hE rfl 1 rfl dX2_mayBeStamped_28 ?_
      refine g_Flow_dead (pc := 29) hE f0 tw_224 dX2_mayBeStamped_29 ?_
      refine e_aload_n (pc := 32) hE rfl 1 rfl dX2_mayBeStamped_32 ?_
      refine g_Flow_open (pc := 33) hE f0 tw_220 dX2_mayBeStamped_33 ?_
      refine e_aload_n (pc := 36) hE rfl 1 rfl dX2_mayBeStamped_36 ?_
      refine g_Flow_barges (pc := 37) hE f0 tw_222 dX2_mayBeStamped_37 ?_
      refine e_iand (pc := 40) hE dX2_mayBeStamped_40 ?_
      refine e_ior (pc := 41) hE dX2_mayBeStamped_41 ?_
      refine e_iload_n (pc := 42) hE rfl 3 rfl dX2_mayBeStamped_42 ?_
      refine cN_B_hasBit (pc := 43) (d := d + 0) hE (t_B_hasBit (d := d)  h) tn_603 (Nat.le_of_ble_eq_true rfl) dX2_mayBeStamped_43 (fun r43 M43 h => ?_)
      refine e_if_ne (pc := 46) hE 69 dX2_mayBeStamped_46 (by decide) (fun c0 => ?_) (fun c0 => ?_)
      · have h := h.1 c0
        refine e_iconst (pc := 69) (v := 0) hE ki_0 dX2_mayBeStamped_69 ?_
        exact hR dX2_mayBeStamped_70 (Or.inl rfl) h
      · have h := h.2 c0
        refine e_aload_n (pc := 49) hE rfl 2 rfl dX2_mayBeStamped_49 ?_
        refine g_Chart_waits (pc := 50) hE (ch_kd f1) tw_149 dX2_mayBeStamped_50 ?_
        refine e_iload_n (pc := 53) hE rfl 3 rfl dX2_mayBeStamped_53 ?_
        refine e_iald (pc := 54) hE (ch_waits f1) h.1 dX2_mayBeStamped_54 ?_
        have h := h.2
        refine e_aload_n (pc := 55) hE rfl 1 rfl dX2_mayBeStamped_55 ?_
        refine g_Flow_open (pc := 56) hE f0 tw_220 dX2_mayBeStamped_56 ?_
        refine e_iconst (pc := 59) (v := -1) hE ki_m1 dX2_mayBeStamped_59 ?_
        refine e_ixor (pc := 60) hE dX2_mayBeStamped_60 ?_
        refine e_iand (pc := 61) hE dX2_mayBeStamped_61 ?_
        refine e_if_ne (pc := 62) hE 69 dX2_mayBeStamped_62 (by decide) (fun c0 => ?_) (fun c0 => ?_)
        · have h := h.1 c0
          refine e_iconst (pc := 69) (v := 0) hE ki_0 dX2_mayBeStamped_69 ?_
          exact hR dX2_mayBeStamped_70 (Or.inl rfl) h
        · have h := h.2 c0
          refine e_iconst (pc := 65) (v := 1) hE ki_1 dX2_mayBeStamped_65 ?_
          refine e_goto (pc := 66) hE 70 dX2_mayBeStamped_66 (by decide) ?_
          exact hR dX2_mayBeStamped_70 (Or.inr rfl) h
    · have h := h.2 c0
      refine e_iconst (pc := 26) (v := 0) hE ki_0 dX2_mayBeStamped_26 ?_
      exact hR dX2_mayBeStamped_27 (Or.inl rfl) h
set_option maxHeartbeats 4000000 in
set_option maxRecDepth 20000 in
theorem t_J_bitCount {l : Launch} {G : Gs} {d : Nat} {a0 : Int32} {M : Mm} {Q : Int32 → Mm → Prop}  (h : wp_J_bitCount a0 M Q) : CtI l G (d + 0) yJ6_bitCount_0f7a4 cJ6_bitCount_0f7a4 1 (some .int) [.int a0] M Q := by
  refine CtI.mk (by decide) rfl (Nat.le_of_ble_eq_true rfl) (fun E hE hR => ?_)
  show E 0 [(0, .int a0)] [] M
  unfold wp_J_bitCount at h
  refine e_iload_n (pc := 0) hE rfl 0 rfl dJ6_bitCount_0f7a4_0 ?_
  refine e_iload_n (pc := 1) hE rfl 0 rfl dJ6_bitCount_0f7a4_1 ?_
  refine e_iconst (pc := 2) (v := 1) hE ki_1 dJ6_bitCount_0f7a4_2 ?_
  refine e_iushr (pc := 3) hE dJ6_bitCount_0f7a4_3 ?_
  refine e_ldcw (pc := 4) hE tw_624 dJ6_bitCount_0f7a4_4 ?_
  refine e_iand (pc := 7) hE dJ6_bitCount_0f7a4_7 ?_
  refine e_isub (pc := 8) hE dJ6_bitCount_0f7a4_8 ?_
  refine e_topi (fun x9 ex9 => ?_)
  have h := h x9 ex9
  refine e_istore_n (pc := 9) (lv' := [(0, .int x9)]) hE dJ6_bitCount_0f7a4_9 rfl (by decide) rfl ?_
  refine e_iload_n (pc := 10) hE rfl 0 rfl dJ6_bitCount_0f7a4_10 ?_
  refine e_ldcw (pc := 11) hE tw_625 dJ6_bitCount_0f7a4_11 ?_
  refine e_iand (pc := 14) hE dJ6_bitCount_0f7a4_14 ?_
  refine e_iload_n (pc := 15) hE rfl 0 rfl dJ6_bitCount_0f7a4_15 ?_
  refine e_iconst (pc := 16) (v := 2) hE ki_2 dJ6_bitCount_0f7a4_16 ?_
  refine e_iushr (pc := 17) hE dJ6_bitCount_0f7a4_17 ?_
  refine e_ldcw (pc := 18) hE tw_625 dJ6_bitCount_0f7a4_18 ?_
  refine e_iand (pc := 21) hE dJ6_bitCount_0f7a4_21 ?_
  refine e_iadd (pc := 22) hE dJ6_bitCount_0f7a4_22 ?_
  refine e_topi (fun x23 ex23 => ?_)
  have h := h x23 ex23
  refine e_istore_n (pc := 23) (lv' := [(0, .int x23)]) hE dJ6_bitCount_0f7a4_23 rfl (by decide) rfl ?_
  refine e_iload_n (pc := 24) hE rfl 0 rfl dJ6_bitCount_0f7a4_24 ?_
  refine e_iload_n (pc := 25) hE rfl 0 rfl dJ6_bitCount_0f7a4_25 ?_
  refine e_iconst (pc := 26) (v := 4) hE ki_4 dJ6_bitCount_0f7a4_26 ?_
  refine e_iushr (pc := 27) hE dJ6_bitCount_0f7a4_27 ?_
  refine e_iadd (pc := 28) hE dJ6_bitCount_0f7a4_28 ?_
  refine e_ldcw (pc := 29) hE tw_626 dJ6_bitCount_0f7a4_29 ?_
  refine e_iand (pc := 32) hE dJ6_bitCount_0f7a4_32 ?_
  refine e_topi (fun x33 ex33 => ?_)
  have h := h x33 ex33
  refine e_istore_n (pc := 33) (lv' := [(0, .int x33)]) hE dJ6_bitCount_0f7a4_33 rfl (by decide) rfl ?_
  refine e_iload_n (pc := 34) hE rfl 0 rfl dJ6_bitCount_0f7a4_34 ?_
  refine e_iload_n (pc := 35) hE rfl 0 rfl dJ6_bitCount_0f7a4_35 ?_
  refine e_bipush (pc := 36) (v := 8) hE kb_8 dJ6_bitCount_0f7a4_36 ?_
  refine e_iushr (pc := 38) hE dJ6_bitCount_0f7a4_38 ?_
  refine e_iadd (pc := 39) hE dJ6_bitCount_0f7a4_39 ?_
  refine e_topi (fun x40 ex40 => ?_)
  have h := h x40 ex40
  refine e_istore_n (pc := 40) (lv' := [(0, .int x40)]) hE dJ6_bitCount_0f7a4_40 rfl (by decide) rfl ?_
  refine e_iload_n (pc := 41) hE rfl 0 rfl dJ6_bitCount_0f7a4_41 ?_
  refine e_iload_n (pc := 42) hE rfl 0 rfl dJ6_bitCount_0f7a4_42 ?_
  refine e_bipush (pc := 43) (v := 16) hE kb_16 dJ6_bitCount_0f7a4_43 ?_
  refine e_iushr (pc := 45) hE dJ6_bitCount_0f7a4_45 ?_
  refine e_iadd (pc := 46) hE dJ6_bitCount_0f7a4_46 ?_
  refine e_topi (fun x47 ex47 => ?_)
  have h := h x47 ex47
  refine e_istore_n (pc := 47) (lv' := [(0, .int x47)]) hE dJ6_bitCount_0f7a4_47 rfl (by decide) rfl ?_
  refine e_iload_n (pc := 48) hE rfl 0 rfl dJ6_bitCount_0f7a4_48 ?_
  refine e_bipush (pc := 49) (v := 63) hE kb_63 dJ6_bitCount_0f7a4_49 ?_
  refine e_iand (pc := 51) hE dJ6_bitCount_0f7a4_51 ?_
  exact hR dJ6_bitCount_0f7a4_52 h
set_option maxHeartbeats 4000000 in
set_option maxRecDepth 20000 in
theorem w_Ch_waterOf_29 {l : Launch} {G : Gs} {d : Nat} {E : EE} {a0 : Nat} {a1 : Int32} {a2 : Int32} {Q : Int32 → Mm → Prop} (hE : Mach l G RX0 cX0_waterOf 6 (d + 1) E) (hR : RtI cX0_waterOf E Q) (f0 : isCh a0)  {KB : Int32 → Int32 → Mm → Prop} {K61 : Int32 → Mm → Prop} {v3 : Int32} {v4 : Int32} {M : Mm} (h : k_Ch_waterOf_29 a0 a1 a2 Q KB K61 v3 v4 M) (hKB : ∀ (v3 : Int32) (v4 : Int32)  (M : Mm), KB v3 v4 M → E 29 [(0, rv G a0), (1, .int a1), (2, .int a2), (3, .int v3), (4, .int v4)] [] M) (hK61 : ∀ (v3 : Int32)  (M : Mm), K61 v3 M → E 61 [(0, rv G a0), (1, .int a1), (2, .int a2), (3, .int v3)] [] M) : E 29 [(0, rv G a0), (1, .int a1), (2, .int a2), (3, .int v3), (4, .int v4)] [] M := by
  unfold k_Ch_waterOf_29 at h
  refine e_iload (pc := 29) hE 4 rfl dX0_waterOf_29 ?_
  refine e_aload_n (pc := 31) hE rfl 0 rfl dX0_waterOf_31 ?_
  refine g_Chart_arms (pc := 32) hE (ch_kd f0) tw_153 dX0_waterOf_32 ?_
  refine e_icmp_ge (pc := 35) hE 61 dX0_waterOf_35 (by decide) (fun c0 => ?_) (fun c0 => ?_)
  · have h := h.1 c0
    refine e_sub hE [0, 1, 2, 3] rfl ?_
    exact hK61 _ _ h
  · have h := h.2 c0
    refine e_iload_n (pc := 38) hE rfl 3 rfl dX0_waterOf_38 ?_
    refine e_iload_n (pc := 39) hE rfl 2 rfl dX0_waterOf_39 ?_
    refine e_iload (pc := 40) hE 4 rfl dX0_waterOf_40 ?_
    refine e_ishr (pc := 42) hE dX0_waterOf_42 ?_
    refine e_iconst (pc := 43) (v := 1) hE ki_1 dX0_waterOf_43 ?_
    refine e_iand (pc := 44) hE dX0_waterOf_44 ?_
    refine e_aload_n (pc := 45) hE rfl 0 rfl dX0_waterOf_45 ?_
    refine g_Chart_width (pc := 46) hE (ch_kd f0) tw_135 dX0_waterOf_46 ?_
    refine e_iload (pc := 49) hE 4 rfl dX0_waterOf_49 ?_
    refine e_iald (pc := 51) hE (ch_width f0) h.1 dX0_waterOf_51 ?_
    have h := h.2
    refine e_imul (pc := 52) hE dX0_waterOf_52 ?_
    refine e_iadd (pc := 53) hE dX0_waterOf_53 ?_
    refine e_topi (fun x54 ex54 => ?_)
    have h := h x54 ex54
    refine e_istore_n (pc := 54) (lv' := [(3, .int x54), (0, rv G a0), (1, .int a1), (2, .int a2), (4, .int v4)]) hE dX0_waterOf_54 rfl (by decide) rfl ?_
    obtain ⟨x55, ex55⟩ : ∃ y : Int32, y = v4 + (1 : Int32) := ⟨_, rfl⟩
    have h := h x55 ex55
    refine e_iinc (pc := 55) (k := 4) (v := x55) (lv' := [(4, .int x55), (3, .int x54), (0, rv G a0), (1, .int a1), (2, .int a2)]) hE dX0_waterOf_55 rfl (by rw [ex55, ki_1]) (by decide) rfl ?_
    refine e_goto (pc := 58) hE 29 dX0_waterOf_58 (by decide) ?_
    refine e_sub hE [2, 3, 4, 1, 0] rfl ?_
    exact hKB _ _ _ h
set_option maxHeartbeats 4000000 in
set_option maxRecDepth 20000 in
theorem w_lp_Ch_waterOf_29 {l : Launch} {G : Gs} {d : Nat} {E : EE} {a0 : Nat} {a1 : Int32} {a2 : Int32} {Q : Int32 → Mm → Prop} (hE : Mach l G RX0 cX0_waterOf 6 (d + 1) E) (hR : RtI cX0_waterOf E Q) (f0 : isCh a0)  {K61 : Int32 → Mm → Prop} {n : Nat} {v3 : Int32} {v4 : Int32} {M : Mm} (h : lp_Ch_waterOf_29 a0 a1 a2 Q K61 n v3 v4 M) (hK61 : ∀ (v3 : Int32)  (M : Mm), K61 v3 M → E 61 [(0, rv G a0), (1, .int a1), (2, .int a2), (3, .int v3)] [] M) : E 29 [(0, rv G a0), (1, .int a1), (2, .int a2), (3, .int v3), (4, .int v4)] [] M := by
  have key : ∀ (n : Nat) (v3 : Int32) (v4 : Int32) (M : Mm), lp_Ch_waterOf_29 a0 a1 a2 Q K61 n v3 v4 M → E 29 [(0, rv G a0), (1, .int a1), (2, .int a2), (3, .int v3), (4, .int v4)] [] M := by
    intro n
    induction n with
    | zero => intro v3 v4 M h; exact h.elim
    | succ n ih => intro v3 v4 M h; exact w_Ch_waterOf_29 hE hR f0 (show k_Ch_waterOf_29 a0 a1 a2 Q (lp_Ch_waterOf_29 a0 a1 a2 Q K61 n) K61 v3 v4 M from h) ih hK61
  exact key n _ _ _ h
set_option maxHeartbeats 4000000 in
set_option maxRecDepth 20000 in
theorem w_Ch_waterOf_114 {l : Launch} {G : Gs} {d : Nat} {E : EE} {a0 : Nat} {a1 : Int32} {a2 : Int32} {Q : Int32 → Mm → Prop} (hE : Mach l G RX0 cX0_waterOf 6 (d + 1) E) (hR : RtI cX0_waterOf E Q) (f0 : isCh a0)  {KB : Int32 → Int32 → Int32 → Mm → Prop} {K123 : Int32 → Int32 → Mm → Prop} {v3 : Int32} {v5 : Int32} {s0 : Int32} {s1 : Int32} {M : Mm} (h : k_Ch_waterOf_114 a0 a1 a2 Q KB K123 v3 v5 s0 s1 M) (hKB : ∀ (v3 : Int32) (v4 : Int32) (v5 : Int32)  (M : Mm), KB v3 v4 v5 M → E 76 [(0, rv G a0), (1, .int a1), (2, .int a2), (3, .int v3), (4, .int v4), (5, .int v5)] [] M) (hK123 : ∀ (v3 : Int32) (v4 : Int32)  (M : Mm), K123 v3 v4 M → E 123 [(0, rv G a0), (1, .int a1), (2, .int a2), (3, .int v3), (4, .int v4)] [] M) : E 114 [(0, rv G a0), (1, .int a1), (2, .int a2), (3, .int v3), (5, .int v5)] [.int s0, .int s1] M := by
  unfold k_Ch_waterOf_114 at h
  refine e_isub (pc := 114) hE dX0_waterOf_114 ?_
  refine e_topi (fun x115 ex115 => ?_)
  have h := h x115 ex115
  refine e_istore (pc := 115) (lv' := [(4, .int x115), (0, rv G a0), (1, .int a1), (2, .int a2), (3, .int v3), (5, .int v5)]) hE dX0_waterOf_115 (by decide) rfl ?_
  obtain ⟨x117, ex117⟩ : ∃ y : Int32, y = v5 + (1 : Int32) := ⟨_, rfl⟩
  have h := h x117 ex117
  refine e_iinc (pc := 117) (k := 5) (v := x117) (lv' := [(5, .int x117), (4, .int x115), (0, rv G a0), (1, .int a1), (2, .int a2), (3, .int v3)]) hE dX0_waterOf_117 rfl (by rw [ex117, ki_1]) (by decide) rfl ?_
  refine e_goto (pc := 120) hE 76 dX0_waterOf_120 (by decide) ?_
  refine e_sub hE [2, 3, 4, 5, 1, 0] rfl ?_
  exact hKB _ _ _ _ h
set_option maxHeartbeats 4000000 in
set_option maxRecDepth 20000 in
theorem w_Ch_waterOf_76 {l : Launch} {G : Gs} {d : Nat} {E : EE} {a0 : Nat} {a1 : Int32} {a2 : Int32} {Q : Int32 → Mm → Prop} (hE : Mach l G RX0 cX0_waterOf 6 (d + 1) E) (hR : RtI cX0_waterOf E Q) (f0 : isCh a0)  {KB : Int32 → Int32 → Int32 → Mm → Prop} {K123 : Int32 → Int32 → Mm → Prop} {v3 : Int32} {v4 : Int32} {v5 : Int32} {M : Mm} (h : k_Ch_waterOf_76 a0 a1 a2 Q KB K123 v3 v4 v5 M) (hKB : ∀ (v3 : Int32) (v4 : Int32) (v5 : Int32)  (M : Mm), KB v3 v4 v5 M → E 76 [(0, rv G a0), (1, .int a1), (2, .int a2), (3, .int v3), (4, .int v4), (5, .int v5)] [] M) (hK123 : ∀ (v3 : Int32) (v4 : Int32)  (M : Mm), K123 v3 v4 M → E 123 [(0, rv G a0), (1, .int a1), (2, .int a2), (3, .int v3), (4, .int v4)] [] M) : E 76 [(0, rv G a0), (1, .int a1), (2, .int a2), (3, .int v3), (4, .int v4), (5, .int v5)] [] M := by
  unfold k_Ch_waterOf_76 at h
  refine e_iload (pc := 76) hE 5 rfl dX0_waterOf_76 ?_
  refine e_aload_n (pc := 78) hE rfl 0 rfl dX0_waterOf_78 ?_
  refine g_Chart_arms (pc := 79) hE (ch_kd f0) tw_153 dX0_waterOf_79 ?_
  refine e_icmp_ge (pc := 82) hE 123 dX0_waterOf_82 (by decide) (fun c0 => ?_) (fun c0 => ?_)
  · have h := h.1 c0
    refine e_sub hE [0, 1, 2, 3, 4] rfl ?_
    exact hK123 _ _ _ h
  · have h := h.2 c0
    refine e_iload (pc := 85) hE 4 rfl dX0_waterOf_85 ?_
    refine e_iload_n (pc := 87) hE rfl 2 rfl dX0_waterOf_87 ?_
    refine e_iload (pc := 88) hE 5 rfl dX0_waterOf_88 ?_
    refine cN_B_hasBit (pc := 90) (d := d + 0) hE (t_B_hasBit (d := d)  h) tn_620 (Nat.le_of_ble_eq_true rfl) dX0_waterOf_90 (fun r90 M90 h => ?_)
    refine e_if_eq (pc := 93) hE 113 dX0_waterOf_93 (by decide) (fun c0 => ?_) (fun c0 => ?_)
    · have h := h.1 c0
      refine e_iconst (pc := 113) (v := 0) hE ki_0 dX0_waterOf_113 ?_
      refine e_sub hE [0, 1, 2, 3, 5] rfl ?_
      exact w_Ch_waterOf_114 hE hR f0 h hKB hK123
    · have h := h.2 c0
      refine e_aload_n (pc := 96) hE rfl 0 rfl dX0_waterOf_96 ?_
      refine g_Chart_river (pc := 97) hE (ch_kd f0) tw_159 dX0_waterOf_97 ?_
      refine e_aload_n (pc := 100) hE rfl 0 rfl dX0_waterOf_100 ?_
      refine g_Chart_width (pc := 101) hE (ch_kd f0) tw_135 dX0_waterOf_101 ?_
      refine e_iload (pc := 104) hE 5 rfl dX0_waterOf_104 ?_
      refine e_iald (pc := 106) hE (ch_width f0) h.1 dX0_waterOf_106 ?_
      have h := h.2
      refine e_imul (pc := 107) hE dX0_waterOf_107 ?_
      refine e_iload_n (pc := 108) hE rfl 3 rfl dX0_waterOf_108 ?_
      refine e_idiv (pc := 109) hE h.1 dX0_waterOf_109 ?_
      have h := h.2
      refine e_goto (pc := 110) hE 114 dX0_waterOf_110 (by decide) ?_
      refine e_sub hE [0, 1, 2, 3, 5] rfl ?_
      exact w_Ch_waterOf_114 hE hR f0 h hKB hK123
set_option maxHeartbeats 4000000 in
set_option maxRecDepth 20000 in
theorem w_lp_Ch_waterOf_76 {l : Launch} {G : Gs} {d : Nat} {E : EE} {a0 : Nat} {a1 : Int32} {a2 : Int32} {Q : Int32 → Mm → Prop} (hE : Mach l G RX0 cX0_waterOf 6 (d + 1) E) (hR : RtI cX0_waterOf E Q) (f0 : isCh a0)  {K123 : Int32 → Int32 → Mm → Prop} {n : Nat} {v3 : Int32} {v4 : Int32} {v5 : Int32} {M : Mm} (h : lp_Ch_waterOf_76 a0 a1 a2 Q K123 n v3 v4 v5 M) (hK123 : ∀ (v3 : Int32) (v4 : Int32)  (M : Mm), K123 v3 v4 M → E 123 [(0, rv G a0), (1, .int a1), (2, .int a2), (3, .int v3), (4, .int v4)] [] M) : E 76 [(0, rv G a0), (1, .int a1), (2, .int a2), (3, .int v3), (4, .int v4), (5, .int v5)] [] M := by
  have key : ∀ (n : Nat) (v3 : Int32) (v4 : Int32) (v5 : Int32) (M : Mm), lp_Ch_waterOf_76 a0 a1 a2 Q K123 n v3 v4 v5 M → E 76 [(0, rv G a0), (1, .int a1), (2, .int a2), (3, .int v3), (4, .int v4), (5, .int v5)] [] M := by
    intro n
    induction n with
    | zero => intro v3 v4 v5 M h; exact h.elim
    | succ n ih => intro v3 v4 v5 M h; exact w_Ch_waterOf_76 hE hR f0 (show k_Ch_waterOf_76 a0 a1 a2 Q (lp_Ch_waterOf_76 a0 a1 a2 Q K123 n) K123 v3 v4 v5 M from h) ih hK123
  exact key n _ _ _ _ h
set_option maxHeartbeats 4000000 in
set_option maxRecDepth 20000 in
theorem t_Ch_waterOf {l : Launch} {G : Gs} {d : Nat} {a0 : Nat} {a1 : Int32} {a2 : Int32} {M : Mm} {Q : Int32 → Mm → Prop} (f0 : isCh a0) (h : wp_Ch_waterOf a0 a1 a2 M Q) : CtI l G (d + 1) yX0_waterOf cX0_waterOf 6 (some .int) [rv G a0, .int a1, .int a2] M Q := by
  refine CtI.mk (by decide) rfl (Nat.le_of_ble_eq_true rfl) (fun E hE hR => ?_)
  show E 0 [(0, rv G a0), (1, .int a1), (2, .int a2)] [] M
  unfold wp_Ch_waterOf at h
  refine e_iload_n (pc := 0) hE rfl 2 rfl dX0_waterOf_0 ?_
  refine e_iload_n (pc := 1) hE rfl 1 rfl dX0_waterOf_1 ?_
  refine cN_B_hasBit (pc := 2) (d := d + 0) hE (t_B_hasBit (d := d)  h) tn_620 (Nat.le_of_ble_eq_true rfl) dX0_waterOf_2 (fun r2 M2 h => ?_)
  refine e_if_ne (pc := 5) hE 24 dX0_waterOf_5 (by decide) (fun c0 => ?_) (fun c0 => ?_)
  · have h := h.1 c0
    refine e_iconst (pc := 24) (v := 0) hE ki_0 dX0_waterOf_24 ?_
    refine e_istore_n (pc := 25) (lv' := [(3, .int (0 : Int32)), (0, rv G a0), (1, .int a1), (2, .int a2)]) hE dX0_waterOf_25 rfl (by decide) rfl ?_
    refine e_iconst (pc := 26) (v := 0) hE ki_0 dX0_waterOf_26 ?_
    refine e_istore (pc := 27) (lv' := [(4, .int (0 : Int32)), (3, .int (0 : Int32)), (0, rv G a0), (1, .int a1), (2, .int a2)]) hE dX0_waterOf_27 (by decide) rfl ?_
    obtain ⟨n, h⟩ := h
    refine e_sub hE [2, 3, 4, 1, 0] rfl ?_
    refine w_lp_Ch_waterOf_29 hE hR f0 h (fun v3 M h => ?_)
    refine e_iload_n (pc := 61) hE rfl 3 rfl dX0_waterOf_61 ?_
    refine e_if_gt (pc := 62) hE 67 dX0_waterOf_62 (by decide) (fun c0 => ?_) (fun c0 => ?_)
    · have h := h.1 c0
      refine e_aload_n (pc := 67) hE rfl 0 rfl dX0_waterOf_67 ?_
      refine g_Chart_river (pc := 68) hE (ch_kd f0) tw_159 dX0_waterOf_68 ?_
      refine e_topi (fun x71 ex71 => ?_)
      have h := h x71 ex71
      refine e_istore (pc := 71) (lv' := [(4, .int x71), (0, rv G a0), (1, .int a1), (2, .int a2), (3, .int v3)]) hE dX0_waterOf_71 (by decide) rfl ?_
      refine e_iconst (pc := 73) (v := 0) hE ki_0 dX0_waterOf_73 ?_
      refine e_istore (pc := 74) (lv' := [(5, .int (0 : Int32)), (4, .int x71), (0, rv G a0), (1, .int a1), (2, .int a2), (3, .int v3)]) hE dX0_waterOf_74 (by decide) rfl ?_
      obtain ⟨n, h⟩ := h
      refine e_sub hE [2, 3, 4, 5, 1, 0] rfl ?_
      refine w_lp_Ch_waterOf_76 hE hR f0 h (fun v3 v4 M h => ?_)
      refine e_iload_n (pc := 123) hE rfl 2 rfl dX0_waterOf_123 ?_
      refine e_iconst (pc := 124) (v := 1) hE ki_1 dX0_waterOf_124 ?_
      refine e_iload_n (pc := 125) hE rfl 1 rfl dX0_waterOf_125 ?_
      refine e_ishl (pc := 126) hE dX0_waterOf_126 ?_
      refine e_iconst (pc := 127) (v := 1) hE ki_1 dX0_waterOf_127 ?_
      refine e_isub (pc := 128) hE dX0_waterOf_128 ?_
      refine e_iand (pc := 129) hE dX0_waterOf_129 ?_
      refine c_J_bitCount (pc := 130) (d := d + 0) hE (t_J_bitCount (d := d)  h) tw_621 (Nat.le_of_ble_eq_true rfl) dX0_waterOf_130 (fun r130 M130 h => ?_)
      refine e_istore (pc := 133) (lv' := [(5, .int r130), (0, rv G a0), (1, .int a1), (2, .int a2), (3, .int v3), (4, .int v4)]) hE dX0_waterOf_133 (by decide) rfl ?_
      refine e_aload_n (pc := 135) hE rfl 1 rfl dX0_waterOf_135 ?_
      refine g_Chart_river (pc := 136) hE (ch_kd f0) tw_159 dX0_waterOf_136 ?_
      refine e_aload_n (pc := 139) hE rfl 1 rfl dX0_waterOf_139 ?_
      refine g_Chart_width (pc := 140) hE (ch_kd f0) tw_135 dX0_waterOf_140 ?_
      refine e_iload_n (pc := 143) hE rfl 2 rfl dX0_waterOf_143 ?_
      refine e_iald (pc := 144) hE (ch_width f0) h.1 dX0_waterOf_144 ?_
      have h := h.2
      refine e_imul (pc := 145) hE dX0_waterOf_145 ?_
      refine e_iload_n (pc := 146) hE rfl 4 rfl dX0_waterOf_146 ?_
      refine e_idiv (pc := 147) hE h.1 dX0_waterOf_147 ?_
      have h := h.2
      refine e_iload (pc := 148) hE 0 rfl dX0_waterOf_148 ?_
      refine e_iload (pc := 150) hE 5 rfl dX0_waterOf_150 ?_
      refine e_icmp_ge (pc := 152) hE 159 dX0_waterOf_152 (by decide) (fun c0 => ?_) (fun c0 => ?_)
      · have h := h.1 c0
        refine e_iconst (pc := 159) (v := 0) hE ki_0 dX0_waterOf_159 ?_
        refine e_iadd (pc := 160) hE dX0_waterOf_160 ?_
        exact hR dX0_waterOf_161 h
      · have h := h.2 c0
        refine e_iconst (pc := 155) (v := 1) hE ki_1 dX0_waterOf_155 ?_
        refine e_goto (pc := 156) hE 160 dX0_waterOf_156 (by decide) ?_
        refine e_iadd (pc := 160) hE dX0_waterOf_160 ?_
        exact hR dX0_waterOf_161 h
    · have h := h.2 c0
      refine e_iconst (pc := 65) (v := 0) hE ki_0 dX0_waterOf_65 ?_
      exact hR dX0_waterOf_66 h
  · have h := h.2 c0
    refine e_aload_n (pc := 8) hE rfl 0 rfl dX0_waterOf_8 ?_
    refine g_Chart_kind (pc := 9) hE (ch_kd f0) tw_131 dX0_waterOf_9 ?_
    refine e_iload_n (pc := 12) hE rfl 1 rfl dX0_waterOf_12 ?_
    refine e_iald (pc := 13) hE (ch_kind f0) h.1 dX0_waterOf_13 ?_
    have h := h.2
    refine e_iconst (pc := 14) (v := 4) hE ki_4 dX0_waterOf_14 ?_
    refine e_icmp_ne (pc := 15) hE 22 dX0_waterOf_15 (by decide) (fun c0 => ?_) (fun c0 => ?_)
    · have h := h.1 c0
      refine e_iconst (pc := 22) (v := 0) hE ki_0 dX0_waterOf_22 ?_
      exact hR dX0_waterOf_23 h
    · have h := h.2 c0
      refine e_iconst (pc := 18) (v := 1) hE ki_1 dX0_waterOf_18 ?_
      refine e_goto (pc := 19) hE 23 dX0_waterOf_19 (by decide) ?_
      exact hR dX0_waterOf_23 h
set_option maxHeartbeats 4000000 in
set_option maxRecDepth 20000 in
theorem w_Fl_followerOf_27 {l : Launch} {G : Gs} {d : Nat} {E : EE} {a0 : Nat} {a1 : Nat} {a2 : Int32} {Q : Int32 → Mm → Prop} (hE : Mach l G RX2 cX2_followerOf 5 (d + 1) E) (hR : RtI cX2_followerOf E Q) (f0 : kd a0 = 2) (f1 : isCh a1)   {v3 : Int32} {s0 : Int32} {M : Mm} (h : k_Fl_followerOf_27 a0 a1 a2 Q v3 s0 M)  : E 27 [(0, rv G a0), (3, .int v3)] [.int s0] M := by
  unfold k_Fl_followerOf_27 at h
  refine e_istore (pc := 27) (lv' := [(4, .int s0), (0, rv G a0), (3, .int v3)]) hE dX2_followerOf_27 (by decide) rfl ?_
  refine e_iload (pc := 29) hE 0 rfl dX2_followerOf_29 ?_
  refine e_if_eq (pc := 31) hE 54 dX2_followerOf_31 (by decide) (fun c0 => ?_) (fun c0 => ?_)
  · have h := h.1 c0
    refine e_bipush (pc := 54) (v := -9) hE kb_m9 dX2_followerOf_54 ?_
    exact hR dX2_followerOf_56 h
  · have h := h.2 c0
    refine e_aload_n (pc := 34) hE rfl 1 rfl dX2_followerOf_34 ?_
    refine g_Flow_dead (pc := 35) hE f0 tw_224 dX2_followerOf_35 ?_
    refine e_aload_n (pc := 38) hE rfl 1 rfl dX2_followerOf_38 ?_
    refine g_Flow_barges (pc := 39) hE f0 tw_222 dX2_followerOf_39 ?_
    refine e_ior (pc := 42) hE dX2_followerOf_42 ?_
    refine e_iload_n (pc := 43) hE rfl 2 rfl dX2_followerOf_43 ?_
    refine cN_B_hasBit (pc := 44) (d := d + 0) hE (t_B_hasBit (d := d)  h) tn_603 (Nat.le_of_ble_eq_true rfl) dX2_followerOf_44 (fun r44 M44 h => ?_)
    refine e_if_ne (pc := 47) hE 54 dX2_followerOf_47 (by decide) (fun c0 => ?_) (fun c0 => ?_)
    · have h := h.1 c0
      refine e_bipush (pc := 54) (v := -9) hE kb_m9 dX2_followerOf_54 ?_
      exact hR dX2_followerOf_56 h
    · have h := h.2 c0
      refine e_iload_n (pc := 50) hE rfl 2 rfl dX2_followerOf_50 ?_
      refine e_goto (pc := 51) hE 56 dX2_followerOf_51 (by decide) ?_
      exact hR dX2_followerOf_56 h
set_option maxHeartbeats 4000000 in
set_option maxRecDepth 20000 in
theorem w_Fl_followerOf_26 {l : Launch} {G : Gs} {d : Nat} {E : EE} {a0 : Nat} {a1 : Nat} {a2 : Int32} {Q : Int32 → Mm → Prop} (hE : Mach l G RX2 cX2_followerOf 5 (d + 1) E) (hR : RtI cX2_followerOf E Q) (f0 : kd a0 = 2) (f1 : isCh a1)   {v3 : Int32} {M : Mm} (h : k_Fl_followerOf_26 a0 a1 a2 Q v3 M)  : E 26 [(0, rv G a0), (3, .int v3)] [] M := by
  unfold k_Fl_followerOf_26 at h
  refine e_iconst (pc := 26) (v := 0) hE ki_0 dX2_followerOf_26 ?_
  exact w_Fl_followerOf_27 hE hR f0 f1 h
set_option maxHeartbeats 4000000 in
set_option maxRecDepth 20000 in
theorem t_Fl_followerOf {l : Launch} {G : Gs} {d : Nat} {a0 : Nat} {a1 : Nat} {a2 : Int32} {M : Mm} {Q : Int32 → Mm → Prop} (f0 : kd a0 = 2) (f1 : isCh a1) (h : wp_Fl_followerOf a0 a1 a2 M Q) : CtI l G (d + 1) yX2_followerOf cX2_followerOf 5 (some .int) [rv G a0, rv G a1, .int a2] M Q := by
  refine CtI.mk (by decide) rfl (Nat.le_of_ble_eq_true rfl) (fun E hE hR => ?_)
  show E 0 [(0, rv G a0), (1, rv G a1), (2, .int a2)] [] M
  unfold wp_Fl_followerOf at h
  refine e_iload_n (pc := 0) hE rfl 2 rfl dX2_followerOf_0 ?_
  refine e_iconst (pc := 1) (v := 1) hE ki_1 dX2_followerOf_1 ?_
  refine e_iadd (pc := 2) hE dX2_followerOf_2 ?_
  refine e_topi (fun x3 ex3 => ?_)
  have h := h x3 ex3
  refine e_istore_n (pc := 3) (lv' := [(3, .int x3), (0, rv G a0), (1, rv G a1), (2, .int a2)]) hE dX2_followerOf_3 rfl (by decide) rfl ?_
  refine e_aload_n (pc := 4) hE rfl 2 rfl dX2_followerOf_4 ?_
  refine g_Chart_kind (pc := 5) hE (ch_kd f1) tw_133 dX2_followerOf_5 ?_
  refine e_iload_n (pc := 8) hE rfl 3 rfl dX2_followerOf_8 ?_
  refine e_iald (pc := 9) hE (ch_kind f1) h.1 dX2_followerOf_9 ?_
  have h := h.2
  refine e_iconst (pc := 10) (v := 5) hE ki_5 dX2_followerOf_10 ?_
  refine e_icmp_ne (pc := 11) hE 26 dX2_followerOf_11 (by decide) (fun c0 => ?_) (fun c0 => ?_)
  · have h := h.1 c0
    refine e_sub hE [1, 0] rfl ?_
    exact w_Fl_followerOf_26 hE hR f0 f1 h
  · have h := h.2 c0
    refine e_aload_n (pc := 14) hE rfl 2 rfl dX2_followerOf_14 ?_
    refine e_iload_n (pc := 15) hE rfl 0 rfl dX2_followerOf_15 ?_
    refine c_Ch_hasArm (pc := 16) (d := d + 0) hE (t_Ch_hasArm (d := d) f1 h) (ch_kd f1) tw_631 (Nat.le_of_ble_eq_true rfl) dX2_followerOf_16 (fun r16 M16 h => ?_)
    refine e_if_eq (pc := 19) hE 26 dX2_followerOf_19 (by decide) (fun c0 => ?_) (fun c0 => ?_)
    · have h := h.1 c0
      refine e_sub hE [1, 0] rfl ?_
      exact w_Fl_followerOf_26 hE hR f0 f1 h
    · have h := h.2 c0
      refine e_iconst (pc := 22) (v := 1) hE ki_1 dX2_followerOf_22 ?_
      refine e_goto (pc := 23) hE 27 dX2_followerOf_23 (by decide) ?_
      refine e_sub hE [1, 0] rfl ?_
      exact w_Fl_followerOf_27 hE hR f0 f1 h
set_option maxHeartbeats 4000000 in
set_option maxRecDepth 20000 in
theorem t_St_isFull {l : Launch} {G : Gs} {d : Nat} {a0 : Nat} {M : Mm} {Q : Int32 → Mm → Prop} (f0 : isSt a0) (h : wp_St_isFull a0 M Q) : CtI l G (d + 0) yX8_isFull cX8_isFull 1 (some .boolean) [rv G a0] M Q := by
  refine CtI.mkZ (by decide) rfl (Nat.le_of_ble_eq_true rfl) (fun E hE hR => ?_)
  show E 0 [(0, rv G a0)] [] M
  unfold wp_St_isFull at h
  refine e_aload_n (pc := 0) hE rfl 0 rfl dX8_isFull_0 ?_
  refine g_Story_deeds (pc := 1) hE (st_kd f0) tw_249 dX8_isFull_1 ?_
  refine e_bipush (pc := 4) (v := 60) hE kb_60 dX8_isFull_4 ?_
  refine e_icmp_lt (pc := 6) hE 13 dX8_isFull_6 (by decide) (fun c0 => ?_) (fun c0 => ?_)
  · have h := h.1 c0
    refine e_iconst (pc := 13) (v := 0) hE ki_0 dX8_isFull_13 ?_
    exact hR dX8_isFull_14 (Or.inl rfl) h
  · have h := h.2 c0
    refine e_iconst (pc := 9) (v := 1) hE ki_1 dX8_isFull_9 ?_
    refine e_goto (pc := 10) hE 14 dX8_isFull_10 (by decide) ?_
    exact hR dX8_isFull_14 (Or.inr rfl) h
set_option maxHeartbeats 4000000 in
set_option maxRecDepth 20000 in
theorem t_Fl_copyFrom {l : Launch} {G : Gs} {d : Nat} {a0 : Nat} {a1 : Nat} {M : Mm} {Q : Mm → Prop} (f0 : kd a0 = 2) (f1 : kd a1 = 2) (h : wp_Fl_copyFrom a0 a1 M Q) : CtV l G (d + 0) yX2_copyFrom cX2_copyFrom 2 (none) [rv G a0, rv G a1] M Q := by
  refine CtV.mk (by decide) rfl (Nat.le_of_ble_eq_true rfl) (fun E hE hR => ?_)
  show E 0 [(0, rv G a0), (1, rv G a1)] [] M
  unfold wp_Fl_copyFrom at h
  refine e_aload_n (pc := 0) hE rfl 0 rfl dX2_copyFrom_0 ?_
  refine e_aload_n (pc := 1) hE rfl 1 rfl dX2_copyFrom_1 ?_
  refine g_Flow_season (pc := 2) hE f1 tw_218 dX2_copyFrom_2 ?_
  refine e_topi (fun x5 ex5 => ?_)
  have h := h x5 ex5
  refine p_Flow_season (pc := 5) hE f0 tw_218 dX2_copyFrom_5 ?_
  refine e_aload_n (pc := 8) hE rfl 0 rfl dX2_copyFrom_8 ?_
  refine e_aload_n (pc := 9) hE rfl 1 rfl dX2_copyFrom_9 ?_
  refine g_Flow_open (pc := 10) hE f1 tw_220 dX2_copyFrom_10 ?_
  refine e_topi (fun x13 ex13 => ?_)
  have h := h x13 ex13
  refine p_Flow_open (pc := 13) hE f0 tw_220 dX2_copyFrom_13 ?_
  refine e_aload_n (pc := 16) hE rfl 0 rfl dX2_copyFrom_16 ?_
  refine e_aload_n (pc := 17) hE rfl 1 rfl dX2_copyFrom_17 ?_
  refine g_Flow_barges (pc := 18) hE f1 tw_222 dX2_copyFrom_18 ?_
  refine e_topi (fun x21 ex21 => ?_)
  have h := h x21 ex21
  refine p_Flow_barges (pc := 21) hE f0 tw_222 dX2_copyFrom_21 ?_
  refine e_aload_n (pc := 24) hE rfl 0 rfl dX2_copyFrom_24 ?_
  refine e_aload_n (pc := 25) hE rfl 1 rfl dX2_copyFrom_25 ?_
  refine g_Flow_dead (pc := 26) hE f1 tw_224 dX2_copyFrom_26 ?_
  refine e_topi (fun x29 ex29 => ?_)
  have h := h x29 ex29
  refine p_Flow_dead (pc := 29) hE f0 tw_224 dX2_copyFrom_29 ?_
  refine e_aload_n (pc := 32) hE rfl 0 rfl dX2_copyFrom_32 ?_
  refine e_aload_n (pc := 33) hE rfl 1 rfl dX2_copyFrom_33 ?_
  refine g_Flow_salts (pc := 34) hE f1 tw_227 dX2_copyFrom_34 ?_
  refine e_topi (fun x37 ex37 => ?_)
  have h := h x37 ex37
  refine p_Flow_salts (pc := 37) hE f0 tw_227 dX2_copyFrom_37 ?_
  refine e_aload_n (pc := 40) hE rfl 0 rfl dX2_copyFrom_40 ?_
  refine e_aload_n (pc := 41) hE rfl 1 rfl dX2_copyFrom_41 ?_
  refine g_Flow_silts (pc := 42) hE f1 tw_228 dX2_copyFrom_42 ?_
  refine e_topi (fun x45 ex45 => ?_)
  have h := h x45 ex45
  refine p_Flow_silts (pc := 45) hE f0 tw_228 dX2_copyFrom_45 ?_
  refine e_aload_n (pc := 48) hE rfl 0 rfl dX2_copyFrom_48 ?_
  refine e_aload_n (pc := 49) hE rfl 1 rfl dX2_copyFrom_49 ?_
  refine g_Flow_harvests (pc := 50) hE f1 tw_229 dX2_copyFrom_50 ?_
  refine e_topl (fun x53 ex53 => ?_)
  have h := h x53 ex53
  refine p_Flow_harvests (pc := 53) hE f0 tw_229 dX2_copyFrom_53 ?_
  exact hR dX2_copyFrom_56 h
set_option maxHeartbeats 4000000 in
set_option maxRecDepth 20000 in
theorem t_St_noteDeed {l : Launch} {G : Gs} {d : Nat} {a0 : Nat} {M : Mm} {Q : Mm → Prop} (f0 : isSt a0) (h : wp_St_noteDeed a0 M Q) : CtV l G (d + 1) yX8_noteDeed cX8_noteDeed 1 (none) [rv G a0] M Q := by
  refine CtV.mk (by decide) rfl (Nat.le_of_ble_eq_true rfl) (fun E hE hR => ?_)
  show E 0 [(0, rv G a0)] [] M
  unfold wp_St_noteDeed at h
  refine e_aload_n (pc := 0) hE rfl 0 rfl dX8_noteDeed_0 ?_
  refine c_St_isFull (pc := 1) (d := d + 0) hE (t_St_isFull (d := d) f0 h) (st_kd f0) tw_660 (Nat.le_of_ble_eq_true rfl) dX8_noteDeed_1 (fun r1 M1 h => ?_)
  refine e_if_ne (pc := 4) hE 33 dX8_noteDeed_4 (by decide) (fun c0 => ?_) (fun c0 => ?_)
  · have h := h.1 c0
    exact hR dX8_noteDeed_33 h
  · have h := h.2 c0
    refine e_aload_n (pc := 7) hE rfl 0 rfl dX8_noteDeed_7 ?_
    refine g_Story_ahead (pc := 8) hE (st_kd f0) tw_248 dX8_noteDeed_8 ?_
    refine e_aload_n (pc := 11) hE rfl 0 rfl dX8_noteDeed_11 ?_
    refine g_Story_deeds (pc := 12) hE (st_kd f0) tw_249 dX8_noteDeed_12 ?_
    have hx15 := (fl_ahead f0) h.1
    refine e_fald (pc := 15) hE (st_ahead f0) h.1 dX8_noteDeed_15 ?_
    have h := h.2
    refine e_aload_n (pc := 16) hE rfl 0 rfl dX8_noteDeed_16 ?_
    refine g_Story_present (pc := 17) hE (st_kd f0) tw_246 dX8_noteDeed_17 ?_
    refine c_Fl_copyFrom (pc := 20) (d := d + 0) hE (t_Fl_copyFrom (d := d) hx15 (st_pres f0) h) hx15 tw_661 (Nat.le_of_ble_eq_true rfl) dX8_noteDeed_20 (fun M20 h => ?_)
    refine e_aload_n (pc := 23) hE rfl 0 rfl dX8_noteDeed_23 ?_
    refine e_dup (pc := 24) hE rfl dX8_noteDeed_24 ?_
    refine g_Story_deeds (pc := 25) hE (st_kd f0) tw_249 dX8_noteDeed_25 ?_
    refine e_iconst (pc := 28) (v := 1) hE ki_1 dX8_noteDeed_28 ?_
    refine e_iadd (pc := 29) hE dX8_noteDeed_29 ?_
    refine e_topi (fun x30 ex30 => ?_)
    have h := h x30 ex30
    refine p_Story_deeds (pc := 30) hE (st_kd f0) tw_249 dX8_noteDeed_30 ?_
    exact hR dX8_noteDeed_33 h
set_option maxHeartbeats 4000000 in
set_option maxRecDepth 20000 in
theorem t_Fl_stampArm {l : Launch} {G : Gs} {d : Nat} {a0 : Nat} {a1 : Nat} {a2 : Int32} {M : Mm} {Q : Mm → Prop} (f0 : kd a0 = 2) (f1 : isCh a1) (h : wp_Fl_stampArm a0 a1 a2 M Q) : CtV l G (d + 2) yX2_stampArm cX2_stampArm 4 (none) [rv G a0, rv G a1, .int a2] M Q := by
  refine CtV.mk (by decide) rfl (Nat.le_of_ble_eq_true rfl) (fun E hE hR => ?_)
  show E 0 [(0, rv G a0), (1, rv G a1), (2, .int a2)] [] M
  unfold wp_Fl_stampArm at h
  refine e_aload_n (pc := 0) hE rfl 0 rfl dX2_stampArm_0 ?_
  refine e_dup (pc := 1) hE rfl dX2_stampArm_1 ?_
  refine g_Flow_open (pc := 2) hE f0 tw_220 dX2_stampArm_2 ?_
  refine e_iconst (pc := 5) (v := 1) hE ki_1 dX2_stampArm_5 ?_
  refine e_iload_n (pc := 6) hE rfl 2 rfl dX2_stampArm_6 ?_
  refine e_ishl (pc := 7) hE dX2_stampArm_7 ?_
  refine e_ixor (pc := 8) hE dX2_stampArm_8 ?_
  refine e_topi (fun x9 ex9 => ?_)
  have h := h x9 ex9
  refine p_Flow_open (pc := 9) hE f0 tw_220 dX2_stampArm_9 ?_
  refine e_aload_n (pc := 12) hE rfl 0 rfl dX2_stampArm_12 ?_
  refine e_aload_n (pc := 13) hE rfl 1 rfl dX2_stampArm_13 ?_
  refine e_iload_n (pc := 14) hE rfl 2 rfl dX2_stampArm_14 ?_
  refine c_Fl_followerOf (pc := 15) (d := d + 1) hE (t_Fl_followerOf (d := d) f0 f1 h) f0 tw_669 (Nat.le_of_ble_eq_true rfl) dX2_stampArm_15 (fun r15 M15 h => ?_)
  refine e_istore_n (pc := 18) (lv' := [(3, .int r15), (0, rv G a0), (1, rv G a1), (2, .int a2)]) hE dX2_stampArm_18 rfl (by decide) rfl ?_
  refine e_iload_n (pc := 19) hE rfl 0 rfl dX2_stampArm_19 ?_
  refine e_bipush (pc := 20) (v := -9) hE kb_m9 dX2_stampArm_20 ?_
  refine e_icmp_eq (pc := 22) hE 45 dX2_stampArm_22 (by decide) (fun c0 => ?_) (fun c0 => ?_)
  · have h := h.1 c0
    exact hR dX2_stampArm_45 h
  · have h := h.2 c0
    refine e_aload_n (pc := 25) hE rfl 1 rfl dX2_stampArm_25 ?_
    refine e_aload_n (pc := 26) hE rfl 1 rfl dX2_stampArm_26 ?_
    refine g_Flow_open (pc := 27) hE f0 tw_220 dX2_stampArm_27 ?_
    refine e_iload_n (pc := 30) hE rfl 0 rfl dX2_stampArm_30 ?_
    refine e_aload_n (pc := 31) hE rfl 1 rfl dX2_stampArm_31 ?_
    refine g_Flow_open (pc := 32) hE f0 tw_220 dX2_stampArm_32 ?_
    refine e_iload_n (pc := 35) hE rfl 3 rfl dX2_stampArm_35 ?_
    refine cN_B_hasBit (pc := 36) (d := d + 1 + 0) hE (t_B_hasBit (d := d + 1)  h) tn_603 (Nat.le_of_ble_eq_true rfl) dX2_stampArm_36 (fun r36 M36 h => ?_)
    refine cN_B_withBit (pc := 39) (d := d + 1 + 0) hE (t_B_withBit (d := d + 1)  h) tn_670 (Nat.le_of_ble_eq_true rfl) dX2_stampArm_39 (fun r39 M39 h => ?_)
    refine p_Flow_open (pc := 42) hE f0 tw_220 dX2_stampArm_42 ?_
    exact hR dX2_stampArm_45 h
set_option maxHeartbeats 4000000 in
set_option maxRecDepth 20000 in
theorem w_Ch_servedOf_70 {l : Launch} {G : Gs} {d : Nat} {E : EE} {a0 : Nat} {a1 : Int32} {Q : Int32 → Mm → Prop} (hE : Mach l G RX0 cX0_servedOf 5 (d + 2) E) (hR : RtI cX0_servedOf E Q) (f0 : isCh a0)   {v2 : Int32} {M : Mm} (h : k_Ch_servedOf_70 a0 a1 Q v2 M)  : E 70 [(0, rv G a0), (2, .int v2)] [] M := by
  unfold k_Ch_servedOf_70 at h
  refine e_aload_n (pc := 70) hE rfl 0 rfl dX0_servedOf_70 ?_
  refine g_Chart_served (pc := 71) hE (ch_kd f0) tw_152 dX0_servedOf_71 ?_
  refine e_iload_n (pc := 74) hE rfl 1 rfl dX0_servedOf_74 ?_
  refine e_iald (pc := 75) hE (ch_served f0) h.1 dX0_servedOf_75 ?_
  have h := h.2
  exact hR dX0_servedOf_76 h
set_option maxHeartbeats 4000000 in
set_option maxRecDepth 20000 in
theorem w_Ch_servedOf_55 {l : Launch} {G : Gs} {d : Nat} {E : EE} {a0 : Nat} {a1 : Int32} {Q : Int32 → Mm → Prop} (hE : Mach l G RX0 cX0_servedOf 5 (d + 2) E) (hR : RtI cX0_servedOf E Q) (f0 : isCh a0)  {KB : Int32 → Int32 → Int32 → Mm → Prop} {K63 : Int32 → Int32 → Mm → Prop} {v2 : Int32} {v4 : Int32} {s0 : Int32} {s1 : Int32} {M : Mm} (h : k_Ch_servedOf_55 a0 a1 Q KB K63 v2 v4 s0 s1 M) (hKB : ∀ (v2 : Int32) (v3 : Int32) (v4 : Int32)  (M : Mm), KB v2 v3 v4 M → E 20 [(0, rv G a0), (2, .int v2), (3, .int v3), (4, .int v4)] [] M) (hK63 : ∀ (v2 : Int32) (v3 : Int32)  (M : Mm), K63 v2 v3 M → E 63 [(0, rv G a0), (2, .int v2), (3, .int v3)] [] M) : E 55 [(0, rv G a0), (2, .int v2), (4, .int v4)] [.int s0, .int s1] M := by
  unfold k_Ch_servedOf_55 at h
  refine e_ior (pc := 55) hE dX0_servedOf_55 ?_
  refine e_topi (fun x56 ex56 => ?_)
  have h := h x56 ex56
  refine e_istore_n (pc := 56) (lv' := [(3, .int x56), (0, rv G a0), (2, .int v2), (4, .int v4)]) hE dX0_servedOf_56 rfl (by decide) rfl ?_
  obtain ⟨x57, ex57⟩ : ∃ y : Int32, y = v4 + (1 : Int32) := ⟨_, rfl⟩
  have h := h x57 ex57
  refine e_iinc (pc := 57) (k := 3) (v := x57) (lv' := [(4, .int x57), (3, .int x56), (0, rv G a0), (2, .int v2)]) hE dX0_servedOf_57 rfl (by rw [ex57, ki_1]) (by decide) rfl ?_
  refine e_goto (pc := 60) hE 20 dX0_servedOf_60 (by decide) ?_
  refine e_sub hE [2, 3, 1, 0] rfl ?_
  exact hKB _ _ _ _ h
set_option maxHeartbeats 4000000 in
set_option maxRecDepth 20000 in
theorem w_Ch_servedOf_20 {l : Launch} {G : Gs} {d : Nat} {E : EE} {a0 : Nat} {a1 : Int32} {Q : Int32 → Mm → Prop} (hE : Mach l G RX0 cX0_servedOf 5 (d + 2) E) (hR : RtI cX0_servedOf E Q) (f0 : isCh a0)  {KB : Int32 → Int32 → Int32 → Mm → Prop} {K63 : Int32 → Int32 → Mm → Prop} {v2 : Int32} {v3 : Int32} {v4 : Int32} {M : Mm} (h : k_Ch_servedOf_20 a0 a1 Q KB K63 v2 v3 v4 M) (hKB : ∀ (v2 : Int32) (v3 : Int32) (v4 : Int32)  (M : Mm), KB v2 v3 v4 M → E 20 [(0, rv G a0), (2, .int v2), (3, .int v3), (4, .int v4)] [] M) (hK63 : ∀ (v2 : Int32) (v3 : Int32)  (M : Mm), K63 v2 v3 M → E 63 [(0, rv G a0), (2, .int v2), (3, .int v3)] [] M) : E 20 [(0, rv G a0), (2, .int v2), (3, .int v3), (4, .int v4)] [] M := by
  unfold k_Ch_servedOf_20 at h
  refine e_iload (pc := 20) hE 3 rfl dX0_servedOf_20 ?_
  refine e_aload_n (pc := 22) hE rfl 0 rfl dX0_servedOf_22 ?_
  refine g_Chart_arms (pc := 23) hE (ch_kd f0) tw_153 dX0_servedOf_23 ?_
  refine e_icmp_ge (pc := 26) hE 63 dX0_servedOf_26 (by decide) (fun c0 => ?_) (fun c0 => ?_)
  · have h := h.1 c0
    refine e_sub hE [0, 1, 2] rfl ?_
    exact hK63 _ _ _ h
  · have h := h.2 c0
    refine e_iload_n (pc := 29) hE rfl 2 rfl dX0_servedOf_29 ?_
    refine e_aload_n (pc := 30) hE rfl 0 rfl dX0_servedOf_30 ?_
    refine e_iload (pc := 31) hE 3 rfl dX0_servedOf_31 ?_
    refine e_iload_n (pc := 33) hE rfl 1 rfl dX0_servedOf_33 ?_
    refine c_Ch_waterOf (pc := 34) (d := d + 1) hE (t_Ch_waterOf (d := d) f0 h) (ch_kd f0) tw_691 (Nat.le_of_ble_eq_true rfl) dX0_servedOf_34 (fun r34 M34 h => ?_)
    refine e_aload_n (pc := 37) hE rfl 0 rfl dX0_servedOf_37 ?_
    refine g_Chart_need (pc := 38) hE (ch_kd f0) tw_138 dX0_servedOf_38 ?_
    refine e_iload (pc := 41) hE 3 rfl dX0_servedOf_41 ?_
    refine e_iald (pc := 43) hE (ch_need f0) h.1 dX0_servedOf_43 ?_
    have h := h.2
    refine e_icmp_lt (pc := 44) hE 54 dX0_servedOf_44 (by decide) (fun c0 => ?_) (fun c0 => ?_)
    · have h := h.1 c0
      refine e_iconst (pc := 54) (v := 0) hE ki_0 dX0_servedOf_54 ?_
      refine e_sub hE [0, 1, 3] rfl ?_
      exact w_Ch_servedOf_55 hE hR f0 h hKB hK63
    · have h := h.2 c0
      refine e_iconst (pc := 47) (v := 1) hE ki_1 dX0_servedOf_47 ?_
      refine e_iload (pc := 48) hE 3 rfl dX0_servedOf_48 ?_
      refine e_ishl (pc := 50) hE dX0_servedOf_50 ?_
      refine e_goto (pc := 51) hE 55 dX0_servedOf_51 (by decide) ?_
      refine e_sub hE [0, 1, 3] rfl ?_
      exact w_Ch_servedOf_55 hE hR f0 h hKB hK63
set_option maxHeartbeats 4000000 in
set_option maxRecDepth 20000 in
theorem w_lp_Ch_servedOf_20 {l : Launch} {G : Gs} {d : Nat} {E : EE} {a0 : Nat} {a1 : Int32} {Q : Int32 → Mm → Prop} (hE : Mach l G RX0 cX0_servedOf 5 (d + 2) E) (hR : RtI cX0_servedOf E Q) (f0 : isCh a0)  {K63 : Int32 → Int32 → Mm → Prop} {n : Nat} {v2 : Int32} {v3 : Int32} {v4 : Int32} {M : Mm} (h : lp_Ch_servedOf_20 a0 a1 Q K63 n v2 v3 v4 M) (hK63 : ∀ (v2 : Int32) (v3 : Int32)  (M : Mm), K63 v2 v3 M → E 63 [(0, rv G a0), (2, .int v2), (3, .int v3)] [] M) : E 20 [(0, rv G a0), (2, .int v2), (3, .int v3), (4, .int v4)] [] M := by
  have key : ∀ (n : Nat) (v2 : Int32) (v3 : Int32) (v4 : Int32) (M : Mm), lp_Ch_servedOf_20 a0 a1 Q K63 n v2 v3 v4 M → E 20 [(0, rv G a0), (2, .int v2), (3, .int v3), (4, .int v4)] [] M := by
    intro n
    induction n with
    | zero => intro v2 v3 v4 M h; exact h.elim
    | succ n ih => intro v2 v3 v4 M h; exact w_Ch_servedOf_20 hE hR f0 (show k_Ch_servedOf_20 a0 a1 Q (lp_Ch_servedOf_20 a0 a1 Q K63 n) K63 v2 v3 v4 M from h) ih hK63
  exact key n _ _ _ _ h
set_option maxHeartbeats 4000000 in
set_option maxRecDepth 20000 in
theorem t_Ch_servedOf {l : Launch} {G : Gs} {d : Nat} {a0 : Nat} {a1 : Int32} {M : Mm} {Q : Int32 → Mm → Prop} (f0 : isCh a0) (h : wp_Ch_servedOf a0 a1 M Q) : CtI l G (d + 2) yX0_servedOf cX0_servedOf 5 (some .int) [rv G a0, .int a1] M Q := by
  refine CtI.mk (by decide) rfl (Nat.le_of_ble_eq_true rfl) (fun E hE hR => ?_)
  show E 0 [(0, rv G a0), (1, .int a1)] [] M
  unfold wp_Ch_servedOf at h
  refine e_iload_n (pc := 0) hE rfl 1 rfl dX0_servedOf_0 ?_
  refine e_bipush (pc := 1) (v := 31) hE kb_31 dX0_servedOf_1 ?_
  refine e_iand (pc := 3) hE dX0_servedOf_3 ?_
  refine e_topi (fun x4 ex4 => ?_)
  have h := h x4 ex4
  refine e_istore_n (pc := 4) (lv' := [(2, .int x4), (0, rv G a0), (1, .int a1)]) hE dX0_servedOf_4 rfl (by decide) rfl ?_
  refine e_aload_n (pc := 5) hE rfl 1 rfl dX0_servedOf_5 ?_
  refine g_Chart_served (pc := 6) hE (ch_kd f0) tw_152 dX0_servedOf_6 ?_
  refine e_iload_n (pc := 9) hE rfl 0 rfl dX0_servedOf_9 ?_
  refine e_iald (pc := 10) hE (ch_served f0) h.1 dX0_servedOf_10 ?_
  have h := h.2
  refine e_iconst (pc := 11) (v := -1) hE ki_m1 dX0_servedOf_11 ?_
  refine e_icmp_ne (pc := 12) hE 70 dX0_servedOf_12 (by decide) (fun c0 => ?_) (fun c0 => ?_)
  · have h := h.1 c0
    refine e_sub hE [1, 0] rfl ?_
    exact w_Ch_servedOf_70 hE hR f0 h
  · have h := h.2 c0
    refine e_iconst (pc := 15) (v := 0) hE ki_0 dX0_servedOf_15 ?_
    refine e_istore_n (pc := 16) (lv' := [(3, .int (0 : Int32)), (2, .int x4), (0, rv G a0), (1, .int a1)]) hE dX0_servedOf_16 rfl (by decide) rfl ?_
    refine e_iconst (pc := 17) (v := 0) hE ki_0 dX0_servedOf_17 ?_
    refine e_istore (pc := 18) (lv' := [(4, .int (0 : Int32)), (3, .int (0 : Int32)), (2, .int x4), (0, rv G a0), (1, .int a1)]) hE dX0_servedOf_18 (by decide) rfl ?_
    obtain ⟨n, h⟩ := h
    refine e_sub hE [3, 2, 1, 0] rfl ?_
    refine w_lp_Ch_servedOf_20 hE hR f0 h (fun v2 v3 M h => ?_)
    refine e_aload_n (pc := 63) hE rfl 0 rfl dX0_servedOf_63 ?_
    refine g_Chart_served (pc := 64) hE (ch_kd f0) tw_152 dX0_servedOf_64 ?_
    refine e_iload_n (pc := 67) hE rfl 1 rfl dX0_servedOf_67 ?_
    refine e_iload_n (pc := 68) hE rfl 2 rfl dX0_servedOf_68 ?_
    refine e_iast (pc := 69) hE (ch_served f0) h.1 dX0_servedOf_69 ?_
    have h := h.2
    refine e_sub hE [0, 1] rfl ?_
    exact w_Ch_servedOf_70 hE hR f0 h
set_option maxHeartbeats 4000000 in
set_option maxRecDepth 20000 in
theorem w_Fl_harvestable_42 {l : Launch} {G : Gs} {d : Nat} {E : EE} {a0 : Nat} {a1 : Nat} {Q : Int32 → Mm → Prop} (hE : Mach l G RX2 cX2_harvestable 4 (d + 3) E) (hR : RtI cX2_harvestable E Q) (f0 : kd a0 = 2) (f1 : isCh a1)  {KB : Int32 → Int32 → Mm → Prop} {v2 : Int32} {v3 : Int32} {M : Mm} (h : k_Fl_harvestable_42 a0 a1 Q KB v2 v3 M) (hKB : ∀ (v2 : Int32) (v3 : Int32)  (M : Mm), KB v2 v3 M → E 18 [(0, rv G a0), (1, rv G a1), (2, .int v2), (3, .int v3)] [] M) : E 42 [(0, rv G a0), (1, rv G a1), (2, .int v2), (3, .int v3)] [] M := by
  unfold k_Fl_harvestable_42 at h
  obtain ⟨x42, ex42⟩ : ∃ y : Int32, y = v3 + (1 : Int32) := ⟨_, rfl⟩
  have h := h x42 ex42
  refine e_iinc (pc := 42) (k := 3) (v := x42) (lv' := [(3, .int x42), (0, rv G a0), (1, rv G a1), (2, .int v2)]) hE dX2_harvestable_42 rfl (by rw [ex42, ki_1]) (by decide) rfl ?_
  refine e_goto (pc := 45) hE 18 dX2_harvestable_45 (by decide) ?_
  refine e_sub hE [1, 2, 3, 0] rfl ?_
  exact hKB _ _ _ h
set_option maxHeartbeats 4000000 in
set_option maxRecDepth 20000 in
theorem w_Fl_harvestable_18 {l : Launch} {G : Gs} {d : Nat} {E : EE} {a0 : Nat} {a1 : Nat} {Q : Int32 → Mm → Prop} (hE : Mach l G RX2 cX2_harvestable 4 (d + 3) E) (hR : RtI cX2_harvestable E Q) (f0 : kd a0 = 2) (f1 : isCh a1)  {KB : Int32 → Int32 → Mm → Prop} {v2 : Int32} {v3 : Int32} {M : Mm} (h : k_Fl_harvestable_18 a0 a1 Q KB v2 v3 M) (hKB : ∀ (v2 : Int32) (v3 : Int32)  (M : Mm), KB v2 v3 M → E 18 [(0, rv G a0), (1, rv G a1), (2, .int v2), (3, .int v3)] [] M) : E 18 [(0, rv G a0), (1, rv G a1), (2, .int v2), (3, .int v3)] [] M := by
  unfold k_Fl_harvestable_18 at h
  refine e_iload_n (pc := 18) hE rfl 3 rfl dX2_harvestable_18 ?_
  refine e_aload_n (pc := 19) hE rfl 1 rfl dX2_harvestable_19 ?_
  refine g_Chart_arms (pc := 20) hE (ch_kd f1) tw_154 dX2_harvestable_20 ?_
  refine e_icmp_ge (pc := 23) hE 48 dX2_harvestable_23 (by decide) (fun c0 => ?_) (fun c0 => ?_)
  · have h := h.1 c0
    refine e_iload_n (pc := 48) hE rfl 2 rfl dX2_harvestable_48 ?_
    exact hR dX2_harvestable_49 h
  · have h := h.2 c0
    refine e_aload_n (pc := 26) hE rfl 0 rfl dX2_harvestable_26 ?_
    refine e_iload_n (pc := 27) hE rfl 3 rfl dX2_harvestable_27 ?_
    refine c_Fl_saltOf (pc := 28) (d := d + 2 + 0) hE (t_Fl_saltOf (d := d + 2) f0 h) f0 tw_692 (Nat.le_of_ble_eq_true rfl) dX2_harvestable_28 (fun r28 M28 h => ?_)
    refine e_iconst (pc := 31) (v := 4) hE ki_4 dX2_harvestable_31 ?_
    refine e_icmp_le (pc := 32) hE 42 dX2_harvestable_32 (by decide) (fun c0 => ?_) (fun c0 => ?_)
    · have h := h.1 c0
      exact w_Fl_harvestable_42 hE hR f0 f1 h hKB
    · have h := h.2 c0
      refine e_iload_n (pc := 35) hE rfl 2 rfl dX2_harvestable_35 ?_
      refine e_iload_n (pc := 36) hE rfl 3 rfl dX2_harvestable_36 ?_
      refine e_iconst (pc := 37) (v := 0) hE ki_0 dX2_harvestable_37 ?_
      refine cN_B_withBit (pc := 38) (d := d + 2 + 0) hE (t_B_withBit (d := d + 2)  h) tn_670 (Nat.le_of_ble_eq_true rfl) dX2_harvestable_38 (fun r38 M38 h => ?_)
      refine e_istore_n (pc := 41) (lv' := [(2, .int r38), (0, rv G a0), (1, rv G a1), (3, .int v3)]) hE dX2_harvestable_41 rfl (by decide) rfl ?_
      refine e_sub hE [1, 2, 0, 3] rfl ?_
      exact w_Fl_harvestable_42 hE hR f0 f1 h hKB
set_option maxHeartbeats 4000000 in
set_option maxRecDepth 20000 in
theorem w_lp_Fl_harvestable_18 {l : Launch} {G : Gs} {d : Nat} {E : EE} {a0 : Nat} {a1 : Nat} {Q : Int32 → Mm → Prop} (hE : Mach l G RX2 cX2_harvestable 4 (d + 3) E) (hR : RtI cX2_harvestable E Q) (f0 : kd a0 = 2) (f1 : isCh a1)   {n : Nat} {v2 : Int32} {v3 : Int32} {M : Mm} (h : lp_Fl_harvestable_18 a0 a1 Q n v2 v3 M)  : E 18 [(0, rv G a0), (1, rv G a1), (2, .int v2), (3, .int v3)] [] M := by
  have key : ∀ (n : Nat) (v2 : Int32) (v3 : Int32) (M : Mm), lp_Fl_harvestable_18 a0 a1 Q n v2 v3 M → E 18 [(0, rv G a0), (1, rv G a1), (2, .int v2), (3, .int v3)] [] M := by
    intro n
    induction n with
    | zero => intro v2 v3 M h; exact h.elim
    | succ n ih => intro v2 v3 M h; exact w_Fl_harvestable_18 hE hR f0 f1 (show k_Fl_harvestable_18 a0 a1 Q (lp_Fl_harvestable_18 a0 a1 Q n)  v2 v3 M from h) ih 
  exact key n _ _ _ h
set_option maxHeartbeats 4000000 in
set_option maxRecDepth 20000 in
theorem t_Fl_harvestable {l : Launch} {G : Gs} {d : Nat} {a0 : Nat} {a1 : Nat} {M : Mm} {Q : Int32 → Mm → Prop} (f0 : kd a0 = 2) (f1 : isCh a1) (h : wp_Fl_harvestable a0 a1 M Q) : CtI l G (d + 3) yX2_harvestable cX2_harvestable 4 (some .int) [rv G a0, rv G a1] M Q := by
  refine CtI.mk (by decide) rfl (Nat.le_of_ble_eq_true rfl) (fun E hE hR => ?_)
  show E 0 [(0, rv G a0), (1, rv G a1)] [] M
  unfold wp_Fl_harvestable at h
  refine e_aload_n (pc := 0) hE rfl 1 rfl dX2_harvestable_0 ?_
  refine e_aload_n (pc := 1) hE rfl 0 rfl dX2_harvestable_1 ?_
  refine g_Flow_open (pc := 2) hE f0 tw_220 dX2_harvestable_2 ?_
  refine c_Ch_servedOf (pc := 5) (d := d + 2) hE (t_Ch_servedOf (d := d) f1 h) (ch_kd f1) tw_687 (Nat.le_of_ble_eq_true rfl) dX2_harvestable_5 (fun r5 M5 h => ?_)
  refine e_aload_n (pc := 8) hE rfl 0 rfl dX2_harvestable_8 ?_
  refine g_Flow_dead (pc := 9) hE f0 tw_224 dX2_harvestable_9 ?_
  refine e_iconst (pc := 12) (v := -1) hE ki_m1 dX2_harvestable_12 ?_
  refine e_ixor (pc := 13) hE dX2_harvestable_13 ?_
  refine e_iand (pc := 14) hE dX2_harvestable_14 ?_
  refine e_topi (fun x15 ex15 => ?_)
  have h := h x15 ex15
  refine e_istore_n (pc := 15) (lv' := [(2, .int x15), (0, rv G a0), (1, rv G a1)]) hE dX2_harvestable_15 rfl (by decide) rfl ?_
  refine e_iconst (pc := 16) (v := 0) hE ki_0 dX2_harvestable_16 ?_
  refine e_istore_n (pc := 17) (lv' := [(3, .int (0 : Int32)), (2, .int x15), (0, rv G a0), (1, rv G a1)]) hE dX2_harvestable_17 rfl (by decide) rfl ?_
  obtain ⟨n, h⟩ := h
  refine e_sub hE [2, 3, 1, 0] rfl ?_
  refine w_lp_Fl_harvestable_18 hE hR f0 f1 h 
set_option maxHeartbeats 4000000 in
set_option maxRecDepth 20000 in
theorem w_Fl_turnSalt_49 {l : Launch} {G : Gs} {d : Nat} {E : EE} {a0 : Nat} {a1 : Nat} {a2 : Int32} {a3 : Int32} {Q : Mm → Prop} (hE : Mach l G RX2 cX2_turnSalt 5 (d + 1) E) (hR : RtV cX2_turnSalt E Q) (f0 : kd a0 = 2) (f1 : isCh a1)   {v4 : Int32} {M : Mm} (h : k_Fl_turnSalt_49 a0 a1 a2 a3 Q v4 M)  : E 49 [(0, rv G a0), (2, .int a2), (4, .int v4)] [] M := by
  unfold k_Fl_turnSalt_49 at h
  refine e_aload_n (pc := 49) hE rfl 0 rfl dX2_turnSalt_49 ?_
  refine e_aload_n (pc := 50) hE rfl 0 rfl dX2_turnSalt_50 ?_
  refine g_Flow_salts (pc := 51) hE f0 tw_227 dX2_turnSalt_51 ?_
  refine e_bipush (pc := 54) (v := 15) hE kb_15 dX2_turnSalt_54 ?_
  refine e_iconst (pc := 56) (v := 4) hE ki_4 dX2_turnSalt_56 ?_
  refine e_iload_n (pc := 57) hE rfl 1 rfl dX2_turnSalt_57 ?_
  refine e_imul (pc := 58) hE dX2_turnSalt_58 ?_
  refine e_ishl (pc := 59) hE dX2_turnSalt_59 ?_
  refine e_iconst (pc := 60) (v := -1) hE ki_m1 dX2_turnSalt_60 ?_
  refine e_ixor (pc := 61) hE dX2_turnSalt_61 ?_
  refine e_iand (pc := 62) hE dX2_turnSalt_62 ?_
  refine e_iload (pc := 63) hE 2 rfl dX2_turnSalt_63 ?_
  refine e_iconst (pc := 65) (v := 4) hE ki_4 dX2_turnSalt_65 ?_
  refine e_iload_n (pc := 66) hE rfl 1 rfl dX2_turnSalt_66 ?_
  refine e_imul (pc := 67) hE dX2_turnSalt_67 ?_
  refine e_ishl (pc := 68) hE dX2_turnSalt_68 ?_
  refine e_ior (pc := 69) hE dX2_turnSalt_69 ?_
  refine e_topi (fun x70 ex70 => ?_)
  have h := h x70 ex70
  refine p_Flow_salts (pc := 70) hE f0 tw_227 dX2_turnSalt_70 ?_
  exact hR dX2_turnSalt_73 h
set_option maxHeartbeats 4000000 in
set_option maxRecDepth 20000 in
theorem w_Fl_turnSalt_43 {l : Launch} {G : Gs} {d : Nat} {E : EE} {a0 : Nat} {a1 : Nat} {a2 : Int32} {a3 : Int32} {Q : Mm → Prop} (hE : Mach l G RX2 cX2_turnSalt 5 (d + 1) E) (hR : RtV cX2_turnSalt E Q) (f0 : kd a0 = 2) (f1 : isCh a1)   {s0 : Int32} {s1 : Int32} {s2 : Int32} {M : Mm} (h : k_Fl_turnSalt_43 a0 a1 a2 a3 Q s0 s1 s2 M)  : E 43 [(0, rv G a0), (2, .int a2)] [.int s0, .int s1, .int s2] M := by
  unfold k_Fl_turnSalt_43 at h
  refine e_iadd (pc := 43) hE dX2_turnSalt_43 ?_
  refine e_mmin (pc := 44) hE (by omega) tw_698 tw_minS tw_MathI tw_minC (Nat.le_of_ble_eq_true rfl) dX2_turnSalt_44 ?_
  refine e_topi (fun x47 ex47 => ?_)
  have h := h x47 ex47
  refine e_istore (pc := 47) (lv' := [(4, .int x47), (0, rv G a0), (2, .int a2)]) hE dX2_turnSalt_47 (by decide) rfl ?_
  refine e_sub hE [1, 2, 0] rfl ?_
  exact w_Fl_turnSalt_49 hE hR f0 f1 h
set_option maxHeartbeats 4000000 in
set_option maxRecDepth 20000 in
theorem t_Fl_turnSalt {l : Launch} {G : Gs} {d : Nat} {a0 : Nat} {a1 : Nat} {a2 : Int32} {a3 : Int32} {M : Mm} {Q : Mm → Prop} (f0 : kd a0 = 2) (f1 : isCh a1) (h : wp_Fl_turnSalt a0 a1 a2 a3 M Q) : CtV l G (d + 1) yX2_turnSalt cX2_turnSalt 5 (none) [rv G a0, rv G a1, .int a2, .int a3] M Q := by
  refine CtV.mk (by decide) rfl (Nat.le_of_ble_eq_true rfl) (fun E hE hR => ?_)
  show E 0 [(0, rv G a0), (1, rv G a1), (2, .int a2), (3, .int a3)] [] M
  unfold wp_Fl_turnSalt at h
  refine e_aload_n (pc := 0) hE rfl 0 rfl dX2_turnSalt_0 ?_
  refine e_iload_n (pc := 1) hE rfl 2 rfl dX2_turnSalt_1 ?_
  refine c_Fl_saltOf (pc := 2) (d := d + 0) hE (t_Fl_saltOf (d := d) f0 h) f0 tw_692 (Nat.le_of_ble_eq_true rfl) dX2_turnSalt_2 (fun r2 M2 h => ?_)
  refine e_istore (pc := 5) (lv' := [(4, .int r2), (0, rv G a0), (1, rv G a1), (2, .int a2), (3, .int a3)]) hE dX2_turnSalt_5 (by decide) rfl ?_
  refine e_iload_n (pc := 7) hE rfl 4 rfl dX2_turnSalt_7 ?_
  refine e_if_eq (pc := 8) hE 24 dX2_turnSalt_8 (by decide) (fun c0 => ?_) (fun c0 => ?_)
  · have h := h.1 c0
    refine e_bipush (pc := 24) (v := 9) hE kb_9 dX2_turnSalt_24 ?_
    refine e_iload (pc := 26) hE 0 rfl dX2_turnSalt_26 ?_
    refine e_aload_n (pc := 28) hE rfl 2 rfl dX2_turnSalt_28 ?_
    refine g_Chart_kind (pc := 29) hE (ch_kd f1) tw_133 dX2_turnSalt_29 ?_
    refine e_iload_n (pc := 32) hE rfl 3 rfl dX2_turnSalt_32 ?_
    refine e_iald (pc := 33) hE (ch_kind f1) h.1 dX2_turnSalt_33 ?_
    have h := h.2
    refine e_iconst (pc := 34) (v := 1) hE ki_1 dX2_turnSalt_34 ?_
    refine e_icmp_ne (pc := 35) hE 42 dX2_turnSalt_35 (by decide) (fun c0 => ?_) (fun c0 => ?_)
    · have h := h.1 c0
      refine e_iconst (pc := 42) (v := 1) hE ki_1 dX2_turnSalt_42 ?_
      refine e_sub hE [1, 3] rfl ?_
      exact w_Fl_turnSalt_43 hE hR f0 f1 h
    · have h := h.2 c0
      refine e_iconst (pc := 38) (v := 2) hE ki_2 dX2_turnSalt_38 ?_
      refine e_goto (pc := 39) hE 43 dX2_turnSalt_39 (by decide) ?_
      refine e_sub hE [1, 3] rfl ?_
      exact w_Fl_turnSalt_43 hE hR f0 f1 h
  · have h := h.2 c0
    refine e_iconst (pc := 11) (v := 0) hE ki_0 dX2_turnSalt_11 ?_
    refine e_iload (pc := 12) hE 0 rfl dX2_turnSalt_12 ?_
    refine e_iconst (pc := 14) (v := 1) hE ki_1 dX2_turnSalt_14 ?_
    refine e_isub (pc := 15) hE dX2_turnSalt_15 ?_
    refine e_mmax (pc := 16) hE (by omega) tw_697 tw_maxS tw_MathI tw_maxC (Nat.le_of_ble_eq_true rfl) dX2_turnSalt_16 ?_
    refine e_topi (fun x19 ex19 => ?_)
    have h := h x19 ex19
    refine e_istore (pc := 19) (lv' := [(4, .int x19), (0, rv G a0), (1, rv G a1), (2, .int a2), (3, .int a3)]) hE dX2_turnSalt_19 (by decide) rfl ?_
    refine e_goto (pc := 21) hE 49 dX2_turnSalt_21 (by decide) ?_
    refine e_sub hE [1, 3, 0] rfl ?_
    exact w_Fl_turnSalt_49 hE hR f0 f1 h
set_option maxHeartbeats 4000000 in
set_option maxRecDepth 20000 in
theorem t_Fl_dropBarge {l : Launch} {G : Gs} {d : Nat} {a0 : Nat} {a1 : Int32} {M : Mm} {Q : Mm → Prop} (f0 : kd a0 = 2) (h : wp_Fl_dropBarge a0 a1 M Q) : CtV l G (d + 1) yX2_dropBarge cX2_dropBarge 2 (none) [rv G a0, .int a1] M Q := by
  refine CtV.mk (by decide) rfl (Nat.le_of_ble_eq_true rfl) (fun E hE hR => ?_)
  show E 0 [(0, rv G a0), (1, .int a1)] [] M
  unfold wp_Fl_dropBarge at h
  refine e_aload_n (pc := 0) hE rfl 0 rfl dX2_dropBarge_0 ?_
  refine e_aload_n (pc := 1) hE rfl 0 rfl dX2_dropBarge_1 ?_
  refine g_Flow_barges (pc := 2) hE f0 tw_222 dX2_dropBarge_2 ?_
  refine e_iload_n (pc := 5) hE rfl 1 rfl dX2_dropBarge_5 ?_
  refine e_iconst (pc := 6) (v := 0) hE ki_0 dX2_dropBarge_6 ?_
  refine cN_B_withBit (pc := 7) (d := d + 0) hE (t_B_withBit (d := d)  h) tn_670 (Nat.le_of_ble_eq_true rfl) dX2_dropBarge_7 (fun r7 M7 h => ?_)
  refine p_Flow_barges (pc := 10) hE f0 tw_222 dX2_dropBarge_10 ?_
  refine e_aload_n (pc := 13) hE rfl 0 rfl dX2_dropBarge_13 ?_
  refine e_aload_n (pc := 14) hE rfl 0 rfl dX2_dropBarge_14 ?_
  refine g_Flow_open (pc := 15) hE f0 tw_220 dX2_dropBarge_15 ?_
  refine e_iload_n (pc := 18) hE rfl 1 rfl dX2_dropBarge_18 ?_
  refine e_iconst (pc := 19) (v := 0) hE ki_0 dX2_dropBarge_19 ?_
  refine cN_B_withBit (pc := 20) (d := d + 0) hE (t_B_withBit (d := d)  h) tn_670 (Nat.le_of_ble_eq_true rfl) dX2_dropBarge_20 (fun r20 M20 h => ?_)
  refine p_Flow_open (pc := 23) hE f0 tw_220 dX2_dropBarge_23 ?_
  exact hR dX2_dropBarge_26 h
set_option maxHeartbeats 4000000 in
set_option maxRecDepth 20000 in
theorem w_Fl_turnSilt_50 {l : Launch} {G : Gs} {d : Nat} {E : EE} {a0 : Nat} {a1 : Nat} {a2 : Int32} {Q : Mm → Prop} (hE : Mach l G RX2 cX2_turnSilt 4 (d + 2) E) (hR : RtV cX2_turnSilt E Q) (f0 : kd a0 = 2) (f1 : isCh a1)   {v3 : Int32} {M : Mm} (h : k_Fl_turnSilt_50 a0 a1 a2 Q v3 M)  : E 50 [(0, rv G a0), (2, .int a2), (3, .int v3)] [] M := by
  unfold k_Fl_turnSilt_50 at h
  refine e_aload_n (pc := 50) hE rfl 0 rfl dX2_turnSilt_50 ?_
  refine e_aload_n (pc := 51) hE rfl 0 rfl dX2_turnSilt_51 ?_
  refine g_Flow_silts (pc := 52) hE f0 tw_228 dX2_turnSilt_52 ?_
  refine e_bipush (pc := 55) (v := 15) hE kb_15 dX2_turnSilt_55 ?_
  refine e_iconst (pc := 57) (v := 4) hE ki_4 dX2_turnSilt_57 ?_
  refine e_iload_n (pc := 58) hE rfl 1 rfl dX2_turnSilt_58 ?_
  refine e_imul (pc := 59) hE dX2_turnSilt_59 ?_
  refine e_ishl (pc := 60) hE dX2_turnSilt_60 ?_
  refine e_iconst (pc := 61) (v := -1) hE ki_m1 dX2_turnSilt_61 ?_
  refine e_ixor (pc := 62) hE dX2_turnSilt_62 ?_
  refine e_iand (pc := 63) hE dX2_turnSilt_63 ?_
  refine e_iload_n (pc := 64) hE rfl 2 rfl dX2_turnSilt_64 ?_
  refine e_iconst (pc := 65) (v := 4) hE ki_4 dX2_turnSilt_65 ?_
  refine e_iload_n (pc := 66) hE rfl 1 rfl dX2_turnSilt_66 ?_
  refine e_imul (pc := 67) hE dX2_turnSilt_67 ?_
  refine e_ishl (pc := 68) hE dX2_turnSilt_68 ?_
  refine e_ior (pc := 69) hE dX2_turnSilt_69 ?_
  refine e_topi (fun x70 ex70 => ?_)
  have h := h x70 ex70
  refine p_Flow_silts (pc := 70) hE f0 tw_228 dX2_turnSilt_70 ?_
  refine e_iload_n (pc := 73) hE rfl 2 rfl dX2_turnSilt_73 ?_
  refine e_bipush (pc := 74) (v := 9) hE kb_9 dX2_turnSilt_74 ?_
  refine e_icmp_lt (pc := 76) hE 96 dX2_turnSilt_76 (by decide) (fun c0 => ?_) (fun c0 => ?_)
  · have h := h.1 c0
    exact hR dX2_turnSilt_96 h
  · have h := h.2 c0
    refine e_aload_n (pc := 79) hE rfl 0 rfl dX2_turnSilt_79 ?_
    refine e_dup (pc := 80) hE rfl dX2_turnSilt_80 ?_
    refine g_Flow_dead (pc := 81) hE f0 tw_224 dX2_turnSilt_81 ?_
    refine e_iconst (pc := 84) (v := 1) hE ki_1 dX2_turnSilt_84 ?_
    refine e_iload_n (pc := 85) hE rfl 1 rfl dX2_turnSilt_85 ?_
    refine e_ishl (pc := 86) hE dX2_turnSilt_86 ?_
    refine e_ior (pc := 87) hE dX2_turnSilt_87 ?_
    refine e_topi (fun x88 ex88 => ?_)
    have h := h x88 ex88
    refine p_Flow_dead (pc := 88) hE f0 tw_224 dX2_turnSilt_88 ?_
    refine e_aload_n (pc := 91) hE rfl 0 rfl dX2_turnSilt_91 ?_
    refine e_iload_n (pc := 92) hE rfl 1 rfl dX2_turnSilt_92 ?_
    refine c_Fl_dropBarge (pc := 93) (d := d + 1) hE (t_Fl_dropBarge (d := d) f0 h) f0 tw_704 (Nat.le_of_ble_eq_true rfl) dX2_turnSilt_93 (fun M93 h => ?_)
    exact hR dX2_turnSilt_96 h
set_option maxHeartbeats 4000000 in
set_option maxRecDepth 20000 in
theorem w_Fl_turnSilt_45 {l : Launch} {G : Gs} {d : Nat} {E : EE} {a0 : Nat} {a1 : Nat} {a2 : Int32} {Q : Mm → Prop} (hE : Mach l G RX2 cX2_turnSilt 4 (d + 2) E) (hR : RtV cX2_turnSilt E Q) (f0 : kd a0 = 2) (f1 : isCh a1)   {s0 : Int32} {s1 : Int32} {s2 : Int32} {M : Mm} (h : k_Fl_turnSilt_45 a0 a1 a2 Q s0 s1 s2 M)  : E 45 [(0, rv G a0), (2, .int a2)] [.int s0, .int s1, .int s2] M := by
  unfold k_Fl_turnSilt_45 at h
  refine e_iadd (pc := 45) hE dX2_turnSilt_45 ?_
  refine e_mmin (pc := 46) hE (by omega) tw_698 tw_minS tw_MathI tw_minC (Nat.le_of_ble_eq_true rfl) dX2_turnSilt_46 ?_
  refine e_topi (fun x49 ex49 => ?_)
  have h := h x49 ex49
  refine e_istore_n (pc := 49) (lv' := [(3, .int x49), (0, rv G a0), (2, .int a2)]) hE dX2_turnSilt_49 rfl (by decide) rfl ?_
  refine e_sub hE [1, 2, 0] rfl ?_
  exact w_Fl_turnSilt_50 hE hR f0 f1 h
set_option maxHeartbeats 4000000 in
set_option maxRecDepth 20000 in
theorem t_Fl_turnSilt {l : Launch} {G : Gs} {d : Nat} {a0 : Nat} {a1 : Nat} {a2 : Int32} {M : Mm} {Q : Mm → Prop} (f0 : kd a0 = 2) (f1 : isCh a1) (h : wp_Fl_turnSilt a0 a1 a2 M Q) : CtV l G (d + 2) yX2_turnSilt cX2_turnSilt 4 (none) [rv G a0, rv G a1, .int a2] M Q := by
  refine CtV.mk (by decide) rfl (Nat.le_of_ble_eq_true rfl) (fun E hE hR => ?_)
  show E 0 [(0, rv G a0), (1, rv G a1), (2, .int a2)] [] M
  unfold wp_Fl_turnSilt at h
  refine e_aload_n (pc := 0) hE rfl 0 rfl dX2_turnSilt_0 ?_
  refine e_iload_n (pc := 1) hE rfl 2 rfl dX2_turnSilt_1 ?_
  refine c_Fl_siltOf (pc := 2) (d := d + 1 + 0) hE (t_Fl_siltOf (d := d + 1) f0 h) f0 tw_703 (Nat.le_of_ble_eq_true rfl) dX2_turnSilt_2 (fun r2 M2 h => ?_)
  refine e_istore_n (pc := 5) (lv' := [(3, .int r2), (0, rv G a0), (1, rv G a1), (2, .int a2)]) hE dX2_turnSilt_5 rfl (by decide) rfl ?_
  refine e_aload_n (pc := 6) hE rfl 1 rfl dX2_turnSilt_6 ?_
  refine g_Flow_open (pc := 7) hE f0 tw_220 dX2_turnSilt_7 ?_
  refine e_iload_n (pc := 10) hE rfl 3 rfl dX2_turnSilt_10 ?_
  refine cN_B_hasBit (pc := 11) (d := d + 1 + 0) hE (t_B_hasBit (d := d + 1)  h) tn_603 (Nat.le_of_ble_eq_true rfl) dX2_turnSilt_11 (fun r11 M11 h => ?_)
  refine e_if_eq (pc := 14) hE 28 dX2_turnSilt_14 (by decide) (fun c0 => ?_) (fun c0 => ?_)
  · have h := h.1 c0
    refine e_bipush (pc := 28) (v := 9) hE kb_9 dX2_turnSilt_28 ?_
    refine e_iload_n (pc := 30) hE rfl 0 rfl dX2_turnSilt_30 ?_
    refine e_aload_n (pc := 31) hE rfl 2 rfl dX2_turnSilt_31 ?_
    refine e_iload_n (pc := 32) hE rfl 3 rfl dX2_turnSilt_32 ?_
    refine e_iconst (pc := 33) (v := 2) hE ki_2 dX2_turnSilt_33 ?_
    refine c_Ch_isOf (pc := 34) (d := d + 1 + 0) hE (t_Ch_isOf (d := d + 1) f1 h) (ch_kd f1) tw_568 (Nat.le_of_ble_eq_true rfl) dX2_turnSilt_34 (fun r34 M34 h => ?_)
    refine e_if_eq (pc := 37) hE 44 dX2_turnSilt_37 (by decide) (fun c0 => ?_) (fun c0 => ?_)
    · have h := h.1 c0
      refine e_iconst (pc := 44) (v := 1) hE ki_1 dX2_turnSilt_44 ?_
      refine e_sub hE [1, 3] rfl ?_
      exact w_Fl_turnSilt_45 hE hR f0 f1 h
    · have h := h.2 c0
      refine e_iconst (pc := 40) (v := 2) hE ki_2 dX2_turnSilt_40 ?_
      refine e_goto (pc := 41) hE 45 dX2_turnSilt_41 (by decide) ?_
      refine e_sub hE [1, 3] rfl ?_
      exact w_Fl_turnSilt_45 hE hR f0 f1 h
  · have h := h.2 c0
    refine e_iconst (pc := 17) (v := 0) hE ki_0 dX2_turnSilt_17 ?_
    refine e_iload_n (pc := 18) hE rfl 0 rfl dX2_turnSilt_18 ?_
    refine e_iconst (pc := 19) (v := 1) hE ki_1 dX2_turnSilt_19 ?_
    refine e_isub (pc := 20) hE dX2_turnSilt_20 ?_
    refine e_mmax (pc := 21) hE (by omega) tw_697 tw_maxS tw_MathI tw_maxC (Nat.le_of_ble_eq_true rfl) dX2_turnSilt_21 ?_
    refine e_topi (fun x24 ex24 => ?_)
    have h := h x24 ex24
    refine e_istore_n (pc := 24) (lv' := [(3, .int x24), (0, rv G a0), (1, rv G a1), (2, .int a2)]) hE dX2_turnSilt_24 rfl (by decide) rfl ?_
    refine e_goto (pc := 25) hE 50 dX2_turnSilt_25 (by decide) ?_
    refine e_sub hE [1, 3, 0] rfl ?_
    exact w_Fl_turnSilt_50 hE hR f0 f1 h
set_option maxHeartbeats 4000000 in
set_option maxRecDepth 20000 in
theorem w_Fl_goBy_18 {l : Launch} {G : Gs} {d : Nat} {E : EE} {a0 : Nat} {a1 : Nat} {Q : Int32 → Mm → Prop} (hE : Mach l G RX2 cX2_goBy 5 (d + 4) E) (hR : RtI cX2_goBy E Q) (f0 : kd a0 = 2) (f1 : isCh a1)  {KB : Int32 → Int32 → Int32 → Mm → Prop} {K75 : Int32 → Mm → Prop} {v2 : Int32} {v3 : Int32} {v4 : Int32} {M : Mm} (h : k_Fl_goBy_18 a0 a1 Q KB K75 v2 v3 v4 M) (hKB : ∀ (v2 : Int32) (v3 : Int32) (v4 : Int32)  (M : Mm), KB v2 v3 v4 M → E 18 [(0, rv G a0), (1, rv G a1), (2, .int v2), (3, .int v3), (4, .int v4)] [] M) (hK75 : ∀ (v2 : Int32)  (M : Mm), K75 v2 M → E 75 [(0, rv G a0), (2, .int v2)] [] M) : E 18 [(0, rv G a0), (1, rv G a1), (2, .int v2), (3, .int v3), (4, .int v4)] [] M := by
  unfold k_Fl_goBy_18 at h
  refine e_iload (pc := 18) hE 4 rfl dX2_goBy_18 ?_
  refine e_aload_n (pc := 20) hE rfl 1 rfl dX2_goBy_20 ?_
  refine g_Chart_arms (pc := 21) hE (ch_kd f1) tw_154 dX2_goBy_21 ?_
  refine e_icmp_ge (pc := 24) hE 75 dX2_goBy_24 (by decide) (fun c0 => ?_) (fun c0 => ?_)
  · have h := h.1 c0
    refine e_sub hE [0, 2] rfl ?_
    exact hK75 _ _ h
  · have h := h.2 c0
    refine e_aload_n (pc := 27) hE rfl 0 rfl dX2_goBy_27 ?_
    refine e_dup (pc := 28) hE rfl dX2_goBy_28 ?_
    refine g_Flow_harvests (pc := 29) hE f0 tw_229 dX2_goBy_29 ?_
    refine e_iload_n (pc := 32) hE rfl 2 rfl dX2_goBy_32 ?_
    refine e_iload (pc := 33) hE 4 rfl dX2_goBy_33 ?_
    refine e_ishr (pc := 35) hE dX2_goBy_35 ?_
    refine e_iconst (pc := 36) (v := 1) hE ki_1 dX2_goBy_36 ?_
    refine e_iand (pc := 37) hE dX2_goBy_37 ?_
    refine e_i2l (pc := 38) hE dX2_goBy_38 ?_
    refine e_bipush (pc := 39) (v := 8) hE kb_8 dX2_goBy_39 ?_
    refine e_iload (pc := 41) hE 4 rfl dX2_goBy_41 ?_
    refine e_imul (pc := 43) hE dX2_goBy_43 ?_
    refine e_lshl (pc := 44) hE dX2_goBy_44 ?_
    refine e_ladd (pc := 45) hE dX2_goBy_45 ?_
    refine e_topl (fun x46 ex46 => ?_)
    have h := h x46 ex46
    refine p_Flow_harvests (pc := 46) hE f0 tw_229 dX2_goBy_46 ?_
    refine e_aload_n (pc := 49) hE rfl 0 rfl dX2_goBy_49 ?_
    refine e_aload_n (pc := 50) hE rfl 1 rfl dX2_goBy_50 ?_
    refine e_iload (pc := 51) hE 4 rfl dX2_goBy_51 ?_
    refine e_iload_n (pc := 53) hE rfl 3 rfl dX2_goBy_53 ?_
    refine e_iload (pc := 54) hE 4 rfl dX2_goBy_54 ?_
    refine cN_B_hasBit (pc := 56) (d := d + 3 + 0) hE (t_B_hasBit (d := d + 3)  h) tn_603 (Nat.le_of_ble_eq_true rfl) dX2_goBy_56 (fun r56 M56 h => ?_)
    refine c_Fl_turnSalt (pc := 59) (d := d + 2 + 1) hE (t_Fl_turnSalt (d := d + 2) f0 f1 h) f0 tw_693 (Nat.le_of_ble_eq_true rfl) dX2_goBy_59 (fun M59 h => ?_)
    refine e_aload_n (pc := 62) hE rfl 0 rfl dX2_goBy_62 ?_
    refine e_aload_n (pc := 63) hE rfl 1 rfl dX2_goBy_63 ?_
    refine e_iload (pc := 64) hE 4 rfl dX2_goBy_64 ?_
    refine c_Fl_turnSilt (pc := 66) (d := d + 1 + 2) hE (t_Fl_turnSilt (d := d + 1) f0 f1 h) f0 tw_699 (Nat.le_of_ble_eq_true rfl) dX2_goBy_66 (fun M66 h => ?_)
    obtain ⟨x69, ex69⟩ : ∃ y : Int32, y = v4 + (1 : Int32) := ⟨_, rfl⟩
    have h := h x69 ex69
    refine e_iinc (pc := 69) (k := 4) (v := x69) (lv' := [(4, .int x69), (0, rv G a0), (1, rv G a1), (2, .int v2), (3, .int v3)]) hE dX2_goBy_69 rfl (by rw [ex69, ki_1]) (by decide) rfl ?_
    refine e_goto (pc := 72) hE 18 dX2_goBy_72 (by decide) ?_
    refine e_sub hE [1, 2, 3, 4, 0] rfl ?_
    exact hKB _ _ _ _ h
set_option maxHeartbeats 4000000 in
set_option maxRecDepth 20000 in
theorem w_lp_Fl_goBy_18 {l : Launch} {G : Gs} {d : Nat} {E : EE} {a0 : Nat} {a1 : Nat} {Q : Int32 → Mm → Prop} (hE : Mach l G RX2 cX2_goBy 5 (d + 4) E) (hR : RtI cX2_goBy E Q) (f0 : kd a0 = 2) (f1 : isCh a1)  {K75 : Int32 → Mm → Prop} {n : Nat} {v2 : Int32} {v3 : Int32} {v4 : Int32} {M : Mm} (h : lp_Fl_goBy_18 a0 a1 Q K75 n v2 v3 v4 M) (hK75 : ∀ (v2 : Int32)  (M : Mm), K75 v2 M → E 75 [(0, rv G a0), (2, .int v2)] [] M) : E 18 [(0, rv G a0), (1, rv G a1), (2, .int v2), (3, .int v3), (4, .int v4)] [] M := by
  have key : ∀ (n : Nat) (v2 : Int32) (v3 : Int32) (v4 : Int32) (M : Mm), lp_Fl_goBy_18 a0 a1 Q K75 n v2 v3 v4 M → E 18 [(0, rv G a0), (1, rv G a1), (2, .int v2), (3, .int v3), (4, .int v4)] [] M := by
    intro n
    induction n with
    | zero => intro v2 v3 v4 M h; exact h.elim
    | succ n ih => intro v2 v3 v4 M h; exact w_Fl_goBy_18 hE hR f0 f1 (show k_Fl_goBy_18 a0 a1 Q (lp_Fl_goBy_18 a0 a1 Q K75 n) K75 v2 v3 v4 M from h) ih hK75
  exact key n _ _ _ _ h
set_option maxHeartbeats 4000000 in
set_option maxRecDepth 20000 in
theorem t_Fl_goBy {l : Launch} {G : Gs} {d : Nat} {a0 : Nat} {a1 : Nat} {M : Mm} {Q : Int32 → Mm → Prop} (f0 : kd a0 = 2) (f1 : isCh a1) (h : wp_Fl_goBy a0 a1 M Q) : CtI l G (d + 4) yX2_goBy cX2_goBy 5 (some .int) [rv G a0, rv G a1] M Q := by
  refine CtI.mk (by decide) rfl (Nat.le_of_ble_eq_true rfl) (fun E hE hR => ?_)
  show E 0 [(0, rv G a0), (1, rv G a1)] [] M
  unfold wp_Fl_goBy at h
  refine e_aload_n (pc := 0) hE rfl 0 rfl dX2_goBy_0 ?_
  refine e_aload_n (pc := 1) hE rfl 1 rfl dX2_goBy_1 ?_
  refine c_Fl_harvestable (pc := 2) (d := d + 3) hE (t_Fl_harvestable (d := d) f0 f1 h) f0 tw_683 (Nat.le_of_ble_eq_true rfl) dX2_goBy_2 (fun r2 M2 h => ?_)
  refine e_istore_n (pc := 5) (lv' := [(2, .int r2), (0, rv G a0), (1, rv G a1)]) hE dX2_goBy_5 rfl (by decide) rfl ?_
  refine e_aload_n (pc := 6) hE rfl 2 rfl dX2_goBy_6 ?_
  refine e_aload_n (pc := 7) hE rfl 1 rfl dX2_goBy_7 ?_
  refine g_Flow_open (pc := 8) hE f0 tw_220 dX2_goBy_8 ?_
  refine c_Ch_servedOf (pc := 11) (d := d + 1 + 2) hE (t_Ch_servedOf (d := d + 1) f1 h) (ch_kd f1) tw_687 (Nat.le_of_ble_eq_true rfl) dX2_goBy_11 (fun r11 M11 h => ?_)
  refine e_istore_n (pc := 14) (lv' := [(3, .int r11), (2, .int r2), (0, rv G a0), (1, rv G a1)]) hE dX2_goBy_14 rfl (by decide) rfl ?_
  refine e_iconst (pc := 15) (v := 0) hE ki_0 dX2_goBy_15 ?_
  refine e_istore (pc := 16) (lv' := [(4, .int (0 : Int32)), (3, .int r11), (2, .int r2), (0, rv G a0), (1, rv G a1)]) hE dX2_goBy_16 (by decide) rfl ?_
  obtain ⟨n, h⟩ := h
  refine e_sub hE [3, 4, 2, 1, 0] rfl ?_
  refine w_lp_Fl_goBy_18 hE hR f0 f1 h (fun v2 M h => ?_)
  refine e_aload_n (pc := 75) hE rfl 0 rfl dX2_goBy_75 ?_
  refine e_dup (pc := 76) hE rfl dX2_goBy_76 ?_
  refine g_Flow_season (pc := 77) hE f0 tw_218 dX2_goBy_77 ?_
  refine e_iconst (pc := 80) (v := 1) hE ki_1 dX2_goBy_80 ?_
  refine e_iadd (pc := 81) hE dX2_goBy_81 ?_
  refine e_topi (fun x82 ex82 => ?_)
  have h := h x82 ex82
  refine p_Flow_season (pc := 82) hE f0 tw_218 dX2_goBy_82 ?_
  refine e_iload_n (pc := 85) hE rfl 1 rfl dX2_goBy_85 ?_
  exact hR dX2_goBy_86 h
set_option maxHeartbeats 4000000 in
set_option maxRecDepth 20000 in
theorem t_St_goBackTo {l : Launch} {G : Gs} {d : Nat} {a0 : Nat} {a1 : Int32} {M : Mm} {Q : Mm → Prop} (f0 : isSt a0) (h : wp_St_goBackTo a0 a1 M Q) : CtV l G (d + 1) yX8_goBackTo cX8_goBackTo 2 (none) [rv G a0, .int a1] M Q := by
  refine CtV.mk (by decide) rfl (Nat.le_of_ble_eq_true rfl) (fun E hE hR => ?_)
  show E 0 [(0, rv G a0), (1, .int a1)] [] M
  unfold wp_St_goBackTo at h
  refine e_iload_n (pc := 0) hE rfl 1 rfl dX8_goBackTo_0 ?_
  refine e_if_lt (pc := 1) hE 30 dX8_goBackTo_1 (by decide) (fun c0 => ?_) (fun c0 => ?_)
  · have h := h.1 c0
    exact hR dX8_goBackTo_30 h
  · have h := h.2 c0
    refine e_iload_n (pc := 4) hE rfl 1 rfl dX8_goBackTo_4 ?_
    refine e_aload_n (pc := 5) hE rfl 0 rfl dX8_goBackTo_5 ?_
    refine g_Story_deeds (pc := 6) hE (st_kd f0) tw_249 dX8_goBackTo_6 ?_
    refine e_icmp_ge (pc := 9) hE 30 dX8_goBackTo_9 (by decide) (fun c0 => ?_) (fun c0 => ?_)
    · have h := h.1 c0
      exact hR dX8_goBackTo_30 h
    · have h := h.2 c0
      refine e_aload_n (pc := 12) hE rfl 0 rfl dX8_goBackTo_12 ?_
      refine g_Story_present (pc := 13) hE (st_kd f0) tw_246 dX8_goBackTo_13 ?_
      refine e_aload_n (pc := 16) hE rfl 0 rfl dX8_goBackTo_16 ?_
      refine g_Story_ahead (pc := 17) hE (st_kd f0) tw_248 dX8_goBackTo_17 ?_
      refine e_iload_n (pc := 20) hE rfl 1 rfl dX8_goBackTo_20 ?_
      have hx21 := (fl_ahead f0) h.1
      refine e_fald (pc := 21) hE (st_ahead f0) h.1 dX8_goBackTo_21 ?_
      have h := h.2
      refine c_Fl_copyFrom (pc := 22) (d := d + 0) hE (t_Fl_copyFrom (d := d) (st_pres f0) hx21 h) (st_pres f0) tw_661 (Nat.le_of_ble_eq_true rfl) dX8_goBackTo_22 (fun M22 h => ?_)
      refine e_aload_n (pc := 25) hE rfl 0 rfl dX8_goBackTo_25 ?_
      refine e_iload_n (pc := 26) hE rfl 1 rfl dX8_goBackTo_26 ?_
      refine p_Story_deeds (pc := 27) hE (st_kd f0) tw_249 dX8_goBackTo_27 ?_
      exact hR dX8_goBackTo_30 h
set_option maxHeartbeats 4000000 in
set_option maxRecDepth 20000 in
theorem w_St_copyFrom_21 {l : Launch} {G : Gs} {d : Nat} {E : EE} {a0 : Nat} {a1 : Nat} {Q : Mm → Prop} (hE : Mach l G RX8 cX8_copyFrom 3 (d + 1) E) (hR : RtV cX8_copyFrom E Q) (f0 : isSt a0) (f1 : isSt a1)  {KB : Int32 → Mm → Prop} {v2 : Int32} {M : Mm} (h : k_St_copyFrom_21 a0 a1 Q KB v2 M) (hKB : ∀ (v2 : Int32)  (M : Mm), KB v2 M → E 21 [(0, rv G a0), (1, rv G a1), (2, .int v2)] [] M) : E 21 [(0, rv G a0), (1, rv G a1), (2, .int v2)] [] M := by
  unfold k_St_copyFrom_21 at h
  refine e_iload_n (pc := 21) hE rfl 2 rfl dX8_copyFrom_21 ?_
  refine e_aload_n (pc := 22) hE rfl 0 rfl dX8_copyFrom_22 ?_
  refine g_Story_deeds (pc := 23) hE (st_kd f0) tw_249 dX8_copyFrom_23 ?_
  refine e_icmp_ge (pc := 26) hE 50 dX8_copyFrom_26 (by decide) (fun c0 => ?_) (fun c0 => ?_)
  · have h := h.1 c0
    exact hR dX8_copyFrom_50 h
  · have h := h.2 c0
    refine e_aload_n (pc := 29) hE rfl 0 rfl dX8_copyFrom_29 ?_
    refine g_Story_ahead (pc := 30) hE (st_kd f0) tw_248 dX8_copyFrom_30 ?_
    refine e_iload_n (pc := 33) hE rfl 2 rfl dX8_copyFrom_33 ?_
    have hx34 := (fl_ahead f0) h.1
    refine e_fald (pc := 34) hE (st_ahead f0) h.1 dX8_copyFrom_34 ?_
    have h := h.2
    refine e_aload_n (pc := 35) hE rfl 1 rfl dX8_copyFrom_35 ?_
    refine g_Story_ahead (pc := 36) hE (st_kd f1) tw_248 dX8_copyFrom_36 ?_
    refine e_iload_n (pc := 39) hE rfl 2 rfl dX8_copyFrom_39 ?_
    have hx40 := (fl_ahead f1) h.1
    refine e_fald (pc := 40) hE (st_ahead f1) h.1 dX8_copyFrom_40 ?_
    have h := h.2
    refine c_Fl_copyFrom (pc := 41) (d := d + 0) hE (t_Fl_copyFrom (d := d) hx34 hx40 h) hx34 tw_661 (Nat.le_of_ble_eq_true rfl) dX8_copyFrom_41 (fun M41 h => ?_)
    obtain ⟨x44, ex44⟩ : ∃ y : Int32, y = v2 + (1 : Int32) := ⟨_, rfl⟩
    have h := h x44 ex44
    refine e_iinc (pc := 44) (k := 2) (v := x44) (lv' := [(2, .int x44), (0, rv G a0), (1, rv G a1)]) hE dX8_copyFrom_44 rfl (by rw [ex44, ki_1]) (by decide) rfl ?_
    refine e_goto (pc := 47) hE 21 dX8_copyFrom_47 (by decide) ?_
    refine e_sub hE [1, 2, 0] rfl ?_
    exact hKB _ _ h
set_option maxHeartbeats 4000000 in
set_option maxRecDepth 20000 in
theorem w_lp_St_copyFrom_21 {l : Launch} {G : Gs} {d : Nat} {E : EE} {a0 : Nat} {a1 : Nat} {Q : Mm → Prop} (hE : Mach l G RX8 cX8_copyFrom 3 (d + 1) E) (hR : RtV cX8_copyFrom E Q) (f0 : isSt a0) (f1 : isSt a1)   {n : Nat} {v2 : Int32} {M : Mm} (h : lp_St_copyFrom_21 a0 a1 Q n v2 M)  : E 21 [(0, rv G a0), (1, rv G a1), (2, .int v2)] [] M := by
  have key : ∀ (n : Nat) (v2 : Int32) (M : Mm), lp_St_copyFrom_21 a0 a1 Q n v2 M → E 21 [(0, rv G a0), (1, rv G a1), (2, .int v2)] [] M := by
    intro n
    induction n with
    | zero => intro v2 M h; exact h.elim
    | succ n ih => intro v2 M h; exact w_St_copyFrom_21 hE hR f0 f1 (show k_St_copyFrom_21 a0 a1 Q (lp_St_copyFrom_21 a0 a1 Q n)  v2 M from h) ih 
  exact key n _ _ h
set_option maxHeartbeats 4000000 in
set_option maxRecDepth 20000 in
theorem t_St_copyFrom {l : Launch} {G : Gs} {d : Nat} {a0 : Nat} {a1 : Nat} {M : Mm} {Q : Mm → Prop} (f0 : isSt a0) (f1 : isSt a1) (h : wp_St_copyFrom a0 a1 M Q) : CtV l G (d + 1) yX8_copyFrom cX8_copyFrom 3 (none) [rv G a0, rv G a1] M Q := by
  refine CtV.mk (by decide) rfl (Nat.le_of_ble_eq_true rfl) (fun E hE hR => ?_)
  show E 0 [(0, rv G a0), (1, rv G a1)] [] M
  unfold wp_St_copyFrom at h
  refine e_aload_n (pc := 0) hE rfl 0 rfl dX8_copyFrom_0 ?_
  refine g_Story_present (pc := 1) hE (st_kd f0) tw_246 dX8_copyFrom_1 ?_
  refine e_aload_n (pc := 4) hE rfl 1 rfl dX8_copyFrom_4 ?_
  refine g_Story_present (pc := 5) hE (st_kd f1) tw_246 dX8_copyFrom_5 ?_
  refine c_Fl_copyFrom (pc := 8) (d := d + 0) hE (t_Fl_copyFrom (d := d) (st_pres f0) (st_pres f1) h) (st_pres f0) tw_661 (Nat.le_of_ble_eq_true rfl) dX8_copyFrom_8 (fun M8 h => ?_)
  refine e_aload_n (pc := 11) hE rfl 0 rfl dX8_copyFrom_11 ?_
  refine e_aload_n (pc := 12) hE rfl 1 rfl dX8_copyFrom_12 ?_
  refine g_Story_deeds (pc := 13) hE (st_kd f1) tw_249 dX8_copyFrom_13 ?_
  refine e_topi (fun x16 ex16 => ?_)
  have h := h x16 ex16
  refine p_Story_deeds (pc := 16) hE (st_kd f0) tw_249 dX8_copyFrom_16 ?_
  refine e_iconst (pc := 19) (v := 0) hE ki_0 dX8_copyFrom_19 ?_
  refine e_istore_n (pc := 20) (lv' := [(2, .int (0 : Int32)), (0, rv G a0), (1, rv G a1)]) hE dX8_copyFrom_20 rfl (by decide) rfl ?_
  obtain ⟨n, h⟩ := h
  refine e_sub hE [1, 2, 0] rfl ?_
  refine w_lp_St_copyFrom_21 hE hR f0 f1 h 
set_option maxHeartbeats 4000000 in
set_option maxRecDepth 20000 in
theorem t_Ch_sets {l : Launch} {G : Gs} {d : Nat} {a0 : Nat} {M : Mm} {Q : Int32 → Mm → Prop} (f0 : isCh a0) (h : wp_Ch_sets a0 M Q) : CtI l G (d + 0) yX0_sets cX0_sets 1 (some .int) [rv G a0] M Q := by
  refine CtI.mk (by decide) rfl (Nat.le_of_ble_eq_true rfl) (fun E hE hR => ?_)
  show E 0 [(0, rv G a0)] [] M
  unfold wp_Ch_sets at h
  refine e_iconst (pc := 0) (v := 1) hE ki_1 dX0_sets_0 ?_
  refine e_aload_n (pc := 1) hE rfl 0 rfl dX0_sets_1 ?_
  refine g_Chart_arms (pc := 2) hE (ch_kd f0) tw_153 dX0_sets_2 ?_
  refine e_ishl (pc := 5) hE dX0_sets_5 ?_
  exact hR dX0_sets_6 h
set_option maxHeartbeats 4000000 in
set_option maxRecDepth 20000 in
theorem w_Fl_stampSet_47 {l : Launch} {G : Gs} {d : Nat} {E : EE} {a0 : Nat} {a1 : Nat} {a2 : Int32} {Q : Int32 → Mm → Prop} (hE : Mach l G RX2 cX2_stampSet 5 (d + 3) E) (hR : RtI cX2_stampSet E Q) (f0 : kd a0 = 2) (f1 : isCh a1)  {KB : Int32 → Int32 → Mm → Prop} {v3 : Int32} {v4 : Int32} {M : Mm} (h : k_Fl_stampSet_47 a0 a1 a2 Q KB v3 v4 M) (hKB : ∀ (v3 : Int32) (v4 : Int32)  (M : Mm), KB v3 v4 M → E 5 [(0, rv G a0), (1, rv G a1), (2, .int a2), (3, .int v3), (4, .int v4)] [] M) : E 47 [(0, rv G a0), (1, rv G a1), (2, .int a2), (3, .int v3), (4, .int v4)] [] M := by
  unfold k_Fl_stampSet_47 at h
  obtain ⟨x47, ex47⟩ : ∃ y : Int32, y = v4 + (1 : Int32) := ⟨_, rfl⟩
  have h := h x47 ex47
  refine e_iinc (pc := 47) (k := 4) (v := x47) (lv' := [(4, .int x47), (0, rv G a0), (1, rv G a1), (2, .int a2), (3, .int v3)]) hE dX2_stampSet_47 rfl (by rw [ex47, ki_1]) (by decide) rfl ?_
  refine e_goto (pc := 50) hE 5 dX2_stampSet_50 (by decide) ?_
  refine e_sub hE [1, 2, 3, 4, 0] rfl ?_
  exact hKB _ _ _ h
set_option maxHeartbeats 4000000 in
set_option maxRecDepth 20000 in
theorem w_Fl_stampSet_5 {l : Launch} {G : Gs} {d : Nat} {E : EE} {a0 : Nat} {a1 : Nat} {a2 : Int32} {Q : Int32 → Mm → Prop} (hE : Mach l G RX2 cX2_stampSet 5 (d + 3) E) (hR : RtI cX2_stampSet E Q) (f0 : kd a0 = 2) (f1 : isCh a1)  {KB : Int32 → Int32 → Mm → Prop} {v3 : Int32} {v4 : Int32} {M : Mm} (h : k_Fl_stampSet_5 a0 a1 a2 Q KB v3 v4 M) (hKB : ∀ (v3 : Int32) (v4 : Int32)  (M : Mm), KB v3 v4 M → E 5 [(0, rv G a0), (1, rv G a1), (2, .int a2), (3, .int v3), (4, .int v4)] [] M) : E 5 [(0, rv G a0), (1, rv G a1), (2, .int a2), (3, .int v3), (4, .int v4)] [] M := by
  unfold k_Fl_stampSet_5 at h
  refine e_iload (pc := 5) hE 4 rfl dX2_stampSet_5 ?_
  refine e_aload_n (pc := 7) hE rfl 1 rfl dX2_stampSet_7 ?_
  refine g_Chart_arms (pc := 8) hE (ch_kd f1) tw_154 dX2_stampSet_8 ?_
  refine e_icmp_ge (pc := 11) hE 53 dX2_stampSet_11 (by decide) (fun c0 => ?_) (fun c0 => ?_)
  · have h := h.1 c0
    refine e_iload_n (pc := 53) hE rfl 3 rfl dX2_stampSet_53 ?_
    exact hR dX2_stampSet_54 h
  · have h := h.2 c0
    refine e_iload_n (pc := 14) hE rfl 2 rfl dX2_stampSet_14 ?_
    refine e_iload (pc := 15) hE 4 rfl dX2_stampSet_15 ?_
    refine cN_B_hasBit (pc := 17) (d := d + 2 + 0) hE (t_B_hasBit (d := d + 2)  h) tn_603 (Nat.le_of_ble_eq_true rfl) dX2_stampSet_17 (fun r17 M17 h => ?_)
    refine e_if_eq (pc := 20) hE 47 dX2_stampSet_20 (by decide) (fun c0 => ?_) (fun c0 => ?_)
    · have h := h.1 c0
      exact w_Fl_stampSet_47 hE hR f0 f1 h hKB
    · have h := h.2 c0
      refine e_aload_n (pc := 23) hE rfl 0 rfl dX2_stampSet_23 ?_
      refine e_aload_n (pc := 24) hE rfl 1 rfl dX2_stampSet_24 ?_
      refine e_iload (pc := 25) hE 4 rfl dX2_stampSet_25 ?_
      refine c_Fl_mayBeStamped (pc := 27) (d := d + 1 + 1) hE (t_Fl_mayBeStamped (d := d + 1) f0 f1 h) f0 tw_765 (Nat.le_of_ble_eq_true rfl) dX2_stampSet_27 (fun r27 M27 h => ?_)
      refine e_if_eq (pc := 30) hE 47 dX2_stampSet_30 (by decide) (fun c0 => ?_) (fun c0 => ?_)
      · have h := h.1 c0
        exact w_Fl_stampSet_47 hE hR f0 f1 h hKB
      · have h := h.2 c0
        refine e_aload_n (pc := 33) hE rfl 0 rfl dX2_stampSet_33 ?_
        refine e_aload_n (pc := 34) hE rfl 1 rfl dX2_stampSet_34 ?_
        refine e_iload (pc := 35) hE 4 rfl dX2_stampSet_35 ?_
        refine c_Fl_stampArm (pc := 37) (d := d + 2) hE (t_Fl_stampArm (d := d) f0 f1 h) f0 tw_766 (Nat.le_of_ble_eq_true rfl) dX2_stampSet_37 (fun M37 h => ?_)
        refine e_iload_n (pc := 40) hE rfl 3 rfl dX2_stampSet_40 ?_
        refine e_iconst (pc := 41) (v := 1) hE ki_1 dX2_stampSet_41 ?_
        refine e_iload (pc := 42) hE 4 rfl dX2_stampSet_42 ?_
        refine e_ishl (pc := 44) hE dX2_stampSet_44 ?_
        refine e_ior (pc := 45) hE dX2_stampSet_45 ?_
        refine e_topi (fun x46 ex46 => ?_)
        have h := h x46 ex46
        refine e_istore_n (pc := 46) (lv' := [(3, .int x46), (0, rv G a0), (1, rv G a1), (2, .int a2), (4, .int v4)]) hE dX2_stampSet_46 rfl (by decide) rfl ?_
        refine e_sub hE [1, 2, 3, 0, 4] rfl ?_
        exact w_Fl_stampSet_47 hE hR f0 f1 h hKB
set_option maxHeartbeats 4000000 in
set_option maxRecDepth 20000 in
theorem w_lp_Fl_stampSet_5 {l : Launch} {G : Gs} {d : Nat} {E : EE} {a0 : Nat} {a1 : Nat} {a2 : Int32} {Q : Int32 → Mm → Prop} (hE : Mach l G RX2 cX2_stampSet 5 (d + 3) E) (hR : RtI cX2_stampSet E Q) (f0 : kd a0 = 2) (f1 : isCh a1)   {n : Nat} {v3 : Int32} {v4 : Int32} {M : Mm} (h : lp_Fl_stampSet_5 a0 a1 a2 Q n v3 v4 M)  : E 5 [(0, rv G a0), (1, rv G a1), (2, .int a2), (3, .int v3), (4, .int v4)] [] M := by
  have key : ∀ (n : Nat) (v3 : Int32) (v4 : Int32) (M : Mm), lp_Fl_stampSet_5 a0 a1 a2 Q n v3 v4 M → E 5 [(0, rv G a0), (1, rv G a1), (2, .int a2), (3, .int v3), (4, .int v4)] [] M := by
    intro n
    induction n with
    | zero => intro v3 v4 M h; exact h.elim
    | succ n ih => intro v3 v4 M h; exact w_Fl_stampSet_5 hE hR f0 f1 (show k_Fl_stampSet_5 a0 a1 a2 Q (lp_Fl_stampSet_5 a0 a1 a2 Q n)  v3 v4 M from h) ih 
  exact key n _ _ _ h
set_option maxHeartbeats 4000000 in
set_option maxRecDepth 20000 in
theorem t_Fl_stampSet {l : Launch} {G : Gs} {d : Nat} {a0 : Nat} {a1 : Nat} {a2 : Int32} {M : Mm} {Q : Int32 → Mm → Prop} (f0 : kd a0 = 2) (f1 : isCh a1) (h : wp_Fl_stampSet a0 a1 a2 M Q) : CtI l G (d + 3) yX2_stampSet cX2_stampSet 5 (some .int) [rv G a0, rv G a1, .int a2] M Q := by
  refine CtI.mk (by decide) rfl (Nat.le_of_ble_eq_true rfl) (fun E hE hR => ?_)
  show E 0 [(0, rv G a0), (1, rv G a1), (2, .int a2)] [] M
  unfold wp_Fl_stampSet at h
  refine e_iconst (pc := 0) (v := 0) hE ki_0 dX2_stampSet_0 ?_
  refine e_istore_n (pc := 1) (lv' := [(3, .int (0 : Int32)), (0, rv G a0), (1, rv G a1), (2, .int a2)]) hE dX2_stampSet_1 rfl (by decide) rfl ?_
  refine e_iconst (pc := 2) (v := 0) hE ki_0 dX2_stampSet_2 ?_
  refine e_istore (pc := 3) (lv' := [(4, .int (0 : Int32)), (3, .int (0 : Int32)), (0, rv G a0), (1, rv G a1), (2, .int a2)]) hE dX2_stampSet_3 (by decide) rfl ?_
  obtain ⟨n, h⟩ := h
  refine e_sub hE [2, 3, 4, 1, 0] rfl ?_
  refine w_lp_Fl_stampSet_5 hE hR f0 f1 h 
set_option maxHeartbeats 4000000 in
set_option maxRecDepth 20000 in
theorem w_Pl_mostServed_48 {l : Launch} {G : Gs} {d : Nat} {E : EE}  {Q : Int32 → Mm → Prop} (hE : Mach l G RX5 cX5_mostServed 5 (d + 3) E) (hR : RtI cX5_mostServed E Q)   {KB : Int32 → Int32 → Mm → Prop} {v1 : Int32} {v2 : Int32} {s0 : Int32} {M : Mm} (h : k_Pl_mostServed_48 Q KB v1 v2 s0 M) (hKB : ∀ (v1 : Int32) (v2 : Int32)  (M : Mm), KB v1 v2 M → E 4 [(0, rv G 40), (1, .int v1), (2, .int v2)] [] M) : E 48 [(0, rv G 40), (1, .int v1), (2, .int v2)] [.int s0] M := by
  unfold k_Pl_mostServed_48 at h
  refine e_istore (pc := 48) (lv' := [(4, .int s0), (0, rv G 40), (1, .int v1), (2, .int v2)]) hE dX5_mostServed_48 (by decide) rfl ?_
  refine e_iload_n (pc := 50) hE rfl 2 rfl dX5_mostServed_50 ?_
  refine e_iload (pc := 51) hE 0 rfl dX5_mostServed_51 ?_
  refine e_mmax (pc := 53) hE (by omega) tw_783 tw_maxS tw_MathI tw_maxC (Nat.le_of_ble_eq_true rfl) dX5_mostServed_53 ?_
  refine e_topi (fun x56 ex56 => ?_)
  have h := h x56 ex56
  refine e_istore_n (pc := 56) (lv' := [(1, .int x56), (4, .int s0), (0, rv G 40), (2, .int v2)]) hE dX5_mostServed_56 rfl (by decide) rfl ?_
  obtain ⟨x57, ex57⟩ : ∃ y : Int32, y = v2 + (1 : Int32) := ⟨_, rfl⟩
  have h := h x57 ex57
  refine e_iinc (pc := 57) (k := 3) (v := x57) (lv' := [(2, .int x57), (1, .int x56), (4, .int s0), (0, rv G 40)]) hE dX5_mostServed_57 rfl (by rw [ex57, ki_1]) (by decide) rfl ?_
  refine e_goto (pc := 60) hE 4 dX5_mostServed_60 (by decide) ?_
  refine e_sub hE [3, 1, 0] rfl ?_
  exact hKB _ _ _ h
set_option maxHeartbeats 4000000 in
set_option maxRecDepth 20000 in
theorem w_Pl_mostServed_4 {l : Launch} {G : Gs} {d : Nat} {E : EE}  {Q : Int32 → Mm → Prop} (hE : Mach l G RX5 cX5_mostServed 5 (d + 3) E) (hR : RtI cX5_mostServed E Q)   {KB : Int32 → Int32 → Mm → Prop} {v1 : Int32} {v2 : Int32} {M : Mm} (h : k_Pl_mostServed_4 Q KB v1 v2 M) (hKB : ∀ (v1 : Int32) (v2 : Int32)  (M : Mm), KB v1 v2 M → E 4 [(0, rv G 40), (1, .int v1), (2, .int v2)] [] M) : E 4 [(0, rv G 40), (1, .int v1), (2, .int v2)] [] M := by
  unfold k_Pl_mostServed_4 at h
  refine e_iload_n (pc := 4) hE rfl 2 rfl dX5_mostServed_4 ?_
  refine e_aload_n (pc := 5) hE rfl 0 rfl dX5_mostServed_5 ?_
  refine g_Planner_chart (pc := 6) hE tw_276 dX5_mostServed_6 ?_
  refine c_Ch_sets (pc := 9) (d := d + 2 + 0) hE (t_Ch_sets (d := d + 2) ch20 h) (ch_kd ch20) tw_780 (Nat.le_of_ble_eq_true rfl) dX5_mostServed_9 (fun r9 M9 h => ?_)
  refine e_icmp_ge (pc := 12) hE 63 dX5_mostServed_12 (by decide) (fun c0 => ?_) (fun c0 => ?_)
  · have h := h.1 c0
    refine e_iload_n (pc := 63) hE rfl 1 rfl dX5_mostServed_63 ?_
    exact hR dX5_mostServed_64 h
  · have h := h.2 c0
    refine e_aload_n (pc := 15) hE rfl 0 rfl dX5_mostServed_15 ?_
    refine g_Planner_chart (pc := 16) hE tw_276 dX5_mostServed_16 ?_
    refine e_iload_n (pc := 19) hE rfl 2 rfl dX5_mostServed_19 ?_
    refine c_Ch_servedOf (pc := 20) (d := d + 2) hE (t_Ch_servedOf (d := d) ch20 h) (ch_kd ch20) tw_781 (Nat.le_of_ble_eq_true rfl) dX5_mostServed_20 (fun r20 M20 h => ?_)
    refine e_istore_n (pc := 23) (lv' := [(3, .int r20), (0, rv G 40), (1, .int v1), (2, .int v2)]) hE dX5_mostServed_23 rfl (by decide) rfl ?_
    refine e_aload_n (pc := 24) hE rfl 1 rfl dX5_mostServed_24 ?_
    refine g_Planner_target (pc := 25) hE tw_280 dX5_mostServed_25 ?_
    refine e_bipush (pc := 28) (v := -9) hE kb_m9 dX5_mostServed_28 ?_
    refine e_icmp_ne (pc := 30) hE 40 dX5_mostServed_30 (by decide) (fun c0 => ?_) (fun c0 => ?_)
    · have h := h.1 c0
      refine e_iload_n (pc := 40) hE rfl 0 rfl dX5_mostServed_40 ?_
      refine e_aload_n (pc := 41) hE rfl 1 rfl dX5_mostServed_41 ?_
      refine g_Planner_target (pc := 42) hE tw_280 dX5_mostServed_42 ?_
      refine e_ishr (pc := 45) hE dX5_mostServed_45 ?_
      refine e_iconst (pc := 46) (v := 1) hE ki_1 dX5_mostServed_46 ?_
      refine e_iand (pc := 47) hE dX5_mostServed_47 ?_
      refine e_sub hE [1, 2, 3] rfl ?_
      exact w_Pl_mostServed_48 hE hR h hKB
    · have h := h.2 c0
      refine e_iload_n (pc := 33) hE rfl 0 rfl dX5_mostServed_33 ?_
      refine c_J_bitCount (pc := 34) (d := d + 2 + 0) hE (t_J_bitCount (d := d + 2)  h) tw_782 (Nat.le_of_ble_eq_true rfl) dX5_mostServed_34 (fun r34 M34 h => ?_)
      refine e_goto (pc := 37) hE 48 dX5_mostServed_37 (by decide) ?_
      refine e_sub hE [1, 2, 3] rfl ?_
      exact w_Pl_mostServed_48 hE hR h hKB
set_option maxHeartbeats 4000000 in
set_option maxRecDepth 20000 in
theorem w_lp_Pl_mostServed_4 {l : Launch} {G : Gs} {d : Nat} {E : EE}  {Q : Int32 → Mm → Prop} (hE : Mach l G RX5 cX5_mostServed 5 (d + 3) E) (hR : RtI cX5_mostServed E Q)    {n : Nat} {v1 : Int32} {v2 : Int32} {M : Mm} (h : lp_Pl_mostServed_4 Q n v1 v2 M)  : E 4 [(0, rv G 40), (1, .int v1), (2, .int v2)] [] M := by
  have key : ∀ (n : Nat) (v1 : Int32) (v2 : Int32) (M : Mm), lp_Pl_mostServed_4 Q n v1 v2 M → E 4 [(0, rv G 40), (1, .int v1), (2, .int v2)] [] M := by
    intro n
    induction n with
    | zero => intro v1 v2 M h; exact h.elim
    | succ n ih => intro v1 v2 M h; exact w_Pl_mostServed_4 hE hR  (show k_Pl_mostServed_4  Q (lp_Pl_mostServed_4 Q n)  v1 v2 M from h) ih 
  exact key n _ _ _ h
set_option maxHeartbeats 4000000 in
set_option maxRecDepth 20000 in
theorem t_Pl_mostServed {l : Launch} {G : Gs} {d : Nat}  {M : Mm} {Q : Int32 → Mm → Prop}  (h : wp_Pl_mostServed  M Q) : CtI l G (d + 3) yX5_mostServed cX5_mostServed 5 (some .int) [rv G 40] M Q := by
  refine CtI.mk (by decide) rfl (Nat.le_of_ble_eq_true rfl) (fun E hE hR => ?_)
  show E 0 [(0, rv G 40)] [] M
  unfold wp_Pl_mostServed at h
  refine e_iconst (pc := 0) (v := 0) hE ki_0 dX5_mostServed_0 ?_
  refine e_istore_n (pc := 1) (lv' := [(1, .int (0 : Int32)), (0, rv G 40)]) hE dX5_mostServed_1 rfl (by decide) rfl ?_
  refine e_iconst (pc := 2) (v := 0) hE ki_0 dX5_mostServed_2 ?_
  refine e_istore_n (pc := 3) (lv' := [(2, .int (0 : Int32)), (1, .int (0 : Int32)), (0, rv G 40)]) hE dX5_mostServed_3 rfl (by decide) rfl ?_
  obtain ⟨n, h⟩ := h
  refine e_sub hE [2, 1, 0] rfl ?_
  refine w_lp_Pl_mostServed_4 hE hR  h 
set_option maxHeartbeats 4000000 in
set_option maxRecDepth 20000 in
theorem w_Pl_canWin_24 {l : Launch} {G : Gs} {d : Nat} {E : EE} {a1 : Int32} {a2 : Int32} {Q : Int32 → Mm → Prop} (hE : Mach l G RX5 cX5_canWin 3 (d + 0) E) (hR : RtZ cX5_canWin E Q)     {M : Mm} (h : k_Pl_canWin_24 a1 a2 Q M)  : E 24 [] [] M := by
  unfold k_Pl_canWin_24 at h
  refine e_iconst (pc := 24) (v := 1) hE ki_1 dX5_canWin_24 ?_
  refine e_goto (pc := 25) hE 29 dX5_canWin_25 (by decide) ?_
  exact hR dX5_canWin_29 (Or.inr rfl) h
set_option maxHeartbeats 4000000 in
set_option maxRecDepth 20000 in
theorem t_Pl_canWin {l : Launch} {G : Gs} {d : Nat} {a1 : Int32} {a2 : Int32} {M : Mm} {Q : Int32 → Mm → Prop}  (h : wp_Pl_canWin a1 a2 M Q) : CtI l G (d + 0) yX5_canWin cX5_canWin 3 (some .boolean) [rv G 40, .int a1, .int a2] M Q := by
  refine CtI.mkZ (by decide) rfl (Nat.le_of_ble_eq_true rfl) (fun E hE hR => ?_)
  show E 0 [(0, rv G 40), (1, .int a1), (2, .int a2)] [] M
  unfold wp_Pl_canWin at h
  refine e_iload_n (pc := 0) hE rfl 1 rfl dX5_canWin_0 ?_
  refine e_aload_n (pc := 1) hE rfl 0 rfl dX5_canWin_1 ?_
  refine g_Planner_bestWorth (pc := 2) hE tw_272 dX5_canWin_2 ?_
  refine e_icmp_gt (pc := 5) hE 24 dX5_canWin_5 (by decide) (fun c0 => ?_) (fun c0 => ?_)
  · have h := h.1 c0
    refine e_sub hE [] rfl ?_
    exact w_Pl_canWin_24 hE hR h
  · have h := h.2 c0
    refine e_iload_n (pc := 8) hE rfl 1 rfl dX5_canWin_8 ?_
    refine e_aload_n (pc := 9) hE rfl 0 rfl dX5_canWin_9 ?_
    refine g_Planner_bestWorth (pc := 10) hE tw_272 dX5_canWin_10 ?_
    refine e_icmp_ne (pc := 13) hE 28 dX5_canWin_13 (by decide) (fun c0 => ?_) (fun c0 => ?_)
    · have h := h.1 c0
      refine e_iconst (pc := 28) (v := 0) hE ki_0 dX5_canWin_28 ?_
      exact hR dX5_canWin_29 (Or.inl rfl) h
    · have h := h.2 c0
      refine e_iload_n (pc := 16) hE rfl 2 rfl dX5_canWin_16 ?_
      refine e_aload_n (pc := 17) hE rfl 0 rfl dX5_canWin_17 ?_
      refine g_Planner_bestStamps (pc := 18) hE tw_274 dX5_canWin_18 ?_
      refine e_icmp_ge (pc := 21) hE 28 dX5_canWin_21 (by decide) (fun c0 => ?_) (fun c0 => ?_)
      · have h := h.1 c0
        refine e_iconst (pc := 28) (v := 0) hE ki_0 dX5_canWin_28 ?_
        exact hR dX5_canWin_29 (Or.inl rfl) h
      · have h := h.2 c0
        refine e_sub hE [] rfl ?_
        exact w_Pl_canWin_24 hE hR h
set_option maxHeartbeats 4000000 in
set_option maxRecDepth 20000 in
theorem t_Pl_judge {l : Launch} {G : Gs} {d : Nat} {a1 : Int32} {a2 : Int32} {M : Mm} {Q : Mm → Prop}  (h : wp_Pl_judge a1 a2 M Q) : CtV l G (d + 1) yX5_judge cX5_judge 3 (none) [rv G 40, .int a1, .int a2] M Q := by
  refine CtV.mk (by decide) rfl (Nat.le_of_ble_eq_true rfl) (fun E hE hR => ?_)
  show E 0 [(0, rv G 40), (1, .int a1), (2, .int a2)] [] M
  unfold wp_Pl_judge at h
  refine e_aload_n (pc := 0) hE rfl 0 rfl dX5_judge_0 ?_
  refine e_iload_n (pc := 1) hE rfl 1 rfl dX5_judge_1 ?_
  refine e_iload_n (pc := 2) hE rfl 2 rfl dX5_judge_2 ?_
  refine c_Pl_canWin (pc := 3) (d := d + 0) hE (t_Pl_canWin (d := d)  h) tw_792 (Nat.le_of_ble_eq_true rfl) dX5_judge_3 (fun r3 M3 h => ?_)
  refine e_if_eq (pc := 6) hE 33 dX5_judge_6 (by decide) (fun c0 => ?_) (fun c0 => ?_)
  · have h := h.1 c0
    exact hR dX5_judge_33 h
  · have h := h.2 c0
    refine e_aload_n (pc := 9) hE rfl 0 rfl dX5_judge_9 ?_
    refine e_iload_n (pc := 10) hE rfl 1 rfl dX5_judge_10 ?_
    refine p_Planner_bestWorth (pc := 11) hE tw_272 dX5_judge_11 ?_
    refine e_aload_n (pc := 14) hE rfl 0 rfl dX5_judge_14 ?_
    refine e_iload_n (pc := 15) hE rfl 2 rfl dX5_judge_15 ?_
    refine p_Planner_bestStamps (pc := 16) hE tw_274 dX5_judge_16 ?_
    refine e_aload_n (pc := 19) hE rfl 0 rfl dX5_judge_19 ?_
    refine g_Planner_plan (pc := 20) hE tw_278 dX5_judge_20 ?_
    refine e_iconst (pc := 23) (v := 0) hE ki_0 dX5_judge_23 ?_
    refine e_aload_n (pc := 24) hE rfl 0 rfl dX5_judge_24 ?_
    refine g_Planner_bestPlan (pc := 25) hE tw_270 dX5_judge_25 ?_
    refine e_iconst (pc := 28) (v := 0) hE ki_0 dX5_judge_28 ?_
    refine e_iconst (pc := 29) (v := 3) hE ki_3 dX5_judge_29 ?_
    refine e_acopy (pc := 30) hE (by omega) tw_796 tw_acN tw_acS tw_acI ar_42 ar_41 h.1 h.2.1 h.2.2.1 h.2.2.2.1 h.2.2.2.2.1 (Nat.le_of_ble_eq_true rfl) dX5_judge_30 ?_
    have h := h.2.2.2.2.2
    exact hR dX5_judge_33 h
set_option maxHeartbeats 4000000 in
set_option maxRecDepth 20000 in
theorem t_Pl_worthOf {l : Launch} {G : Gs} {d : Nat} {a1 : Int32} {a2 : Int32} {M : Mm} {Q : Int32 → Mm → Prop}  (h : wp_Pl_worthOf a1 a2 M Q) : CtI l G (d + 1) yX5_worthOf cX5_worthOf 3 (some .int) [rv G 40, .int a1, .int a2] M Q := by
  refine CtI.mk (by decide) rfl (Nat.le_of_ble_eq_true rfl) (fun E hE hR => ?_)
  show E 0 [(0, rv G 40), (1, .int a1), (2, .int a2)] [] M
  unfold wp_Pl_worthOf at h
  refine e_aload_n (pc := 0) hE rfl 0 rfl dX5_worthOf_0 ?_
  refine g_Planner_target (pc := 1) hE tw_280 dX5_worthOf_1 ?_
  refine e_bipush (pc := 4) (v := -9) hE kb_m9 dX5_worthOf_4 ?_
  refine e_icmp_ne (pc := 6) hE 14 dX5_worthOf_6 (by decide) (fun c0 => ?_) (fun c0 => ?_)
  · have h := h.1 c0
    refine e_iload_n (pc := 14) hE rfl 2 rfl dX5_worthOf_14 ?_
    refine e_aload_n (pc := 15) hE rfl 0 rfl dX5_worthOf_15 ?_
    refine g_Planner_seasons (pc := 16) hE tw_279 dX5_worthOf_16 ?_
    refine e_iconst (pc := 19) (v := 1) hE ki_1 dX5_worthOf_19 ?_
    refine e_isub (pc := 20) hE dX5_worthOf_20 ?_
    refine e_icmp_ne (pc := 21) hE 39 dX5_worthOf_21 (by decide) (fun c0 => ?_) (fun c0 => ?_)
    · have h := h.1 c0
      refine e_iconst (pc := 39) (v := 0) hE ki_0 dX5_worthOf_39 ?_
      exact hR dX5_worthOf_40 h
    · have h := h.2 c0
      refine e_iload_n (pc := 24) hE rfl 1 rfl dX5_worthOf_24 ?_
      refine e_aload_n (pc := 25) hE rfl 0 rfl dX5_worthOf_25 ?_
      refine g_Planner_target (pc := 26) hE tw_280 dX5_worthOf_26 ?_
      refine cN_B_hasBit (pc := 29) (d := d + 0) hE (t_B_hasBit (d := d)  h) tn_803 (Nat.le_of_ble_eq_true rfl) dX5_worthOf_29 (fun r29 M29 h => ?_)
      refine e_if_eq (pc := 32) hE 39 dX5_worthOf_32 (by decide) (fun c0 => ?_) (fun c0 => ?_)
      · have h := h.1 c0
        refine e_iconst (pc := 39) (v := 0) hE ki_0 dX5_worthOf_39 ?_
        exact hR dX5_worthOf_40 h
      · have h := h.2 c0
        refine e_iconst (pc := 35) (v := 1) hE ki_1 dX5_worthOf_35 ?_
        refine e_goto (pc := 36) hE 40 dX5_worthOf_36 (by decide) ?_
        exact hR dX5_worthOf_40 h
  · have h := h.2 c0
    refine e_iload_n (pc := 9) hE rfl 1 rfl dX5_worthOf_9 ?_
    refine c_J_bitCount (pc := 10) (d := d + 0) hE (t_J_bitCount (d := d)  h) tw_782 (Nat.le_of_ble_eq_true rfl) dX5_worthOf_10 (fun r10 M10 h => ?_)
    exact hR dX5_worthOf_13 h
set_option maxHeartbeats 4000000 in
set_option maxRecDepth 20000 in
theorem t_Pl_hopeOf {l : Launch} {G : Gs} {d : Nat} {a1 : Nat} {a2 : Int32} {M : Mm} {Q : Int32 → Mm → Prop} (f1 : kd a1 = 2) (h : wp_Pl_hopeOf a1 a2 M Q) : CtI l G (d + 1) yX5_hopeOf cX5_hopeOf 5 (some .int) [rv G 40, rv G a1, .int a2] M Q := by
  refine CtI.mk (by decide) rfl (Nat.le_of_ble_eq_true rfl) (fun E hE hR => ?_)
  show E 0 [(0, rv G 40), (1, rv G a1), (2, .int a2)] [] M
  unfold wp_Pl_hopeOf at h
  refine e_aload_n (pc := 0) hE rfl 0 rfl dX5_hopeOf_0 ?_
  refine g_Planner_seasons (pc := 1) hE tw_279 dX5_hopeOf_1 ?_
  refine e_iload_n (pc := 4) hE rfl 2 rfl dX5_hopeOf_4 ?_
  refine e_isub (pc := 5) hE dX5_hopeOf_5 ?_
  refine e_topi (fun x6 ex6 => ?_)
  have h := h x6 ex6
  refine e_istore_n (pc := 6) (lv' := [(3, .int x6), (0, rv G 40), (1, rv G a1), (2, .int a2)]) hE dX5_hopeOf_6 rfl (by decide) rfl ?_
  refine e_aload_n (pc := 7) hE rfl 1 rfl dX5_hopeOf_7 ?_
  refine g_Planner_target (pc := 8) hE tw_280 dX5_hopeOf_8 ?_
  refine e_bipush (pc := 11) (v := -9) hE kb_m9 dX5_hopeOf_11 ?_
  refine e_icmp_ne (pc := 13) hE 45 dX5_hopeOf_13 (by decide) (fun c0 => ?_) (fun c0 => ?_)
  · have h := h.1 c0
    refine e_iload_n (pc := 45) hE rfl 0 rfl dX5_hopeOf_45 ?_
    refine e_if_le (pc := 46) hE 70 dX5_hopeOf_46 (by decide) (fun c0 => ?_) (fun c0 => ?_)
    · have h := h.1 c0
      refine e_iconst (pc := 70) (v := 0) hE ki_0 dX5_hopeOf_70 ?_
      exact hR dX5_hopeOf_71 h
    · have h := h.2 c0
      refine e_aload_n (pc := 49) hE rfl 2 rfl dX5_hopeOf_49 ?_
      refine g_Flow_dead (pc := 50) hE f1 tw_225 dX5_hopeOf_50 ?_
      refine e_aload_n (pc := 53) hE rfl 1 rfl dX5_hopeOf_53 ?_
      refine g_Planner_target (pc := 54) hE tw_280 dX5_hopeOf_54 ?_
      refine cN_B_hasBit (pc := 57) (d := d + 0) hE (t_B_hasBit (d := d)  h) tn_803 (Nat.le_of_ble_eq_true rfl) dX5_hopeOf_57 (fun r57 M57 h => ?_)
      refine e_if_ne (pc := 60) hE 70 dX5_hopeOf_60 (by decide) (fun c0 => ?_) (fun c0 => ?_)
      · have h := h.1 c0
        refine e_iconst (pc := 70) (v := 0) hE ki_0 dX5_hopeOf_70 ?_
        exact hR dX5_hopeOf_71 h
      · have h := h.2 c0
        refine e_aload_n (pc := 63) hE rfl 1 rfl dX5_hopeOf_63 ?_
        refine g_Planner_mostInSeason (pc := 64) hE tw_281 dX5_hopeOf_64 ?_
        refine e_goto (pc := 67) hE 71 dX5_hopeOf_67 (by decide) ?_
        exact hR dX5_hopeOf_71 h
  · have h := h.2 c0
    refine e_aload_n (pc := 16) hE rfl 1 rfl dX5_hopeOf_16 ?_
    refine g_Planner_chart (pc := 17) hE tw_276 dX5_hopeOf_17 ?_
    refine g_Chart_arms (pc := 20) hE (ch_kd ch20) tw_157 dX5_hopeOf_20 ?_
    refine e_aload_n (pc := 23) hE rfl 2 rfl dX5_hopeOf_23 ?_
    refine g_Flow_dead (pc := 24) hE f1 tw_225 dX5_hopeOf_24 ?_
    refine c_J_bitCount (pc := 27) (d := d + 0) hE (t_J_bitCount (d := d)  h) tw_782 (Nat.le_of_ble_eq_true rfl) dX5_hopeOf_27 (fun r27 M27 h => ?_)
    refine e_isub (pc := 30) hE dX5_hopeOf_30 ?_
    refine e_topi (fun x31 ex31 => ?_)
    have h := h x31 ex31
    refine e_istore (pc := 31) (lv' := [(4, .int x31), (3, .int x6), (0, rv G 40), (1, rv G a1), (2, .int a2)]) hE dX5_hopeOf_31 (by decide) rfl ?_
    refine e_iload_n (pc := 33) hE rfl 1 rfl dX5_hopeOf_33 ?_
    refine e_iload (pc := 34) hE 0 rfl dX5_hopeOf_34 ?_
    refine e_aload_n (pc := 36) hE rfl 2 rfl dX5_hopeOf_36 ?_
    refine g_Planner_mostInSeason (pc := 37) hE tw_281 dX5_hopeOf_37 ?_
    refine e_mmin (pc := 40) hE (by omega) tw_775 tw_minS tw_MathI tw_minC (Nat.le_of_ble_eq_true rfl) dX5_hopeOf_40 ?_
    refine e_imul (pc := 43) hE dX5_hopeOf_43 ?_
    exact hR dX5_hopeOf_44 h
set_option maxHeartbeats 4000000 in
set_option maxRecDepth 20000 in
theorem w_Pl_search_147 {l : Launch} {G : Gs} {d : Nat} {E : EE} {RC : Int32 → Int32 → Int32 → Mm → (Mm → Prop) → Prop} {a1 : Int32} {a2 : Int32} {a3 : Int32} {Q : Mm → Prop} (hE : Mach l G RX5 cX5_search 8 (d + 5) E) (hR : RtV cX5_search E Q) (hRC : ∀ {a1 : Int32} {a2 : Int32} {a3 : Int32} {M : Mm} {Q : Mm → Prop}, RC a1 a2 a3 M Q → CtV l G (d + 4) yX5_search cX5_search 8 (none) [rv G 40, .int a1, .int a2, .int a3] M Q)  (hx22 : kd (43 + 1 + tn (a1 + (1 : Int32))) = 2) {KB : Int32 → Mm → Prop} {v5 : Int32} {M : Mm} (h : k_Pl_search_147 RC a1 a2 a3 Q KB v5 M) (hKB : ∀ (v5 : Int32)  (M : Mm), KB v5 M → E 28 [(0, rv G 40), (1, .int a1), (2, .int a2), (3, .int a3), (4, rv G (43 + 1 + tn (a1 + (1 : Int32)))), (5, .int v5)] [] M) : E 147 [(0, rv G 40), (1, .int a1), (2, .int a2), (3, .int a3), (4, rv G (43 + 1 + tn (a1 + (1 : Int32)))), (5, .int v5)] [] M := by
  unfold k_Pl_search_147 at h
  obtain ⟨x147, ex147⟩ : ∃ y : Int32, y = v5 + (1 : Int32) := ⟨_, rfl⟩
  have h := h x147 ex147
  refine e_iinc (pc := 147) (k := 5) (v := x147) (lv' := [(5, .int x147), (0, rv G 40), (1, .int a1), (2, .int a2), (3, .int a3), (4, rv G (43 + 1 + tn (a1 + (1 : Int32))))]) hE dX5_search_147 rfl (by rw [ex147, ki_1]) (by decide) rfl ?_
  refine e_goto (pc := 150) hE 28 dX5_search_150 (by decide) ?_
  refine e_sub hE [1, 2, 3, 4, 5, 0] rfl ?_
  exact hKB _ _ h
set_option maxHeartbeats 4000000 in
set_option maxRecDepth 20000 in
theorem w_Pl_search_28 {l : Launch} {G : Gs} {d : Nat} {E : EE} {RC : Int32 → Int32 → Int32 → Mm → (Mm → Prop) → Prop} {a1 : Int32} {a2 : Int32} {a3 : Int32} {Q : Mm → Prop} (hE : Mach l G RX5 cX5_search 8 (d + 5) E) (hR : RtV cX5_search E Q) (hRC : ∀ {a1 : Int32} {a2 : Int32} {a3 : Int32} {M : Mm} {Q : Mm → Prop}, RC a1 a2 a3 M Q → CtV l G (d + 4) yX5_search cX5_search 8 (none) [rv G 40, .int a1, .int a2, .int a3] M Q)  (hx22 : kd (43 + 1 + tn (a1 + (1 : Int32))) = 2) {KB : Int32 → Mm → Prop} {v5 : Int32} {M : Mm} (h : k_Pl_search_28 RC a1 a2 a3 Q KB v5 M) (hKB : ∀ (v5 : Int32)  (M : Mm), KB v5 M → E 28 [(0, rv G 40), (1, .int a1), (2, .int a2), (3, .int a3), (4, rv G (43 + 1 + tn (a1 + (1 : Int32)))), (5, .int v5)] [] M) : E 28 [(0, rv G 40), (1, .int a1), (2, .int a2), (3, .int a3), (4, rv G (43 + 1 + tn (a1 + (1 : Int32)))), (5, .int v5)] [] M := by
  unfold k_Pl_search_28 at h
  refine e_iload (pc := 28) hE 5 rfl dX5_search_28 ?_
  refine e_aload_n (pc := 30) hE rfl 0 rfl dX5_search_30 ?_
  refine g_Planner_chart (pc := 31) hE tw_276 dX5_search_31 ?_
  refine c_Ch_sets (pc := 34) (d := d + 4 + 0) hE (t_Ch_sets (d := d + 4) ch20 h) (ch_kd ch20) tw_780 (Nat.le_of_ble_eq_true rfl) dX5_search_34 (fun r34 M34 h => ?_)
  refine e_icmp_ge (pc := 37) hE 153 dX5_search_37 (by decide) (fun c0 => ?_) (fun c0 => ?_)
  · have h := h.1 c0
    exact hR dX5_search_153 h
  · have h := h.2 c0
    refine e_aload (pc := 40) hE 4 rfl dX5_search_40 ?_
    refine e_aload_n (pc := 42) hE rfl 0 rfl dX5_search_42 ?_
    refine g_Planner_stages (pc := 43) hE tw_277 dX5_search_43 ?_
    refine e_iload_n (pc := 46) hE rfl 1 rfl dX5_search_46 ?_
    have hx47 := fl_stage h.1
    refine e_fald (pc := 47) hE ar_43 h.1 dX5_search_47 ?_
    have h := h.2
    refine c_Fl_copyFrom (pc := 48) (d := d + 4 + 0) hE (t_Fl_copyFrom (d := d + 4) hx22 hx47 h) hx22 tw_784 (Nat.le_of_ble_eq_true rfl) dX5_search_48 (fun M48 h => ?_)
    refine e_aload (pc := 51) hE 4 rfl dX5_search_51 ?_
    refine e_aload_n (pc := 53) hE rfl 0 rfl dX5_search_53 ?_
    refine g_Planner_chart (pc := 54) hE tw_276 dX5_search_54 ?_
    refine e_iload (pc := 57) hE 5 rfl dX5_search_57 ?_
    refine c_Fl_stampSet (pc := 59) (d := d + 1 + 3) hE (t_Fl_stampSet (d := d + 1) hx22 ch20 h) hx22 tw_797 (Nat.le_of_ble_eq_true rfl) dX5_search_59 (fun r59 M59 h => ?_)
    refine e_iload (pc := 62) hE 5 rfl dX5_search_62 ?_
    refine e_icmp_eq (pc := 64) hE 70 dX5_search_64 (by decide) (fun c0 => ?_) (fun c0 => ?_)
    · have h := h.1 c0
      refine e_iload_n (pc := 70) hE rfl 2 rfl dX5_search_70 ?_
      refine e_aload_n (pc := 71) hE rfl 0 rfl dX5_search_71 ?_
      refine e_aload (pc := 72) hE 4 rfl dX5_search_72 ?_
      refine e_aload_n (pc := 74) hE rfl 0 rfl dX5_search_74 ?_
      refine g_Planner_chart (pc := 75) hE tw_276 dX5_search_75 ?_
      refine c_Fl_harvestable (pc := 78) (d := d + 1 + 3) hE (t_Fl_harvestable (d := d + 1) hx22 ch20 h) hx22 tw_798 (Nat.le_of_ble_eq_true rfl) dX5_search_78 (fun r78 M78 h => ?_)
      refine e_iload_n (pc := 81) hE rfl 1 rfl dX5_search_81 ?_
      refine c_Pl_worthOf (pc := 82) (d := d + 3 + 1) hE (t_Pl_worthOf (d := d + 3)  h) tw_799 (Nat.le_of_ble_eq_true rfl) dX5_search_82 (fun r82 M82 h => ?_)
      refine e_iadd (pc := 85) hE dX5_search_85 ?_
      refine e_topi (fun x86 ex86 => ?_)
      have h := h x86 ex86
      refine e_istore (pc := 86) (lv' := [(6, .int x86), (0, rv G 40), (1, .int a1), (2, .int a2), (3, .int a3), (4, rv G (43 + 1 + tn (a1 + (1 : Int32)))), (5, .int v5)]) hE dX5_search_86 (by decide) rfl ?_
      refine e_iload_n (pc := 88) hE rfl 4 rfl dX5_search_88 ?_
      refine e_iload (pc := 89) hE 6 rfl dX5_search_89 ?_
      refine c_J_bitCount (pc := 91) (d := d + 4 + 0) hE (t_J_bitCount (d := d + 4)  h) tw_782 (Nat.le_of_ble_eq_true rfl) dX5_search_91 (fun r91 M91 h => ?_)
      refine e_iadd (pc := 94) hE dX5_search_94 ?_
      refine e_topi (fun x95 ex95 => ?_)
      have h := h x95 ex95
      refine e_istore (pc := 95) (lv' := [(7, .int x95), (6, .int x86), (0, rv G 40), (1, .int a1), (2, .int a2), (3, .int a3), (4, rv G (43 + 1 + tn (a1 + (1 : Int32)))), (5, .int v5)]) hE dX5_search_95 (by decide) rfl ?_
      refine e_aload_n (pc := 97) hE rfl 2 rfl dX5_search_97 ?_
      refine e_iload (pc := 98) hE 1 rfl dX5_search_98 ?_
      refine e_aload_n (pc := 100) hE rfl 2 rfl dX5_search_100 ?_
      refine e_aload (pc := 101) hE 6 rfl dX5_search_101 ?_
      refine e_iload_n (pc := 103) hE rfl 3 rfl dX5_search_103 ?_
      refine e_iconst (pc := 104) (v := 1) hE ki_1 dX5_search_104 ?_
      refine e_iadd (pc := 105) hE dX5_search_105 ?_
      refine c_Pl_hopeOf (pc := 106) (d := d + 3 + 1) hE (t_Pl_hopeOf (d := d + 3) hx22 h) tw_804 (Nat.le_of_ble_eq_true rfl) dX5_search_106 (fun r106 M106 h => ?_)
      refine e_iadd (pc := 109) hE dX5_search_109 ?_
      refine e_iload (pc := 110) hE 0 rfl dX5_search_110 ?_
      refine c_Pl_canWin (pc := 112) (d := d + 4 + 0) hE (t_Pl_canWin (d := d + 4)  h) tw_792 (Nat.le_of_ble_eq_true rfl) dX5_search_112 (fun r112 M112 h => ?_)
      refine e_if_eq (pc := 115) hE 147 dX5_search_115 (by decide) (fun c0 => ?_) (fun c0 => ?_)
      · have h := h.1 c0
        refine e_sub hE [2, 3, 4, 5, 6, 7] rfl ?_
        exact w_Pl_search_147 hE hR hRC hx22 h hKB
      · have h := h.2 c0
        refine e_aload (pc := 118) hE 6 rfl dX5_search_118 ?_
        refine e_aload_n (pc := 120) hE rfl 2 rfl dX5_search_120 ?_
        refine g_Planner_chart (pc := 121) hE tw_276 dX5_search_121 ?_
        refine c_Fl_goBy (pc := 124) (d := d + 4) hE (t_Fl_goBy (d := d) hx22 ch20 h) hx22 tw_808 (Nat.le_of_ble_eq_true rfl) dX5_search_124 (fun r124 M124 h => ?_)
        refine e_pop (pc := 127) hE rfl dX5_search_127 ?_
        refine e_aload_n (pc := 128) hE rfl 2 rfl dX5_search_128 ?_
        refine g_Planner_plan (pc := 129) hE tw_278 dX5_search_129 ?_
        refine e_iload_n (pc := 132) hE rfl 3 rfl dX5_search_132 ?_
        refine e_iload (pc := 133) hE 7 rfl dX5_search_133 ?_
        refine e_iast (pc := 135) hE ar_42 h.1 dX5_search_135 ?_
        have h := h.2
        refine e_aload_n (pc := 136) hE rfl 2 rfl dX5_search_136 ?_
        refine e_iload_n (pc := 137) hE rfl 3 rfl dX5_search_137 ?_
        refine e_iconst (pc := 138) (v := 1) hE ki_1 dX5_search_138 ?_
        refine e_iadd (pc := 139) hE dX5_search_139 ?_
        refine e_iload (pc := 140) hE 1 rfl dX5_search_140 ?_
        refine e_iload (pc := 142) hE 0 rfl dX5_search_142 ?_
        refine c_Pl_search (pc := 144) (d := d + 4) hE (hRC h) tw_785 (Nat.le_of_ble_eq_true rfl) dX5_search_144 (fun M144 h => ?_)
        refine e_sub hE [2, 3, 4, 5, 6, 7] rfl ?_
        exact w_Pl_search_147 hE hR hRC hx22 h hKB
    · have h := h.2 c0
      refine e_goto (pc := 67) hE 147 dX5_search_67 (by decide) ?_
      exact w_Pl_search_147 hE hR hRC hx22 h hKB
set_option maxHeartbeats 4000000 in
set_option maxRecDepth 20000 in
theorem w_lp_Pl_search_28 {l : Launch} {G : Gs} {d : Nat} {E : EE} {RC : Int32 → Int32 → Int32 → Mm → (Mm → Prop) → Prop} {a1 : Int32} {a2 : Int32} {a3 : Int32} {Q : Mm → Prop} (hE : Mach l G RX5 cX5_search 8 (d + 5) E) (hR : RtV cX5_search E Q) (hRC : ∀ {a1 : Int32} {a2 : Int32} {a3 : Int32} {M : Mm} {Q : Mm → Prop}, RC a1 a2 a3 M Q → CtV l G (d + 4) yX5_search cX5_search 8 (none) [rv G 40, .int a1, .int a2, .int a3] M Q)  (hx22 : kd (43 + 1 + tn (a1 + (1 : Int32))) = 2)  {n : Nat} {v5 : Int32} {M : Mm} (h : lp_Pl_search_28 RC a1 a2 a3 Q n v5 M)  : E 28 [(0, rv G 40), (1, .int a1), (2, .int a2), (3, .int a3), (4, rv G (43 + 1 + tn (a1 + (1 : Int32)))), (5, .int v5)] [] M := by
  have key : ∀ (n : Nat) (v5 : Int32) (M : Mm), lp_Pl_search_28 RC a1 a2 a3 Q n v5 M → E 28 [(0, rv G 40), (1, .int a1), (2, .int a2), (3, .int a3), (4, rv G (43 + 1 + tn (a1 + (1 : Int32)))), (5, .int v5)] [] M := by
    intro n
    induction n with
    | zero => intro v5 M h; exact h.elim
    | succ n ih => intro v5 M h; exact w_Pl_search_28 hE hR hRC hx22 (show k_Pl_search_28 RC a1 a2 a3 Q (lp_Pl_search_28 RC a1 a2 a3 Q n)  v5 M from h) ih 
  exact key n _ _ h
set_option maxHeartbeats 4000000 in
set_option maxRecDepth 20000 in
theorem tB_Pl_search {l : Launch} {G : Gs} {d : Nat} {RC : Int32 → Int32 → Int32 → Mm → (Mm → Prop) → Prop} {a1 : Int32} {a2 : Int32} {a3 : Int32} {M : Mm} {Q : Mm → Prop} (hRC : ∀ {a1 : Int32} {a2 : Int32} {a3 : Int32} {M : Mm} {Q : Mm → Prop}, RC a1 a2 a3 M Q → CtV l G (d + 4) yX5_search cX5_search 8 (none) [rv G 40, .int a1, .int a2, .int a3] M Q) (h : wpB_Pl_search RC a1 a2 a3 M Q) : CtV l G (d + 5) yX5_search cX5_search 8 (none) [rv G 40, .int a1, .int a2, .int a3] M Q := by
  refine CtV.mk (by decide) rfl (Nat.le_of_ble_eq_true rfl) (fun E hE hR => ?_)
  show E 0 [(0, rv G 40), (1, .int a1), (2, .int a2), (3, .int a3)] [] M
  unfold wpB_Pl_search at h
  refine e_iload_n (pc := 0) hE rfl 1 rfl dX5_search_0 ?_
  refine e_aload_n (pc := 1) hE rfl 0 rfl dX5_search_1 ?_
  refine g_Planner_seasons (pc := 2) hE tw_279 dX5_search_2 ?_
  refine e_icmp_lt (pc := 5) hE 15 dX5_search_5 (by decide) (fun c0 => ?_) (fun c0 => ?_)
  · have h := h.1 c0
    refine e_aload_n (pc := 15) hE rfl 0 rfl dX5_search_15 ?_
    refine g_Planner_stages (pc := 16) hE tw_277 dX5_search_16 ?_
    refine e_iload_n (pc := 19) hE rfl 1 rfl dX5_search_19 ?_
    refine e_iconst (pc := 20) (v := 1) hE ki_1 dX5_search_20 ?_
    refine e_iadd (pc := 21) hE dX5_search_21 ?_
    have hx22 := fl_stage h.1
    refine e_fald (pc := 22) hE ar_43 h.1 dX5_search_22 ?_
    have h := h.2
    refine e_astore (pc := 23) (lv' := [(4, rv G (43 + 1 + tn (a1 + (1 : Int32)))), (0, rv G 40), (1, .int a1), (2, .int a2), (3, .int a3)]) hE dX5_search_23 (by decide) rfl ?_
    refine e_iconst (pc := 25) (v := 0) hE ki_0 dX5_search_25 ?_
    refine e_istore (pc := 26) (lv' := [(5, .int (0 : Int32)), (4, rv G (43 + 1 + tn (a1 + (1 : Int32)))), (0, rv G 40), (1, .int a1), (2, .int a2), (3, .int a3)]) hE dX5_search_26 (by decide) rfl ?_
    obtain ⟨n, h⟩ := h
    refine e_sub hE [2, 3, 4, 5, 1, 0] rfl ?_
    refine w_lp_Pl_search_28 hE hR hRC hx22 h 
  · have h := h.2 c0
    refine e_aload_n (pc := 8) hE rfl 0 rfl dX5_search_8 ?_
    refine e_iload_n (pc := 9) hE rfl 2 rfl dX5_search_9 ?_
    refine e_iload_n (pc := 10) hE rfl 3 rfl dX5_search_10 ?_
    refine c_Pl_judge (pc := 11) (d := d + 3 + 1) hE (t_Pl_judge (d := d + 3)  h) tw_788 (Nat.le_of_ble_eq_true rfl) dX5_search_11 (fun M11 h => ?_)
    exact hR dX5_search_14 h
theorem t_Pl_search {l : Launch} {G : Gs} : ∀ {n d : Nat} {a1 : Int32} {a2 : Int32} {a3 : Int32} {M : Mm} {Q : Mm → Prop}, wp_Pl_search n a1 a2 a3 M Q → CtV l G (d + 5 + n) yX5_search cX5_search 8 (none) [rv G 40, .int a1, .int a2, .int a3] M Q := by
  intro n
  induction n with
  | zero => intro d a1 a2 a3 M Q h; exact h.elim
  | succ n ih => intro d a1 a2 a3 M Q h; exact cast (by rw [show d + n + 1 + 5 = d + 5 + (n + 1) by omega]) (tB_Pl_search (d := d + n + 1) (RC := wp_Pl_search n) (fun {a1 a2 a3 M Q} h => cast (by rw [show d + 5 + n = d + n + 1 + 4 by omega]) (ih (d := d) h)) h)
set_option maxHeartbeats 4000000 in
set_option maxRecDepth 20000 in
theorem w_Pl_seek_26 {l : Launch} {G : Gs} {d : Nat} {E : EE} {a1 : Nat} {a2 : Int32} {a3 : Int32} {Q : Mm → Prop} (hE : Mach l G RX5 cX5_seek 4 (d + 14) E) (hR : RtV cX5_seek E Q) (f1 : kd a1 = 2)   {s0 : Int32} {M : Mm} (h : k_Pl_seek_26 a1 a2 a3 Q s0 M)  : E 26 [(0, rv G 40), (1, rv G a1)] [.int s0, rv G 40] M := by
  unfold k_Pl_seek_26 at h
  refine p_Planner_bestWorth (pc := 26) hE tw_272 dX5_seek_26 ?_
  refine e_aload_n (pc := 29) hE rfl 0 rfl dX5_seek_29 ?_
  refine e_iconst (pc := 30) (v := 0) hE ki_0 dX5_seek_30 ?_
  refine p_Planner_bestStamps (pc := 31) hE tw_274 dX5_seek_31 ?_
  refine e_aload_n (pc := 34) hE rfl 0 rfl dX5_seek_34 ?_
  refine e_aload_n (pc := 35) hE rfl 0 rfl dX5_seek_35 ?_
  refine c_Pl_mostServed (pc := 36) (d := d + 10 + 3) hE (t_Pl_mostServed (d := d + 10)  h) tw_776 (Nat.le_of_ble_eq_true rfl) dX5_seek_36 (fun r36 M36 h => ?_)
  refine p_Planner_mostInSeason (pc := 39) hE tw_281 dX5_seek_39 ?_
  refine e_aload_n (pc := 42) hE rfl 0 rfl dX5_seek_42 ?_
  refine g_Planner_stages (pc := 43) hE tw_277 dX5_seek_43 ?_
  refine e_iconst (pc := 46) (v := 0) hE ki_0 dX5_seek_46 ?_
  have hx47 := fl_stage h.1
  refine e_fald (pc := 47) hE ar_43 h.1 dX5_seek_47 ?_
  have h := h.2
  refine e_aload_n (pc := 48) hE rfl 1 rfl dX5_seek_48 ?_
  refine c_Fl_copyFrom (pc := 49) (d := d + 13 + 0) hE (t_Fl_copyFrom (d := d + 13) hx47 f1 h) hx47 tw_784 (Nat.le_of_ble_eq_true rfl) dX5_seek_49 (fun M49 h => ?_)
  refine e_aload_n (pc := 52) hE rfl 0 rfl dX5_seek_52 ?_
  refine e_iconst (pc := 53) (v := 0) hE ki_0 dX5_seek_53 ?_
  refine e_iconst (pc := 54) (v := 0) hE ki_0 dX5_seek_54 ?_
  refine e_iconst (pc := 55) (v := 0) hE ki_0 dX5_seek_55 ?_
  refine c_Pl_search (pc := 56) (d := d + 5 + 8) hE (t_Pl_search (d := d)  h) tw_785 (Nat.le_of_ble_eq_true rfl) dX5_seek_56 (fun M56 h => ?_)
  exact hR dX5_seek_59 h
set_option maxHeartbeats 4000000 in
set_option maxRecDepth 20000 in
theorem t_Pl_seek {l : Launch} {G : Gs} {d : Nat} {a1 : Nat} {a2 : Int32} {a3 : Int32} {M : Mm} {Q : Mm → Prop} (f1 : kd a1 = 2) (h : wp_Pl_seek a1 a2 a3 M Q) : CtV l G (d + 14) yX5_seek cX5_seek 4 (none) [rv G 40, rv G a1, .int a2, .int a3] M Q := by
  refine CtV.mk (by decide) rfl (Nat.le_of_ble_eq_true rfl) (fun E hE hR => ?_)
  show E 0 [(0, rv G 40), (1, rv G a1), (2, .int a2), (3, .int a3)] [] M
  unfold wp_Pl_seek at h
  refine e_aload_n (pc := 0) hE rfl 0 rfl dX5_seek_0 ?_
  refine e_iload_n (pc := 1) hE rfl 2 rfl dX5_seek_1 ?_
  refine e_iconst (pc := 2) (v := 3) hE ki_3 dX5_seek_2 ?_
  refine e_mmin (pc := 3) hE (by omega) tw_775 tw_minS tw_MathI tw_minC (Nat.le_of_ble_eq_true rfl) dX5_seek_3 ?_
  refine e_topi (fun x6 ex6 => ?_)
  have h := h x6 ex6
  refine p_Planner_seasons (pc := 6) hE tw_279 dX5_seek_6 ?_
  refine e_aload_n (pc := 9) hE rfl 0 rfl dX5_seek_9 ?_
  refine e_iload_n (pc := 10) hE rfl 3 rfl dX5_seek_10 ?_
  refine p_Planner_target (pc := 11) hE tw_280 dX5_seek_11 ?_
  refine e_aload_n (pc := 14) hE rfl 0 rfl dX5_seek_14 ?_
  refine e_iload_n (pc := 15) hE rfl 3 rfl dX5_seek_15 ?_
  refine e_bipush (pc := 16) (v := -9) hE kb_m9 dX5_seek_16 ?_
  refine e_icmp_ne (pc := 18) hE 25 dX5_seek_18 (by decide) (fun c0 => ?_) (fun c0 => ?_)
  · have h := h.1 c0
    refine e_iconst (pc := 25) (v := 0) hE ki_0 dX5_seek_25 ?_
    refine e_sub hE [0, 1] rfl ?_
    exact w_Pl_seek_26 hE hR f1 h
  · have h := h.2 c0
    refine e_iconst (pc := 21) (v := -1) hE ki_m1 dX5_seek_21 ?_
    refine e_goto (pc := 22) hE 26 dX5_seek_22 (by decide) ?_
    refine e_sub hE [0, 1] rfl ?_
    exact w_Pl_seek_26 hE hR f1 h
set_option maxHeartbeats 4000000 in
set_option maxRecDepth 20000 in
theorem w_Fl_harvestsOfSeasons_5 {l : Launch} {G : Gs} {d : Nat} {E : EE} {a0 : Nat} {a1 : Nat} {a2 : Int32} {Q : Int32 → Mm → Prop} (hE : Mach l G RX2 cX2_harvestsOfSeasons 5 (d + 5) E) (hR : RtI cX2_harvestsOfSeasons E Q) (f0 : kd a0 = 2) (f1 : isCh a1)  {KB : Int32 → Int32 → Mm → Prop} {v3 : Int32} {v4 : Int32} {M : Mm} (h : k_Fl_harvestsOfSeasons_5 a0 a1 a2 Q KB v3 v4 M) (hKB : ∀ (v3 : Int32) (v4 : Int32)  (M : Mm), KB v3 v4 M → E 5 [(0, rv G a0), (1, rv G a1), (2, .int a2), (3, .int v3), (4, .int v4)] [] M) : E 5 [(0, rv G a0), (1, rv G a1), (2, .int a2), (3, .int v3), (4, .int v4)] [] M := by
  unfold k_Fl_harvestsOfSeasons_5 at h
  refine e_iload (pc := 5) hE 4 rfl dX2_harvestsOfSeasons_5 ?_
  refine e_iload_n (pc := 7) hE rfl 2 rfl dX2_harvestsOfSeasons_7 ?_
  refine e_icmp_ge (pc := 8) hE 28 dX2_harvestsOfSeasons_8 (by decide) (fun c0 => ?_) (fun c0 => ?_)
  · have h := h.1 c0
    refine e_iload_n (pc := 28) hE rfl 3 rfl dX2_harvestsOfSeasons_28 ?_
    exact hR dX2_harvestsOfSeasons_29 h
  · have h := h.2 c0
    refine e_iload_n (pc := 11) hE rfl 3 rfl dX2_harvestsOfSeasons_11 ?_
    refine e_aload_n (pc := 12) hE rfl 0 rfl dX2_harvestsOfSeasons_12 ?_
    refine e_aload_n (pc := 13) hE rfl 1 rfl dX2_harvestsOfSeasons_13 ?_
    refine c_Fl_goBy (pc := 14) (d := d + 4) hE (t_Fl_goBy (d := d) f0 f1 h) f0 tw_832 (Nat.le_of_ble_eq_true rfl) dX2_harvestsOfSeasons_14 (fun r14 M14 h => ?_)
    refine c_J_bitCount (pc := 17) (d := d + 4 + 0) hE (t_J_bitCount (d := d + 4)  h) tw_833 (Nat.le_of_ble_eq_true rfl) dX2_harvestsOfSeasons_17 (fun r17 M17 h => ?_)
    refine e_iadd (pc := 20) hE dX2_harvestsOfSeasons_20 ?_
    refine e_topi (fun x21 ex21 => ?_)
    have h := h x21 ex21
    refine e_istore_n (pc := 21) (lv' := [(3, .int x21), (0, rv G a0), (1, rv G a1), (2, .int a2), (4, .int v4)]) hE dX2_harvestsOfSeasons_21 rfl (by decide) rfl ?_
    obtain ⟨x22, ex22⟩ : ∃ y : Int32, y = v4 + (1 : Int32) := ⟨_, rfl⟩
    have h := h x22 ex22
    refine e_iinc (pc := 22) (k := 4) (v := x22) (lv' := [(4, .int x22), (3, .int x21), (0, rv G a0), (1, rv G a1), (2, .int a2)]) hE dX2_harvestsOfSeasons_22 rfl (by rw [ex22, ki_1]) (by decide) rfl ?_
    refine e_goto (pc := 25) hE 5 dX2_harvestsOfSeasons_25 (by decide) ?_
    refine e_sub hE [2, 3, 4, 1, 0] rfl ?_
    exact hKB _ _ _ h
set_option maxHeartbeats 4000000 in
set_option maxRecDepth 20000 in
theorem w_lp_Fl_harvestsOfSeasons_5 {l : Launch} {G : Gs} {d : Nat} {E : EE} {a0 : Nat} {a1 : Nat} {a2 : Int32} {Q : Int32 → Mm → Prop} (hE : Mach l G RX2 cX2_harvestsOfSeasons 5 (d + 5) E) (hR : RtI cX2_harvestsOfSeasons E Q) (f0 : kd a0 = 2) (f1 : isCh a1)   {n : Nat} {v3 : Int32} {v4 : Int32} {M : Mm} (h : lp_Fl_harvestsOfSeasons_5 a0 a1 a2 Q n v3 v4 M)  : E 5 [(0, rv G a0), (1, rv G a1), (2, .int a2), (3, .int v3), (4, .int v4)] [] M := by
  have key : ∀ (n : Nat) (v3 : Int32) (v4 : Int32) (M : Mm), lp_Fl_harvestsOfSeasons_5 a0 a1 a2 Q n v3 v4 M → E 5 [(0, rv G a0), (1, rv G a1), (2, .int a2), (3, .int v3), (4, .int v4)] [] M := by
    intro n
    induction n with
    | zero => intro v3 v4 M h; exact h.elim
    | succ n ih => intro v3 v4 M h; exact w_Fl_harvestsOfSeasons_5 hE hR f0 f1 (show k_Fl_harvestsOfSeasons_5 a0 a1 a2 Q (lp_Fl_harvestsOfSeasons_5 a0 a1 a2 Q n)  v3 v4 M from h) ih 
  exact key n _ _ _ h
set_option maxHeartbeats 4000000 in
set_option maxRecDepth 20000 in
theorem t_Fl_harvestsOfSeasons {l : Launch} {G : Gs} {d : Nat} {a0 : Nat} {a1 : Nat} {a2 : Int32} {M : Mm} {Q : Int32 → Mm → Prop} (f0 : kd a0 = 2) (f1 : isCh a1) (h : wp_Fl_harvestsOfSeasons a0 a1 a2 M Q) : CtI l G (d + 5) yX2_harvestsOfSeasons cX2_harvestsOfSeasons 5 (some .int) [rv G a0, rv G a1, .int a2] M Q := by
  refine CtI.mk (by decide) rfl (Nat.le_of_ble_eq_true rfl) (fun E hE hR => ?_)
  show E 0 [(0, rv G a0), (1, rv G a1), (2, .int a2)] [] M
  unfold wp_Fl_harvestsOfSeasons at h
  refine e_iconst (pc := 0) (v := 0) hE ki_0 dX2_harvestsOfSeasons_0 ?_
  refine e_istore_n (pc := 1) (lv' := [(3, .int (0 : Int32)), (0, rv G a0), (1, rv G a1), (2, .int a2)]) hE dX2_harvestsOfSeasons_1 rfl (by decide) rfl ?_
  refine e_iconst (pc := 2) (v := 0) hE ki_0 dX2_harvestsOfSeasons_2 ?_
  refine e_istore (pc := 3) (lv' := [(4, .int (0 : Int32)), (3, .int (0 : Int32)), (0, rv G a0), (1, rv G a1), (2, .int a2)]) hE dX2_harvestsOfSeasons_3 (by decide) rfl ?_
  obtain ⟨n, h⟩ := h
  refine e_sub hE [2, 3, 4, 1, 0] rfl ?_
  refine w_lp_Fl_harvestsOfSeasons_5 hE hR f0 f1 h 
set_option maxHeartbeats 4000000 in
set_option maxRecDepth 20000 in
theorem w_De_mostGroupsWithin_38 {l : Launch} {G : Gs} {d : Nat} {E : EE} {a1 : Int32} {a2 : Int32} {Q : Int32 → Mm → Prop} (hE : Mach l G RX1 cX1_mostGroupsWithin 5 (d + 1) E) (hR : RtI cX1_mostGroupsWithin E Q)   {KB : Int32 → Int32 → Mm → Prop} {v3 : Int32} {v4 : Int32} {M : Mm} (h : k_De_mostGroupsWithin_38 a1 a2 Q KB v3 v4 M) (hKB : ∀ (v3 : Int32) (v4 : Int32)  (M : Mm), KB v3 v4 M → E 5 [(0, rv G 48), (1, .int a1), (2, .int a2), (3, .int v3), (4, .int v4)] [] M) : E 38 [(0, rv G 48), (1, .int a1), (2, .int a2), (3, .int v3), (4, .int v4)] [] M := by
  unfold k_De_mostGroupsWithin_38 at h
  obtain ⟨x38, ex38⟩ : ∃ y : Int32, y = v4 + (1 : Int32) := ⟨_, rfl⟩
  have h := h x38 ex38
  refine e_iinc (pc := 38) (k := 4) (v := x38) (lv' := [(4, .int x38), (0, rv G 48), (1, .int a1), (2, .int a2), (3, .int v3)]) hE dX1_mostGroupsWithin_38 rfl (by rw [ex38, ki_1]) (by decide) rfl ?_
  refine e_goto (pc := 41) hE 5 dX1_mostGroupsWithin_41 (by decide) ?_
  refine e_sub hE [1, 2, 3, 4, 0] rfl ?_
  exact hKB _ _ _ h
set_option maxHeartbeats 4000000 in
set_option maxRecDepth 20000 in
theorem w_De_mostGroupsWithin_5 {l : Launch} {G : Gs} {d : Nat} {E : EE} {a1 : Int32} {a2 : Int32} {Q : Int32 → Mm → Prop} (hE : Mach l G RX1 cX1_mostGroupsWithin 5 (d + 1) E) (hR : RtI cX1_mostGroupsWithin E Q)   {KB : Int32 → Int32 → Mm → Prop} {v3 : Int32} {v4 : Int32} {M : Mm} (h : k_De_mostGroupsWithin_5 a1 a2 Q KB v3 v4 M) (hKB : ∀ (v3 : Int32) (v4 : Int32)  (M : Mm), KB v3 v4 M → E 5 [(0, rv G 48), (1, .int a1), (2, .int a2), (3, .int v3), (4, .int v4)] [] M) : E 5 [(0, rv G 48), (1, .int a1), (2, .int a2), (3, .int v3), (4, .int v4)] [] M := by
  unfold k_De_mostGroupsWithin_5 at h
  refine e_iload (pc := 5) hE 4 rfl dX1_mostGroupsWithin_5 ?_
  refine e_iload_n (pc := 7) hE rfl 2 rfl dX1_mostGroupsWithin_7 ?_
  refine e_icmp_ge (pc := 8) hE 44 dX1_mostGroupsWithin_8 (by decide) (fun c0 => ?_) (fun c0 => ?_)
  · have h := h.1 c0
    refine e_iload_n (pc := 44) hE rfl 3 rfl dX1_mostGroupsWithin_44 ?_
    exact hR dX1_mostGroupsWithin_45 h
  · have h := h.2 c0
    refine e_iload_n (pc := 11) hE rfl 1 rfl dX1_mostGroupsWithin_11 ?_
    refine e_iload (pc := 12) hE 4 rfl dX1_mostGroupsWithin_12 ?_
    refine cN_B_hasBit (pc := 14) (d := d + 0) hE (t_B_hasBit (d := d)  h) tn_867 (Nat.le_of_ble_eq_true rfl) dX1_mostGroupsWithin_14 (fun r14 M14 h => ?_)
    refine e_if_eq (pc := 17) hE 38 dX1_mostGroupsWithin_17 (by decide) (fun c0 => ?_) (fun c0 => ?_)
    · have h := h.1 c0
      exact w_De_mostGroupsWithin_38 hE hR h hKB
    · have h := h.2 c0
      refine e_iload_n (pc := 20) hE rfl 3 rfl dX1_mostGroupsWithin_20 ?_
      refine e_aload_n (pc := 21) hE rfl 0 rfl dX1_mostGroupsWithin_21 ?_
      refine g_Debts_groups (pc := 22) hE tw_308 dX1_mostGroupsWithin_22 ?_
      refine e_iload_n (pc := 25) hE rfl 1 rfl dX1_mostGroupsWithin_25 ?_
      refine e_iconst (pc := 26) (v := 1) hE ki_1 dX1_mostGroupsWithin_26 ?_
      refine e_iload (pc := 27) hE 4 rfl dX1_mostGroupsWithin_27 ?_
      refine e_ishl (pc := 29) hE dX1_mostGroupsWithin_29 ?_
      refine e_iconst (pc := 30) (v := -1) hE ki_m1 dX1_mostGroupsWithin_30 ?_
      refine e_ixor (pc := 31) hE dX1_mostGroupsWithin_31 ?_
      refine e_iand (pc := 32) hE dX1_mostGroupsWithin_32 ?_
      refine e_iald (pc := 33) hE ar_50 h.1 dX1_mostGroupsWithin_33 ?_
      have h := h.2
      refine e_mmax (pc := 34) hE (by omega) tw_859 tw_maxS tw_MathI tw_maxC (Nat.le_of_ble_eq_true rfl) dX1_mostGroupsWithin_34 ?_
      refine e_topi (fun x37 ex37 => ?_)
      have h := h x37 ex37
      refine e_istore_n (pc := 37) (lv' := [(3, .int x37), (0, rv G 48), (1, .int a1), (2, .int a2), (4, .int v4)]) hE dX1_mostGroupsWithin_37 rfl (by decide) rfl ?_
      refine e_sub hE [1, 2, 3, 0, 4] rfl ?_
      exact w_De_mostGroupsWithin_38 hE hR h hKB
set_option maxHeartbeats 4000000 in
set_option maxRecDepth 20000 in
theorem w_lp_De_mostGroupsWithin_5 {l : Launch} {G : Gs} {d : Nat} {E : EE} {a1 : Int32} {a2 : Int32} {Q : Int32 → Mm → Prop} (hE : Mach l G RX1 cX1_mostGroupsWithin 5 (d + 1) E) (hR : RtI cX1_mostGroupsWithin E Q)    {n : Nat} {v3 : Int32} {v4 : Int32} {M : Mm} (h : lp_De_mostGroupsWithin_5 a1 a2 Q n v3 v4 M)  : E 5 [(0, rv G 48), (1, .int a1), (2, .int a2), (3, .int v3), (4, .int v4)] [] M := by
  have key : ∀ (n : Nat) (v3 : Int32) (v4 : Int32) (M : Mm), lp_De_mostGroupsWithin_5 a1 a2 Q n v3 v4 M → E 5 [(0, rv G 48), (1, .int a1), (2, .int a2), (3, .int v3), (4, .int v4)] [] M := by
    intro n
    induction n with
    | zero => intro v3 v4 M h; exact h.elim
    | succ n ih => intro v3 v4 M h; exact w_De_mostGroupsWithin_5 hE hR  (show k_De_mostGroupsWithin_5 a1 a2 Q (lp_De_mostGroupsWithin_5 a1 a2 Q n)  v3 v4 M from h) ih 
  exact key n _ _ _ h
set_option maxHeartbeats 4000000 in
set_option maxRecDepth 20000 in
theorem t_De_mostGroupsWithin {l : Launch} {G : Gs} {d : Nat} {a1 : Int32} {a2 : Int32} {M : Mm} {Q : Int32 → Mm → Prop}  (h : wp_De_mostGroupsWithin a1 a2 M Q) : CtI l G (d + 1) yX1_mostGroupsWithin cX1_mostGroupsWithin 5 (some .int) [rv G 48, .int a1, .int a2] M Q := by
  refine CtI.mk (by decide) rfl (Nat.le_of_ble_eq_true rfl) (fun E hE hR => ?_)
  show E 0 [(0, rv G 48), (1, .int a1), (2, .int a2)] [] M
  unfold wp_De_mostGroupsWithin at h
  refine e_iconst (pc := 0) (v := 0) hE ki_0 dX1_mostGroupsWithin_0 ?_
  refine e_istore_n (pc := 1) (lv' := [(3, .int (0 : Int32)), (0, rv G 48), (1, .int a1), (2, .int a2)]) hE dX1_mostGroupsWithin_1 rfl (by decide) rfl ?_
  refine e_iconst (pc := 2) (v := 0) hE ki_0 dX1_mostGroupsWithin_2 ?_
  refine e_istore (pc := 3) (lv' := [(4, .int (0 : Int32)), (3, .int (0 : Int32)), (0, rv G 48), (1, .int a1), (2, .int a2)]) hE dX1_mostGroupsWithin_3 (by decide) rfl ?_
  obtain ⟨n, h⟩ := h
  refine e_sub hE [2, 3, 4, 1, 0] rfl ?_
  refine w_lp_De_mostGroupsWithin_5 hE hR  h 
set_option maxHeartbeats 4000000 in
set_option maxRecDepth 20000 in
theorem w_De_fewestPayments_98 {l : Launch} {G : Gs} {d : Nat} {E : EE} {a1 : Nat} {a2 : Int32} {Q : Int32 → Mm → Prop} (hE : Mach l G RX1 cX1_fewestPayments 7 (d + 3) E) (hR : RtI cX1_fewestPayments E Q) (f1 : isSh a1)  {KB : Int32 → Int32 → Int32 → Mm → Prop} {K106 : Int32 → Int32 → Mm → Prop} {v3 : Int32} {v4 : Int32} {v5 : Int32} {s0 : Int32} {s1 : Int32} {s2 : Int32} {M : Mm} (h : k_De_fewestPayments_98 a1 a2 Q KB K106 v3 v4 v5 s0 s1 s2 M) (hKB : ∀ (v3 : Int32) (v4 : Int32) (v5 : Int32)  (M : Mm), KB v3 v4 v5 M → E 24 [(0, rv G 48), (1, rv G a1), (2, .int a2), (3, .int v3), (4, .int v4), (5, .int v5)] [] M) (hK106 : ∀ (v3 : Int32) (v4 : Int32)  (M : Mm), K106 v3 v4 M → E 106 [(0, rv G 48), (3, .int v3), (4, .int v4)] [] M) : E 98 [(0, rv G 48), (1, rv G a1), (2, .int a2), (3, .int v3), (4, .int v4), (5, .int v5)] [.int s0, .int s1, .int s2, rv G 50] M := by
  unfold k_De_fewestPayments_98 at h
  refine e_iadd (pc := 98) hE dX1_fewestPayments_98 ?_
  refine e_topi (fun x99 ex99 => ?_)
  have h := h x99 ex99
  refine e_iast (pc := 99) hE ar_50 h.1 dX1_fewestPayments_99 ?_
  have h := h.2
  obtain ⟨x100, ex100⟩ : ∃ y : Int32, y = v5 + (1 : Int32) := ⟨_, rfl⟩
  have h := h x100 ex100
  refine e_iinc (pc := 100) (k := 5) (v := x100) (lv' := [(5, .int x100), (0, rv G 48), (1, rv G a1), (2, .int a2), (3, .int v3), (4, .int v4)]) hE dX1_fewestPayments_100 rfl (by rw [ex100, ki_1]) (by decide) rfl ?_
  refine e_goto (pc := 103) hE 24 dX1_fewestPayments_103 (by decide) ?_
  refine e_sub hE [1, 2, 3, 4, 5, 0] rfl ?_
  exact hKB _ _ _ _ h
set_option maxHeartbeats 4000000 in
set_option maxRecDepth 20000 in
theorem w_De_fewestPayments_24 {l : Launch} {G : Gs} {d : Nat} {E : EE} {a1 : Nat} {a2 : Int32} {Q : Int32 → Mm → Prop} (hE : Mach l G RX1 cX1_fewestPayments 7 (d + 3) E) (hR : RtI cX1_fewestPayments E Q) (f1 : isSh a1)  {KB : Int32 → Int32 → Int32 → Mm → Prop} {K106 : Int32 → Int32 → Mm → Prop} {v3 : Int32} {v4 : Int32} {v5 : Int32} {M : Mm} (h : k_De_fewestPayments_24 a1 a2 Q KB K106 v3 v4 v5 M) (hKB : ∀ (v3 : Int32) (v4 : Int32) (v5 : Int32)  (M : Mm), KB v3 v4 v5 M → E 24 [(0, rv G 48), (1, rv G a1), (2, .int a2), (3, .int v3), (4, .int v4), (5, .int v5)] [] M) (hK106 : ∀ (v3 : Int32) (v4 : Int32)  (M : Mm), K106 v3 v4 M → E 106 [(0, rv G 48), (3, .int v3), (4, .int v4)] [] M) : E 24 [(0, rv G 48), (1, rv G a1), (2, .int a2), (3, .int v3), (4, .int v4), (5, .int v5)] [] M := by
  unfold k_De_fewestPayments_24 at h
  refine e_iload (pc := 24) hE 5 rfl dX1_fewestPayments_24 ?_
  refine e_iload (pc := 26) hE 4 rfl dX1_fewestPayments_26 ?_
  refine e_icmp_gt (pc := 28) hE 106 dX1_fewestPayments_28 (by decide) (fun c0 => ?_) (fun c0 => ?_)
  · have h := h.1 c0
    refine e_sub hE [0, 3, 4] rfl ?_
    exact hK106 _ _ _ h
  · have h := h.2 c0
    refine e_iload (pc := 31) hE 5 rfl dX1_fewestPayments_31 ?_
    refine cN_B_firstOf (pc := 33) (d := d + 1 + 1) hE (t_B_firstOf (d := d + 1)  h) tn_861 (Nat.le_of_ble_eq_true rfl) dX1_fewestPayments_33 (fun r33 M33 h => ?_)
    refine e_istore (pc := 36) (lv' := [(6, .int r33), (0, rv G 48), (1, rv G a1), (2, .int a2), (3, .int v3), (4, .int v4), (5, .int v5)]) hE dX1_fewestPayments_36 (by decide) rfl ?_
    refine e_aload_n (pc := 38) hE rfl 1 rfl dX1_fewestPayments_38 ?_
    refine g_Debts_sums (pc := 39) hE tw_307 dX1_fewestPayments_39 ?_
    refine e_iload (pc := 42) hE 6 rfl dX1_fewestPayments_42 ?_
    refine e_aload_n (pc := 44) hE rfl 1 rfl dX1_fewestPayments_44 ?_
    refine g_Debts_sums (pc := 45) hE tw_307 dX1_fewestPayments_45 ?_
    refine e_iload (pc := 48) hE 6 rfl dX1_fewestPayments_48 ?_
    refine e_iconst (pc := 50) (v := 1) hE ki_1 dX1_fewestPayments_50 ?_
    refine e_iload (pc := 51) hE 0 rfl dX1_fewestPayments_51 ?_
    refine e_ishl (pc := 53) hE dX1_fewestPayments_53 ?_
    refine e_iconst (pc := 54) (v := -1) hE ki_m1 dX1_fewestPayments_54 ?_
    refine e_ixor (pc := 55) hE dX1_fewestPayments_55 ?_
    refine e_iand (pc := 56) hE dX1_fewestPayments_56 ?_
    refine e_lald (pc := 57) hE ar_49 h.1 dX1_fewestPayments_57 ?_
    have h := h.2
    refine e_aload_n (pc := 58) hE rfl 2 rfl dX1_fewestPayments_58 ?_
    refine e_iload_n (pc := 59) hE rfl 3 rfl dX1_fewestPayments_59 ?_
    refine e_iload (pc := 60) hE 0 rfl dX1_fewestPayments_60 ?_
    refine c_Sh_valueAt (pc := 62) (d := d + 2) hE (t_Sh_valueAt (d := d) f1 h) (sh_kd f1) tw_862 (Nat.le_of_ble_eq_true rfl) dX1_fewestPayments_62 (fun r62 M62 h => ?_)
    refine e_i2l (pc := 65) hE dX1_fewestPayments_65 ?_
    refine e_ladd (pc := 66) hE dX1_fewestPayments_66 ?_
    refine e_topl (fun x67 ex67 => ?_)
    have h := h x67 ex67
    refine e_last (pc := 67) hE ar_49 h.1 dX1_fewestPayments_67 ?_
    have h := h.2
    refine e_aload_n (pc := 68) hE rfl 1 rfl dX1_fewestPayments_68 ?_
    refine g_Debts_groups (pc := 69) hE tw_308 dX1_fewestPayments_69 ?_
    refine e_iload (pc := 72) hE 6 rfl dX1_fewestPayments_72 ?_
    refine e_aload_n (pc := 74) hE rfl 1 rfl dX1_fewestPayments_74 ?_
    refine e_iload (pc := 75) hE 6 rfl dX1_fewestPayments_75 ?_
    refine e_iload_n (pc := 77) hE rfl 4 rfl dX1_fewestPayments_77 ?_
    refine c_De_mostGroupsWithin (pc := 78) (d := d + 1 + 1) hE (t_De_mostGroupsWithin (d := d + 1)  h) tw_863 (Nat.le_of_ble_eq_true rfl) dX1_fewestPayments_78 (fun r78 M78 h => ?_)
    refine e_aload_n (pc := 81) hE rfl 1 rfl dX1_fewestPayments_81 ?_
    refine g_Debts_sums (pc := 82) hE tw_307 dX1_fewestPayments_82 ?_
    refine e_iload (pc := 85) hE 6 rfl dX1_fewestPayments_85 ?_
    refine e_lald (pc := 87) hE ar_49 h.1 dX1_fewestPayments_87 ?_
    have h := h.2
    refine e_lconst (pc := 88) (v := 0) hE kl_0 dX1_fewestPayments_88 ?_
    refine e_lcmp (pc := 89) hE dX1_fewestPayments_89 ?_
    refine e_if_ne (pc := 90) hE 97 dX1_fewestPayments_90 (by decide) (fun c0 => ?_) (fun c0 => ?_)
    · have h := h.1 c0
      refine e_iconst (pc := 97) (v := 0) hE ki_0 dX1_fewestPayments_97 ?_
      refine e_sub hE [1, 2, 3, 4, 5, 6] rfl ?_
      exact w_De_fewestPayments_98 hE hR f1 h hKB hK106
    · have h := h.2 c0
      refine e_iconst (pc := 93) (v := 1) hE ki_1 dX1_fewestPayments_93 ?_
      refine e_goto (pc := 94) hE 98 dX1_fewestPayments_94 (by decide) ?_
      refine e_sub hE [1, 2, 3, 4, 5, 6] rfl ?_
      exact w_De_fewestPayments_98 hE hR f1 h hKB hK106
set_option maxHeartbeats 4000000 in
set_option maxRecDepth 20000 in
theorem w_lp_De_fewestPayments_24 {l : Launch} {G : Gs} {d : Nat} {E : EE} {a1 : Nat} {a2 : Int32} {Q : Int32 → Mm → Prop} (hE : Mach l G RX1 cX1_fewestPayments 7 (d + 3) E) (hR : RtI cX1_fewestPayments E Q) (f1 : isSh a1)  {K106 : Int32 → Int32 → Mm → Prop} {n : Nat} {v3 : Int32} {v4 : Int32} {v5 : Int32} {M : Mm} (h : lp_De_fewestPayments_24 a1 a2 Q K106 n v3 v4 v5 M) (hK106 : ∀ (v3 : Int32) (v4 : Int32)  (M : Mm), K106 v3 v4 M → E 106 [(0, rv G 48), (3, .int v3), (4, .int v4)] [] M) : E 24 [(0, rv G 48), (1, rv G a1), (2, .int a2), (3, .int v3), (4, .int v4), (5, .int v5)] [] M := by
  have key : ∀ (n : Nat) (v3 : Int32) (v4 : Int32) (v5 : Int32) (M : Mm), lp_De_fewestPayments_24 a1 a2 Q K106 n v3 v4 v5 M → E 24 [(0, rv G 48), (1, rv G a1), (2, .int a2), (3, .int v3), (4, .int v4), (5, .int v5)] [] M := by
    intro n
    induction n with
    | zero => intro v3 v4 v5 M h; exact h.elim
    | succ n ih => intro v3 v4 v5 M h; exact w_De_fewestPayments_24 hE hR f1 (show k_De_fewestPayments_24 a1 a2 Q (lp_De_fewestPayments_24 a1 a2 Q K106 n) K106 v3 v4 v5 M from h) ih hK106
  exact key n _ _ _ _ h
set_option maxHeartbeats 4000000 in
set_option maxRecDepth 20000 in
theorem t_De_fewestPayments {l : Launch} {G : Gs} {d : Nat} {a1 : Nat} {a2 : Int32} {M : Mm} {Q : Int32 → Mm → Prop} (f1 : isSh a1) (h : wp_De_fewestPayments a1 a2 M Q) : CtI l G (d + 3) yX1_fewestPayments cX1_fewestPayments 7 (some .int) [rv G 48, rv G a1, .int a2] M Q := by
  refine CtI.mk (by decide) rfl (Nat.le_of_ble_eq_true rfl) (fun E hE hR => ?_)
  show E 0 [(0, rv G 48), (1, rv G a1), (2, .int a2)] [] M
  unfold wp_De_fewestPayments at h
  refine e_iconst (pc := 0) (v := 5) hE ki_5 dX1_fewestPayments_0 ?_
  refine e_iconst (pc := 1) (v := 0) hE ki_0 dX1_fewestPayments_1 ?_
  refine e_aload_n (pc := 2) hE rfl 1 rfl dX1_fewestPayments_2 ?_
  refine e_iload_n (pc := 3) hE rfl 2 rfl dX1_fewestPayments_3 ?_
  refine c_Sh_sizeOf (pc := 4) (d := d + 1 + 1) hE (t_Sh_sizeOf (d := d + 1) f1 h) (sh_kd f1) tw_858 (Nat.le_of_ble_eq_true rfl) dX1_fewestPayments_4 (fun r4 M4 h => ?_)
  refine e_mmax (pc := 7) hE (by omega) tw_859 tw_maxS tw_MathI tw_maxC (Nat.le_of_ble_eq_true rfl) dX1_fewestPayments_7 ?_
  refine e_mmin (pc := 10) hE (by omega) tw_860 tw_minS tw_MathI tw_minC (Nat.le_of_ble_eq_true rfl) dX1_fewestPayments_10 ?_
  refine e_topi (fun x13 ex13 => ?_)
  have h := h x13 ex13
  refine e_istore_n (pc := 13) (lv' := [(3, .int x13), (0, rv G 48), (1, rv G a1), (2, .int a2)]) hE dX1_fewestPayments_13 rfl (by decide) rfl ?_
  refine e_iconst (pc := 14) (v := 1) hE ki_1 dX1_fewestPayments_14 ?_
  refine e_iload_n (pc := 15) hE rfl 0 rfl dX1_fewestPayments_15 ?_
  refine e_ishl (pc := 16) hE dX1_fewestPayments_16 ?_
  refine e_iconst (pc := 17) (v := 1) hE ki_1 dX1_fewestPayments_17 ?_
  refine e_isub (pc := 18) hE dX1_fewestPayments_18 ?_
  refine e_topi (fun x19 ex19 => ?_)
  have h := h x19 ex19
  refine e_istore (pc := 19) (lv' := [(4, .int x19), (3, .int x13), (0, rv G 48), (1, rv G a1), (2, .int a2)]) hE dX1_fewestPayments_19 (by decide) rfl ?_
  refine e_iconst (pc := 21) (v := 1) hE ki_1 dX1_fewestPayments_21 ?_
  refine e_istore (pc := 22) (lv' := [(5, .int (1 : Int32)), (4, .int x19), (3, .int x13), (0, rv G 48), (1, rv G a1), (2, .int a2)]) hE dX1_fewestPayments_22 (by decide) rfl ?_
  obtain ⟨n, h⟩ := h
  refine e_sub hE [3, 4, 5, 2, 1, 0] rfl ?_
  refine w_lp_De_fewestPayments_24 hE hR f1 h (fun v3 v4 M h => ?_)
  refine e_iload_n (pc := 106) hE rfl 1 rfl dX1_fewestPayments_106 ?_
  refine e_aload_n (pc := 107) hE rfl 0 rfl dX1_fewestPayments_107 ?_
  refine g_Debts_groups (pc := 108) hE tw_308 dX1_fewestPayments_108 ?_
  refine e_iload (pc := 111) hE 2 rfl dX1_fewestPayments_111 ?_
  refine e_iald (pc := 113) hE ar_50 h.1 dX1_fewestPayments_113 ?_
  have h := h.2
  refine e_isub (pc := 114) hE dX1_fewestPayments_114 ?_
  exact hR dX1_fewestPayments_115 h
set_option maxHeartbeats 4000000 in
set_option maxRecDepth 20000 in
theorem w_Ch_countWaits_4 {l : Launch} {G : Gs} {d : Nat} {E : EE} {a0 : Nat} {Q : Int32 → Mm → Prop} (hE : Mach l G RX0 cX0_countWaits 3 (d + 1) E) (hR : RtI cX0_countWaits E Q) (f0 : isCh a0)  {KB : Int32 → Int32 → Mm → Prop} {v1 : Int32} {v2 : Int32} {M : Mm} (h : k_Ch_countWaits_4 a0 Q KB v1 v2 M) (hKB : ∀ (v1 : Int32) (v2 : Int32)  (M : Mm), KB v1 v2 M → E 4 [(0, rv G a0), (1, .int v1), (2, .int v2)] [] M) : E 4 [(0, rv G a0), (1, .int v1), (2, .int v2)] [] M := by
  unfold k_Ch_countWaits_4 at h
  refine e_iload_n (pc := 4) hE rfl 2 rfl dX0_countWaits_4 ?_
  refine e_aload_n (pc := 5) hE rfl 0 rfl dX0_countWaits_5 ?_
  refine g_Chart_arms (pc := 6) hE (ch_kd f0) tw_153 dX0_countWaits_6 ?_
  refine e_icmp_ge (pc := 9) hE 30 dX0_countWaits_9 (by decide) (fun c0 => ?_) (fun c0 => ?_)
  · have h := h.1 c0
    refine e_iload_n (pc := 30) hE rfl 1 rfl dX0_countWaits_30 ?_
    exact hR dX0_countWaits_31 h
  · have h := h.2 c0
    refine e_iload_n (pc := 12) hE rfl 1 rfl dX0_countWaits_12 ?_
    refine e_aload_n (pc := 13) hE rfl 0 rfl dX0_countWaits_13 ?_
    refine g_Chart_waits (pc := 14) hE (ch_kd f0) tw_147 dX0_countWaits_14 ?_
    refine e_iload_n (pc := 17) hE rfl 2 rfl dX0_countWaits_17 ?_
    refine e_iald (pc := 18) hE (ch_waits f0) h.1 dX0_countWaits_18 ?_
    have h := h.2
    refine c_J_bitCount (pc := 19) (d := d + 0) hE (t_J_bitCount (d := d)  h) tw_621 (Nat.le_of_ble_eq_true rfl) dX0_countWaits_19 (fun r19 M19 h => ?_)
    refine e_iadd (pc := 22) hE dX0_countWaits_22 ?_
    refine e_topi (fun x23 ex23 => ?_)
    have h := h x23 ex23
    refine e_istore_n (pc := 23) (lv' := [(1, .int x23), (0, rv G a0), (2, .int v2)]) hE dX0_countWaits_23 rfl (by decide) rfl ?_
    obtain ⟨x24, ex24⟩ : ∃ y : Int32, y = v2 + (1 : Int32) := ⟨_, rfl⟩
    have h := h x24 ex24
    refine e_iinc (pc := 24) (k := 2) (v := x24) (lv' := [(2, .int x24), (1, .int x23), (0, rv G a0)]) hE dX0_countWaits_24 rfl (by rw [ex24, ki_1]) (by decide) rfl ?_
    refine e_goto (pc := 27) hE 4 dX0_countWaits_27 (by decide) ?_
    refine e_sub hE [2, 1, 0] rfl ?_
    exact hKB _ _ _ h
set_option maxHeartbeats 4000000 in
set_option maxRecDepth 20000 in
theorem w_lp_Ch_countWaits_4 {l : Launch} {G : Gs} {d : Nat} {E : EE} {a0 : Nat} {Q : Int32 → Mm → Prop} (hE : Mach l G RX0 cX0_countWaits 3 (d + 1) E) (hR : RtI cX0_countWaits E Q) (f0 : isCh a0)   {n : Nat} {v1 : Int32} {v2 : Int32} {M : Mm} (h : lp_Ch_countWaits_4 a0 Q n v1 v2 M)  : E 4 [(0, rv G a0), (1, .int v1), (2, .int v2)] [] M := by
  have key : ∀ (n : Nat) (v1 : Int32) (v2 : Int32) (M : Mm), lp_Ch_countWaits_4 a0 Q n v1 v2 M → E 4 [(0, rv G a0), (1, .int v1), (2, .int v2)] [] M := by
    intro n
    induction n with
    | zero => intro v1 v2 M h; exact h.elim
    | succ n ih => intro v1 v2 M h; exact w_Ch_countWaits_4 hE hR f0 (show k_Ch_countWaits_4 a0 Q (lp_Ch_countWaits_4 a0 Q n)  v1 v2 M from h) ih 
  exact key n _ _ _ h
set_option maxHeartbeats 4000000 in
set_option maxRecDepth 20000 in
theorem t_Ch_countWaits {l : Launch} {G : Gs} {d : Nat} {a0 : Nat} {M : Mm} {Q : Int32 → Mm → Prop} (f0 : isCh a0) (h : wp_Ch_countWaits a0 M Q) : CtI l G (d + 1) yX0_countWaits cX0_countWaits 3 (some .int) [rv G a0] M Q := by
  refine CtI.mk (by decide) rfl (Nat.le_of_ble_eq_true rfl) (fun E hE hR => ?_)
  show E 0 [(0, rv G a0)] [] M
  unfold wp_Ch_countWaits at h
  refine e_iconst (pc := 0) (v := 0) hE ki_0 dX0_countWaits_0 ?_
  refine e_istore_n (pc := 1) (lv' := [(1, .int (0 : Int32)), (0, rv G a0)]) hE dX0_countWaits_1 rfl (by decide) rfl ?_
  refine e_iconst (pc := 2) (v := 0) hE ki_0 dX0_countWaits_2 ?_
  refine e_istore_n (pc := 3) (lv' := [(2, .int (0 : Int32)), (1, .int (0 : Int32)), (0, rv G a0)]) hE dX0_countWaits_3 rfl (by decide) rfl ?_
  obtain ⟨n, h⟩ := h
  refine e_sub hE [2, 1, 0] rfl ?_
  refine w_lp_Ch_countWaits_4 hE hR f0 h 
set_option maxHeartbeats 4000000 in
set_option maxRecDepth 20000 in
theorem w_Of_waitingForThemselves_73 {l : Launch} {G : Gs} {d : Nat} {E : EE}  {Q : Int32 → Mm → Prop} (hE : Mach l G RX4 cX4_waitingForThemselves 3 (d + 1) E) (hR : RtI cX4_waitingForThemselves E Q)   {KB : Int32 → Int32 → Mm → Prop} {K81 : Int32 → Mm → Prop} {v1 : Int32} {v2 : Int32} {s0 : Int32} {s1 : Int32} {s2 : Int32} {M : Mm} (h : k_Of_waitingForThemselves_73 Q KB K81 v1 v2 s0 s1 s2 M) (hKB : ∀ (v1 : Int32) (v2 : Int32)  (M : Mm), KB v1 v2 M → E 32 [(0, rv G 51), (1, .int v1), (2, .int v2)] [] M) (hK81 : ∀ (v1 : Int32)  (M : Mm), K81 v1 M → E 81 [(0, rv G 51), (1, .int v1)] [] M) : E 73 [(0, rv G 51), (1, .int v1), (2, .int v2)] [.int s0, .int s1, .int s2, rv G 52] M := by
  unfold k_Of_waitingForThemselves_73 at h
  refine e_ior (pc := 73) hE dX4_waitingForThemselves_73 ?_
  refine e_topi (fun x74 ex74 => ?_)
  have h := h x74 ex74
  refine e_iast (pc := 74) hE ar_52 h.1 dX4_waitingForThemselves_74 ?_
  have h := h.2
  obtain ⟨x75, ex75⟩ : ∃ y : Int32, y = v2 + (1 : Int32) := ⟨_, rfl⟩
  have h := h x75 ex75
  refine e_iinc (pc := 75) (k := 2) (v := x75) (lv' := [(2, .int x75), (0, rv G 51), (1, .int v1)]) hE dX4_waitingForThemselves_75 rfl (by rw [ex75, ki_1]) (by decide) rfl ?_
  refine e_goto (pc := 78) hE 32 dX4_waitingForThemselves_78 (by decide) ?_
  refine e_sub hE [1, 2, 0] rfl ?_
  exact hKB _ _ _ h
set_option maxHeartbeats 4000000 in
set_option maxRecDepth 20000 in
theorem w_Of_waitingForThemselves_32 {l : Launch} {G : Gs} {d : Nat} {E : EE}  {Q : Int32 → Mm → Prop} (hE : Mach l G RX4 cX4_waitingForThemselves 3 (d + 1) E) (hR : RtI cX4_waitingForThemselves E Q)   {KB : Int32 → Int32 → Mm → Prop} {K81 : Int32 → Mm → Prop} {v1 : Int32} {v2 : Int32} {M : Mm} (h : k_Of_waitingForThemselves_32 Q KB K81 v1 v2 M) (hKB : ∀ (v1 : Int32) (v2 : Int32)  (M : Mm), KB v1 v2 M → E 32 [(0, rv G 51), (1, .int v1), (2, .int v2)] [] M) (hK81 : ∀ (v1 : Int32)  (M : Mm), K81 v1 M → E 81 [(0, rv G 51), (1, .int v1)] [] M) : E 32 [(0, rv G 51), (1, .int v1), (2, .int v2)] [] M := by
  unfold k_Of_waitingForThemselves_32 at h
  refine e_iload_n (pc := 32) hE rfl 2 rfl dX4_waitingForThemselves_32 ?_
  refine e_aload_n (pc := 33) hE rfl 0 rfl dX4_waitingForThemselves_33 ?_
  refine g_Offices_chart (pc := 34) hE tw_321 dX4_waitingForThemselves_34 ?_
  refine g_Chart_arms (pc := 37) hE (ch_kd ch20) tw_156 dX4_waitingForThemselves_37 ?_
  refine e_icmp_ge (pc := 40) hE 81 dX4_waitingForThemselves_40 (by decide) (fun c0 => ?_) (fun c0 => ?_)
  · have h := h.1 c0
    refine e_sub hE [0, 1] rfl ?_
    exact hK81 _ _ h
  · have h := h.2 c0
    refine e_aload_n (pc := 43) hE rfl 0 rfl dX4_waitingForThemselves_43 ?_
    refine g_Offices_reach (pc := 44) hE tw_322 dX4_waitingForThemselves_44 ?_
    refine e_iload_n (pc := 47) hE rfl 2 rfl dX4_waitingForThemselves_47 ?_
    refine e_dup2 (pc := 48) hE rfl rfl dX4_waitingForThemselves_48 ?_
    refine e_iald (pc := 49) hE ar_52 h.1 dX4_waitingForThemselves_49 ?_
    have h := h.2
    refine e_aload_n (pc := 50) hE rfl 0 rfl dX4_waitingForThemselves_50 ?_
    refine g_Offices_reach (pc := 51) hE tw_322 dX4_waitingForThemselves_51 ?_
    refine e_iload_n (pc := 54) hE rfl 2 rfl dX4_waitingForThemselves_54 ?_
    refine e_iald (pc := 55) hE ar_52 h.1 dX4_waitingForThemselves_55 ?_
    have h := h.2
    refine e_iload_n (pc := 56) hE rfl 1 rfl dX4_waitingForThemselves_56 ?_
    refine cN_B_hasBit (pc := 57) (d := d + 0) hE (t_B_hasBit (d := d)  h) tn_881 (Nat.le_of_ble_eq_true rfl) dX4_waitingForThemselves_57 (fun r57 M57 h => ?_)
    refine e_if_eq (pc := 60) hE 72 dX4_waitingForThemselves_60 (by decide) (fun c0 => ?_) (fun c0 => ?_)
    · have h := h.1 c0
      refine e_iconst (pc := 72) (v := 0) hE ki_0 dX4_waitingForThemselves_72 ?_
      exact w_Of_waitingForThemselves_73 hE hR h hKB hK81
    · have h := h.2 c0
      refine e_aload_n (pc := 63) hE rfl 0 rfl dX4_waitingForThemselves_63 ?_
      refine g_Offices_reach (pc := 64) hE tw_322 dX4_waitingForThemselves_64 ?_
      refine e_iload_n (pc := 67) hE rfl 1 rfl dX4_waitingForThemselves_67 ?_
      refine e_iald (pc := 68) hE ar_52 h.1 dX4_waitingForThemselves_68 ?_
      have h := h.2
      refine e_goto (pc := 69) hE 73 dX4_waitingForThemselves_69 (by decide) ?_
      exact w_Of_waitingForThemselves_73 hE hR h hKB hK81
set_option maxHeartbeats 4000000 in
set_option maxRecDepth 20000 in
theorem w_lp_Of_waitingForThemselves_32 {l : Launch} {G : Gs} {d : Nat} {E : EE}  {Q : Int32 → Mm → Prop} (hE : Mach l G RX4 cX4_waitingForThemselves 3 (d + 1) E) (hR : RtI cX4_waitingForThemselves E Q)   {K81 : Int32 → Mm → Prop} {n : Nat} {v1 : Int32} {v2 : Int32} {M : Mm} (h : lp_Of_waitingForThemselves_32 Q K81 n v1 v2 M) (hK81 : ∀ (v1 : Int32)  (M : Mm), K81 v1 M → E 81 [(0, rv G 51), (1, .int v1)] [] M) : E 32 [(0, rv G 51), (1, .int v1), (2, .int v2)] [] M := by
  have key : ∀ (n : Nat) (v1 : Int32) (v2 : Int32) (M : Mm), lp_Of_waitingForThemselves_32 Q K81 n v1 v2 M → E 32 [(0, rv G 51), (1, .int v1), (2, .int v2)] [] M := by
    intro n
    induction n with
    | zero => intro v1 v2 M h; exact h.elim
    | succ n ih => intro v1 v2 M h; exact w_Of_waitingForThemselves_32 hE hR  (show k_Of_waitingForThemselves_32  Q (lp_Of_waitingForThemselves_32 Q K81 n) K81 v1 v2 M from h) ih hK81
  exact key n _ _ _ h
set_option maxHeartbeats 4000000 in
set_option maxRecDepth 20000 in
theorem w_Of_waitingForThemselves_19 {l : Launch} {G : Gs} {d : Nat} {E : EE}  {Q : Int32 → Mm → Prop} (hE : Mach l G RX4 cX4_waitingForThemselves 3 (d + 1) E) (hR : RtI cX4_waitingForThemselves E Q)   {KB : Int32 → Mm → Prop} {K87 : Mm → Prop} {v1 : Int32} {M : Mm} (h : k_Of_waitingForThemselves_19 Q KB K87 v1 M) (hKB : ∀ (v1 : Int32)  (M : Mm), KB v1 M → E 19 [(0, rv G 51), (1, .int v1)] [] M) (hK87 : ∀  (M : Mm), K87 M → E 87 [(0, rv G 51)] [] M) : E 19 [(0, rv G 51), (1, .int v1)] [] M := by
  unfold k_Of_waitingForThemselves_19 at h
  refine e_iload_n (pc := 19) hE rfl 1 rfl dX4_waitingForThemselves_19 ?_
  refine e_aload_n (pc := 20) hE rfl 0 rfl dX4_waitingForThemselves_20 ?_
  refine g_Offices_chart (pc := 21) hE tw_321 dX4_waitingForThemselves_21 ?_
  refine g_Chart_arms (pc := 24) hE (ch_kd ch20) tw_156 dX4_waitingForThemselves_24 ?_
  refine e_icmp_ge (pc := 27) hE 87 dX4_waitingForThemselves_27 (by decide) (fun c0 => ?_) (fun c0 => ?_)
  · have h := h.1 c0
    refine e_sub hE [0] rfl ?_
    exact hK87 _ h
  · have h := h.2 c0
    refine e_iconst (pc := 30) (v := 0) hE ki_0 dX4_waitingForThemselves_30 ?_
    refine e_istore_n (pc := 31) (lv' := [(2, .int (0 : Int32)), (0, rv G 51), (1, .int v1)]) hE dX4_waitingForThemselves_31 rfl (by decide) rfl ?_
    obtain ⟨n, h⟩ := h
    refine e_sub hE [1, 2, 0] rfl ?_
    refine w_lp_Of_waitingForThemselves_32 hE hR  h (fun v1 M h => ?_)
    obtain ⟨x81, ex81⟩ : ∃ y : Int32, y = v1 + (1 : Int32) := ⟨_, rfl⟩
    have h := h x81 ex81
    refine e_iinc (pc := 81) (k := 1) (v := x81) (lv' := [(1, .int x81), (0, rv G 51)]) hE dX4_waitingForThemselves_81 rfl (by rw [ex81, ki_1]) (by decide) rfl ?_
    refine e_goto (pc := 84) hE 19 dX4_waitingForThemselves_84 (by decide) ?_
    refine e_sub hE [1, 0] rfl ?_
    exact hKB _ _ h
set_option maxHeartbeats 4000000 in
set_option maxRecDepth 20000 in
theorem w_lp_Of_waitingForThemselves_19 {l : Launch} {G : Gs} {d : Nat} {E : EE}  {Q : Int32 → Mm → Prop} (hE : Mach l G RX4 cX4_waitingForThemselves 3 (d + 1) E) (hR : RtI cX4_waitingForThemselves E Q)   {K87 : Mm → Prop} {n : Nat} {v1 : Int32} {M : Mm} (h : lp_Of_waitingForThemselves_19 Q K87 n v1 M) (hK87 : ∀  (M : Mm), K87 M → E 87 [(0, rv G 51)] [] M) : E 19 [(0, rv G 51), (1, .int v1)] [] M := by
  have key : ∀ (n : Nat) (v1 : Int32) (M : Mm), lp_Of_waitingForThemselves_19 Q K87 n v1 M → E 19 [(0, rv G 51), (1, .int v1)] [] M := by
    intro n
    induction n with
    | zero => intro v1 M h; exact h.elim
    | succ n ih => intro v1 M h; exact w_Of_waitingForThemselves_19 hE hR  (show k_Of_waitingForThemselves_19  Q (lp_Of_waitingForThemselves_19 Q K87 n) K87 v1 M from h) ih hK87
  exact key n _ _ h
set_option maxHeartbeats 4000000 in
set_option maxRecDepth 20000 in
theorem w_Of_waitingForThemselves_91 {l : Launch} {G : Gs} {d : Nat} {E : EE}  {Q : Int32 → Mm → Prop} (hE : Mach l G RX4 cX4_waitingForThemselves 3 (d + 1) E) (hR : RtI cX4_waitingForThemselves E Q)   {KB : Int32 → Int32 → Mm → Prop} {v1 : Int32} {v2 : Int32} {M : Mm} (h : k_Of_waitingForThemselves_91 Q KB v1 v2 M) (hKB : ∀ (v1 : Int32) (v2 : Int32)  (M : Mm), KB v1 v2 M → E 91 [(0, rv G 51), (1, .int v1), (2, .int v2)] [] M) : E 91 [(0, rv G 51), (1, .int v1), (2, .int v2)] [] M := by
  unfold k_Of_waitingForThemselves_91 at h
  refine e_iload_n (pc := 91) hE rfl 2 rfl dX4_waitingForThemselves_91 ?_
  refine e_aload_n (pc := 92) hE rfl 0 rfl dX4_waitingForThemselves_92 ?_
  refine g_Offices_chart (pc := 93) hE tw_321 dX4_waitingForThemselves_93 ?_
  refine g_Chart_arms (pc := 96) hE (ch_kd ch20) tw_156 dX4_waitingForThemselves_96 ?_
  refine e_icmp_ge (pc := 99) hE 121 dX4_waitingForThemselves_99 (by decide) (fun c0 => ?_) (fun c0 => ?_)
  · have h := h.1 c0
    refine e_iload_n (pc := 121) hE rfl 1 rfl dX4_waitingForThemselves_121 ?_
    exact hR dX4_waitingForThemselves_122 h
  · have h := h.2 c0
    refine e_iload_n (pc := 102) hE rfl 1 rfl dX4_waitingForThemselves_102 ?_
    refine e_aload_n (pc := 103) hE rfl 0 rfl dX4_waitingForThemselves_103 ?_
    refine g_Offices_reach (pc := 104) hE tw_322 dX4_waitingForThemselves_104 ?_
    refine e_iload_n (pc := 107) hE rfl 2 rfl dX4_waitingForThemselves_107 ?_
    refine e_iald (pc := 108) hE ar_52 h.1 dX4_waitingForThemselves_108 ?_
    have h := h.2
    refine e_iconst (pc := 109) (v := 1) hE ki_1 dX4_waitingForThemselves_109 ?_
    refine e_iload_n (pc := 110) hE rfl 2 rfl dX4_waitingForThemselves_110 ?_
    refine e_ishl (pc := 111) hE dX4_waitingForThemselves_111 ?_
    refine e_iand (pc := 112) hE dX4_waitingForThemselves_112 ?_
    refine e_ior (pc := 113) hE dX4_waitingForThemselves_113 ?_
    refine e_topi (fun x114 ex114 => ?_)
    have h := h x114 ex114
    refine e_istore_n (pc := 114) (lv' := [(1, .int x114), (0, rv G 51), (2, .int v2)]) hE dX4_waitingForThemselves_114 rfl (by decide) rfl ?_
    obtain ⟨x115, ex115⟩ : ∃ y : Int32, y = v2 + (1 : Int32) := ⟨_, rfl⟩
    have h := h x115 ex115
    refine e_iinc (pc := 115) (k := 2) (v := x115) (lv' := [(2, .int x115), (1, .int x114), (0, rv G 51)]) hE dX4_waitingForThemselves_115 rfl (by rw [ex115, ki_1]) (by decide) rfl ?_
    refine e_goto (pc := 118) hE 91 dX4_waitingForThemselves_118 (by decide) ?_
    refine e_sub hE [2, 1, 0] rfl ?_
    exact hKB _ _ _ h
set_option maxHeartbeats 4000000 in
set_option maxRecDepth 20000 in
theorem w_lp_Of_waitingForThemselves_91 {l : Launch} {G : Gs} {d : Nat} {E : EE}  {Q : Int32 → Mm → Prop} (hE : Mach l G RX4 cX4_waitingForThemselves 3 (d + 1) E) (hR : RtI cX4_waitingForThemselves E Q)    {n : Nat} {v1 : Int32} {v2 : Int32} {M : Mm} (h : lp_Of_waitingForThemselves_91 Q n v1 v2 M)  : E 91 [(0, rv G 51), (1, .int v1), (2, .int v2)] [] M := by
  have key : ∀ (n : Nat) (v1 : Int32) (v2 : Int32) (M : Mm), lp_Of_waitingForThemselves_91 Q n v1 v2 M → E 91 [(0, rv G 51), (1, .int v1), (2, .int v2)] [] M := by
    intro n
    induction n with
    | zero => intro v1 v2 M h; exact h.elim
    | succ n ih => intro v1 v2 M h; exact w_Of_waitingForThemselves_91 hE hR  (show k_Of_waitingForThemselves_91  Q (lp_Of_waitingForThemselves_91 Q n)  v1 v2 M from h) ih 
  exact key n _ _ _ h
set_option maxHeartbeats 4000000 in
set_option maxRecDepth 20000 in
theorem t_Of_waitingForThemselves {l : Launch} {G : Gs} {d : Nat}  {M : Mm} {Q : Int32 → Mm → Prop}  (h : wp_Of_waitingForThemselves  M Q) : CtI l G (d + 1) yX4_waitingForThemselves cX4_waitingForThemselves 3 (some .int) [rv G 51] M Q := by
  refine CtI.mk (by decide) rfl (Nat.le_of_ble_eq_true rfl) (fun E hE hR => ?_)
  show E 0 [(0, rv G 51)] [] M
  unfold wp_Of_waitingForThemselves at h
  refine e_aload_n (pc := 0) hE rfl 0 rfl dX4_waitingForThemselves_0 ?_
  refine g_Offices_chart (pc := 1) hE tw_321 dX4_waitingForThemselves_1 ?_
  refine g_Chart_waits (pc := 4) hE (ch_kd ch20) tw_148 dX4_waitingForThemselves_4 ?_
  refine e_iconst (pc := 7) (v := 0) hE ki_0 dX4_waitingForThemselves_7 ?_
  refine e_aload_n (pc := 8) hE rfl 0 rfl dX4_waitingForThemselves_8 ?_
  refine g_Offices_reach (pc := 9) hE tw_322 dX4_waitingForThemselves_9 ?_
  refine e_iconst (pc := 12) (v := 0) hE ki_0 dX4_waitingForThemselves_12 ?_
  refine e_iconst (pc := 13) (v := 5) hE ki_5 dX4_waitingForThemselves_13 ?_
  refine e_acopy (pc := 14) hE (by omega) tw_880 tw_acN tw_acS tw_acI ar_26 ar_52 h.1 h.2.1 h.2.2.1 h.2.2.2.1 h.2.2.2.2.1 (Nat.le_of_ble_eq_true rfl) dX4_waitingForThemselves_14 ?_
  have h := h.2.2.2.2.2
  refine e_iconst (pc := 17) (v := 0) hE ki_0 dX4_waitingForThemselves_17 ?_
  refine e_istore_n (pc := 18) (lv' := [(1, .int (0 : Int32)), (0, rv G 51)]) hE dX4_waitingForThemselves_18 rfl (by decide) rfl ?_
  obtain ⟨n, h⟩ := h
  refine e_sub hE [1, 0] rfl ?_
  refine w_lp_Of_waitingForThemselves_19 hE hR  h (fun M h => ?_)
  refine e_iconst (pc := 87) (v := 0) hE ki_0 dX4_waitingForThemselves_87 ?_
  refine e_istore_n (pc := 88) (lv' := [(1, .int (0 : Int32)), (0, rv G 51)]) hE dX4_waitingForThemselves_88 rfl (by decide) rfl ?_
  refine e_iconst (pc := 89) (v := 0) hE ki_0 dX4_waitingForThemselves_89 ?_
  refine e_istore_n (pc := 90) (lv' := [(2, .int (0 : Int32)), (1, .int (0 : Int32)), (0, rv G 51)]) hE dX4_waitingForThemselves_90 rfl (by decide) rfl ?_
  obtain ⟨n, h⟩ := h
  refine e_sub hE [2, 1, 0] rfl ?_
  refine w_lp_Of_waitingForThemselves_91 hE hR  h 
set_option maxHeartbeats 4000000 in
set_option maxRecDepth 20000 in
theorem t_Of_bitOf {l : Launch} {G : Gs} {d : Nat} {a0 : Int32} {M : Mm} {Q : Int64 → Mm → Prop}  (h : wp_Of_bitOf a0 M Q) : CtL l G (d + 0) yX4_bitOf cX4_bitOf 1 (some .long) [.int a0] M Q := by
  refine CtL.mk (by decide) rfl (Nat.le_of_ble_eq_true rfl) (fun E hE hR => ?_)
  show E 0 [(0, .int a0)] [] M
  unfold wp_Of_bitOf at h
  refine e_lconst (pc := 0) (v := 1) hE kl_1 dX4_bitOf_0 ?_
  refine e_bipush (pc := 1) (v := 39) hE kb_39 dX4_bitOf_1 ?_
  refine e_iload_n (pc := 3) hE rfl 0 rfl dX4_bitOf_3 ?_
  refine e_isub (pc := 4) hE dX4_bitOf_4 ?_
  refine e_lshl (pc := 5) hE dX4_bitOf_5 ?_
  exact hR dX4_bitOf_6 h
set_option maxHeartbeats 4000000 in
set_option maxRecDepth 20000 in
theorem w_Of_waitsLoosened_51 {l : Launch} {G : Gs} {d : Nat} {E : EE} {a1 : Int32} {a2 : Int32} {Q : Int64 → Mm → Prop} (hE : Mach l G RX4 cX4_waitsLoosened 6 (d + 1) E) (hR : RtL cX4_waitsLoosened E Q)   {KB : Int64 → Int32 → Mm → Prop} {v3 : Int64} {v5 : Int32} {M : Mm} (h : k_Of_waitsLoosened_51 a1 a2 Q KB v3 v5 M) (hKB : ∀ (v3 : Int64) (v5 : Int32)  (M : Mm), KB v3 v5 M → E 5 [(0, rv G 51), (1, .int a1), (2, .int a2), (3, .long v3), (5, .int v5)] [] M) : E 51 [(0, rv G 51), (1, .int a1), (2, .int a2), (3, .long v3), (5, .int v5)] [] M := by
  unfold k_Of_waitsLoosened_51 at h
  obtain ⟨x51, ex51⟩ : ∃ y : Int32, y = v5 + (1 : Int32) := ⟨_, rfl⟩
  have h := h x51 ex51
  refine e_iinc (pc := 51) (k := 4) (v := x51) (lv' := [(5, .int x51), (0, rv G 51), (1, .int a1), (2, .int a2), (3, .long v3)]) hE dX4_waitsLoosened_51 rfl (by rw [ex51, ki_1]) (by decide) rfl ?_
  refine e_goto (pc := 54) hE 5 dX4_waitsLoosened_54 (by decide) ?_
  refine e_sub hE [1, 2, 3, 4, 0] rfl ?_
  exact hKB _ _ _ h
set_option maxHeartbeats 4000000 in
set_option maxRecDepth 20000 in
theorem w_Of_waitsLoosened_5 {l : Launch} {G : Gs} {d : Nat} {E : EE} {a1 : Int32} {a2 : Int32} {Q : Int64 → Mm → Prop} (hE : Mach l G RX4 cX4_waitsLoosened 6 (d + 1) E) (hR : RtL cX4_waitsLoosened E Q)   {KB : Int64 → Int32 → Mm → Prop} {v3 : Int64} {v5 : Int32} {M : Mm} (h : k_Of_waitsLoosened_5 a1 a2 Q KB v3 v5 M) (hKB : ∀ (v3 : Int64) (v5 : Int32)  (M : Mm), KB v3 v5 M → E 5 [(0, rv G 51), (1, .int a1), (2, .int a2), (3, .long v3), (5, .int v5)] [] M) : E 5 [(0, rv G 51), (1, .int a1), (2, .int a2), (3, .long v3), (5, .int v5)] [] M := by
  unfold k_Of_waitsLoosened_5 at h
  refine e_iload (pc := 5) hE 4 rfl dX4_waitsLoosened_5 ?_
  refine e_aload_n (pc := 7) hE rfl 0 rfl dX4_waitsLoosened_7 ?_
  refine g_Offices_chart (pc := 8) hE tw_321 dX4_waitsLoosened_8 ?_
  refine g_Chart_arms (pc := 11) hE (ch_kd ch20) tw_156 dX4_waitsLoosened_11 ?_
  refine e_icmp_ge (pc := 14) hE 57 dX4_waitsLoosened_14 (by decide) (fun c0 => ?_) (fun c0 => ?_)
  · have h := h.1 c0
    refine e_lload_n (pc := 57) hE rfl 3 rfl dX4_waitsLoosened_57 ?_
    exact hR dX4_waitsLoosened_58 h
  · have h := h.2 c0
    refine e_aload_n (pc := 17) hE rfl 0 rfl dX4_waitsLoosened_17 ?_
    refine g_Offices_chart (pc := 18) hE tw_321 dX4_waitsLoosened_18 ?_
    refine g_Chart_waits (pc := 21) hE (ch_kd ch20) tw_148 dX4_waitsLoosened_21 ?_
    refine e_iload_n (pc := 24) hE rfl 1 rfl dX4_waitsLoosened_24 ?_
    refine e_iald (pc := 25) hE ar_26 h.1 dX4_waitsLoosened_25 ?_
    have h := h.2
    refine e_iload_n (pc := 26) hE rfl 2 rfl dX4_waitsLoosened_26 ?_
    refine e_iconst (pc := 27) (v := -1) hE ki_m1 dX4_waitsLoosened_27 ?_
    refine e_ixor (pc := 28) hE dX4_waitsLoosened_28 ?_
    refine e_iand (pc := 29) hE dX4_waitsLoosened_29 ?_
    refine e_iload (pc := 30) hE 4 rfl dX4_waitsLoosened_30 ?_
    refine cN_B_hasBit (pc := 32) (d := d + 0) hE (t_B_hasBit (d := d)  h) tn_881 (Nat.le_of_ble_eq_true rfl) dX4_waitsLoosened_32 (fun r32 M32 h => ?_)
    refine e_if_eq (pc := 35) hE 51 dX4_waitsLoosened_35 (by decide) (fun c0 => ?_) (fun c0 => ?_)
    · have h := h.1 c0
      exact w_Of_waitsLoosened_51 hE hR h hKB
    · have h := h.2 c0
      refine e_lload_n (pc := 38) hE rfl 3 rfl dX4_waitsLoosened_38 ?_
      refine e_bipush (pc := 39) (v := 8) hE kb_8 dX4_waitsLoosened_39 ?_
      refine e_iload_n (pc := 41) hE rfl 1 rfl dX4_waitsLoosened_41 ?_
      refine e_imul (pc := 42) hE dX4_waitsLoosened_42 ?_
      refine e_iload (pc := 43) hE 4 rfl dX4_waitsLoosened_43 ?_
      refine e_iadd (pc := 45) hE dX4_waitsLoosened_45 ?_
      refine c_Of_bitOf (pc := 46) (d := d + 0) hE (t_Of_bitOf (d := d)  h) tw_895 (Nat.le_of_ble_eq_true rfl) dX4_waitsLoosened_46 (fun r46 M46 h => ?_)
      refine e_lor (pc := 49) hE dX4_waitsLoosened_49 ?_
      refine e_topl (fun x50 ex50 => ?_)
      have h := h x50 ex50
      refine e_lstore_n (pc := 50) (lv' := [(3, .long x50), (0, rv G 51), (1, .int a1), (2, .int a2), (5, .int v5)]) hE dX4_waitsLoosened_50 rfl (by decide) rfl ?_
      refine e_sub hE [1, 2, 3, 0, 4] rfl ?_
      exact w_Of_waitsLoosened_51 hE hR h hKB
set_option maxHeartbeats 4000000 in
set_option maxRecDepth 20000 in
theorem w_lp_Of_waitsLoosened_5 {l : Launch} {G : Gs} {d : Nat} {E : EE} {a1 : Int32} {a2 : Int32} {Q : Int64 → Mm → Prop} (hE : Mach l G RX4 cX4_waitsLoosened 6 (d + 1) E) (hR : RtL cX4_waitsLoosened E Q)    {n : Nat} {v3 : Int64} {v5 : Int32} {M : Mm} (h : lp_Of_waitsLoosened_5 a1 a2 Q n v3 v5 M)  : E 5 [(0, rv G 51), (1, .int a1), (2, .int a2), (3, .long v3), (5, .int v5)] [] M := by
  have key : ∀ (n : Nat) (v3 : Int64) (v5 : Int32) (M : Mm), lp_Of_waitsLoosened_5 a1 a2 Q n v3 v5 M → E 5 [(0, rv G 51), (1, .int a1), (2, .int a2), (3, .long v3), (5, .int v5)] [] M := by
    intro n
    induction n with
    | zero => intro v3 v5 M h; exact h.elim
    | succ n ih => intro v3 v5 M h; exact w_Of_waitsLoosened_5 hE hR  (show k_Of_waitsLoosened_5 a1 a2 Q (lp_Of_waitsLoosened_5 a1 a2 Q n)  v3 v5 M from h) ih 
  exact key n _ _ _ h
set_option maxHeartbeats 4000000 in
set_option maxRecDepth 20000 in
theorem t_Of_waitsLoosened {l : Launch} {G : Gs} {d : Nat} {a1 : Int32} {a2 : Int32} {M : Mm} {Q : Int64 → Mm → Prop}  (h : wp_Of_waitsLoosened a1 a2 M Q) : CtL l G (d + 1) yX4_waitsLoosened cX4_waitsLoosened 6 (some .long) [rv G 51, .int a1, .int a2] M Q := by
  refine CtL.mk (by decide) rfl (Nat.le_of_ble_eq_true rfl) (fun E hE hR => ?_)
  show E 0 [(0, rv G 51), (1, .int a1), (2, .int a2)] [] M
  unfold wp_Of_waitsLoosened at h
  refine e_lconst (pc := 0) (v := 0) hE kl_0 dX4_waitsLoosened_0 ?_
  refine e_lstore_n (pc := 1) (lv' := [(3, .long (0 : Int64)), (0, rv G 51), (1, .int a1), (2, .int a2)]) hE dX4_waitsLoosened_1 rfl (by decide) rfl ?_
  refine e_iconst (pc := 2) (v := 0) hE ki_0 dX4_waitsLoosened_2 ?_
  refine e_istore (pc := 3) (lv' := [(5, .int (0 : Int32)), (3, .long (0 : Int64)), (0, rv G 51), (1, .int a1), (2, .int a2)]) hE dX4_waitsLoosened_3 (by decide) rfl ?_
  obtain ⟨n, h⟩ := h
  refine e_sub hE [2, 3, 4, 1, 0] rfl ?_
  refine w_lp_Of_waitsLoosened_5 hE hR  h 
set_option maxHeartbeats 4000000 in
set_option maxRecDepth 20000 in
theorem t_JL_bitCount {l : Launch} {G : Gs} {d : Nat} {a0 : Int64} {M : Mm} {Q : Int32 → Mm → Prop}  (h : wp_JL_bitCount a0 M Q) : CtI l G (d + 0) yJ13_bitCount_95d88 cJ13_bitCount_95d88 2 (some .int) [.long a0] M Q := by
  refine CtI.mk (by decide) rfl (Nat.le_of_ble_eq_true rfl) (fun E hE hR => ?_)
  show E 0 [(0, .long a0)] [] M
  unfold wp_JL_bitCount at h
  refine e_lload_n (pc := 0) hE rfl 0 rfl dJ13_bitCount_95d88_0 ?_
  refine e_lload_n (pc := 1) hE rfl 0 rfl dJ13_bitCount_95d88_1 ?_
  refine e_iconst (pc := 2) (v := 1) hE ki_1 dJ13_bitCount_95d88_2 ?_
  refine e_lushr (pc := 3) hE dJ13_bitCount_95d88_3 ?_
  refine e_ldc2 (pc := 4) hE tw_904 dJ13_bitCount_95d88_4 ?_
  refine e_land (pc := 7) hE dJ13_bitCount_95d88_7 ?_
  refine e_lsub (pc := 8) hE dJ13_bitCount_95d88_8 ?_
  refine e_topl (fun x9 ex9 => ?_)
  have h := h x9 ex9
  refine e_lstore_n (pc := 9) (lv' := [(0, .long x9)]) hE dJ13_bitCount_95d88_9 rfl (by decide) rfl ?_
  refine e_lload_n (pc := 10) hE rfl 0 rfl dJ13_bitCount_95d88_10 ?_
  refine e_ldc2 (pc := 11) hE tw_905 dJ13_bitCount_95d88_11 ?_
  refine e_land (pc := 14) hE dJ13_bitCount_95d88_14 ?_
  refine e_lload_n (pc := 15) hE rfl 0 rfl dJ13_bitCount_95d88_15 ?_
  refine e_iconst (pc := 16) (v := 2) hE ki_2 dJ13_bitCount_95d88_16 ?_
  refine e_lushr (pc := 17) hE dJ13_bitCount_95d88_17 ?_
  refine e_ldc2 (pc := 18) hE tw_905 dJ13_bitCount_95d88_18 ?_
  refine e_land (pc := 21) hE dJ13_bitCount_95d88_21 ?_
  refine e_ladd (pc := 22) hE dJ13_bitCount_95d88_22 ?_
  refine e_topl (fun x23 ex23 => ?_)
  have h := h x23 ex23
  refine e_lstore_n (pc := 23) (lv' := [(0, .long x23)]) hE dJ13_bitCount_95d88_23 rfl (by decide) rfl ?_
  refine e_lload_n (pc := 24) hE rfl 0 rfl dJ13_bitCount_95d88_24 ?_
  refine e_lload_n (pc := 25) hE rfl 0 rfl dJ13_bitCount_95d88_25 ?_
  refine e_iconst (pc := 26) (v := 4) hE ki_4 dJ13_bitCount_95d88_26 ?_
  refine e_lushr (pc := 27) hE dJ13_bitCount_95d88_27 ?_
  refine e_ladd (pc := 28) hE dJ13_bitCount_95d88_28 ?_
  refine e_ldc2 (pc := 29) hE tw_906 dJ13_bitCount_95d88_29 ?_
  refine e_land (pc := 32) hE dJ13_bitCount_95d88_32 ?_
  refine e_topl (fun x33 ex33 => ?_)
  have h := h x33 ex33
  refine e_lstore_n (pc := 33) (lv' := [(0, .long x33)]) hE dJ13_bitCount_95d88_33 rfl (by decide) rfl ?_
  refine e_lload_n (pc := 34) hE rfl 0 rfl dJ13_bitCount_95d88_34 ?_
  refine e_lload_n (pc := 35) hE rfl 0 rfl dJ13_bitCount_95d88_35 ?_
  refine e_bipush (pc := 36) (v := 8) hE kb_8 dJ13_bitCount_95d88_36 ?_
  refine e_lushr (pc := 38) hE dJ13_bitCount_95d88_38 ?_
  refine e_ladd (pc := 39) hE dJ13_bitCount_95d88_39 ?_
  refine e_topl (fun x40 ex40 => ?_)
  have h := h x40 ex40
  refine e_lstore_n (pc := 40) (lv' := [(0, .long x40)]) hE dJ13_bitCount_95d88_40 rfl (by decide) rfl ?_
  refine e_lload_n (pc := 41) hE rfl 0 rfl dJ13_bitCount_95d88_41 ?_
  refine e_lload_n (pc := 42) hE rfl 0 rfl dJ13_bitCount_95d88_42 ?_
  refine e_bipush (pc := 43) (v := 16) hE kb_16 dJ13_bitCount_95d88_43 ?_
  refine e_lushr (pc := 45) hE dJ13_bitCount_95d88_45 ?_
  refine e_ladd (pc := 46) hE dJ13_bitCount_95d88_46 ?_
  refine e_topl (fun x47 ex47 => ?_)
  have h := h x47 ex47
  refine e_lstore_n (pc := 47) (lv' := [(0, .long x47)]) hE dJ13_bitCount_95d88_47 rfl (by decide) rfl ?_
  refine e_lload_n (pc := 48) hE rfl 0 rfl dJ13_bitCount_95d88_48 ?_
  refine e_lload_n (pc := 49) hE rfl 0 rfl dJ13_bitCount_95d88_49 ?_
  refine e_bipush (pc := 50) (v := 32) hE kb_32 dJ13_bitCount_95d88_50 ?_
  refine e_lushr (pc := 52) hE dJ13_bitCount_95d88_52 ?_
  refine e_ladd (pc := 53) hE dJ13_bitCount_95d88_53 ?_
  refine e_topl (fun x54 ex54 => ?_)
  have h := h x54 ex54
  refine e_lstore_n (pc := 54) (lv' := [(0, .long x54)]) hE dJ13_bitCount_95d88_54 rfl (by decide) rfl ?_
  refine e_lload_n (pc := 55) hE rfl 0 rfl dJ13_bitCount_95d88_55 ?_
  refine e_l2i (pc := 56) hE dJ13_bitCount_95d88_56 ?_
  refine e_bipush (pc := 57) (v := 127) hE kb_127 dJ13_bitCount_95d88_57 ?_
  refine e_iand (pc := 59) hE dJ13_bitCount_95d88_59 ?_
  exact hR dJ13_bitCount_95d88_60 h
set_option maxHeartbeats 4000000 in
set_option maxRecDepth 20000 in
theorem w_Of_isBetter_32 {l : Launch} {G : Gs} {d : Nat} {E : EE} {a0 : Int64} {a2 : Int64} {Q : Int32 → Mm → Prop} (hE : Mach l G RX4 cX4_isBetter 6 (d + 1) E) (hR : RtZ cX4_isBetter E Q)     {M : Mm} (h : k_Of_isBetter_32 a0 a2 Q M)  : E 32 [] [] M := by
  unfold k_Of_isBetter_32 at h
  refine e_iconst (pc := 32) (v := 1) hE ki_1 dX4_isBetter_32 ?_
  refine e_goto (pc := 33) hE 37 dX4_isBetter_33 (by decide) ?_
  exact hR dX4_isBetter_37 (Or.inr rfl) h
set_option maxHeartbeats 4000000 in
set_option maxRecDepth 20000 in
theorem t_Of_isBetter {l : Launch} {G : Gs} {d : Nat} {a0 : Int64} {a2 : Int64} {M : Mm} {Q : Int32 → Mm → Prop}  (h : wp_Of_isBetter a0 a2 M Q) : CtI l G (d + 1) yX4_isBetter cX4_isBetter 6 (some .boolean) [.long a0, .long a2] M Q := by
  refine CtI.mkZ (by decide) rfl (Nat.le_of_ble_eq_true rfl) (fun E hE hR => ?_)
  show E 0 [(0, .long a0), (2, .long a2)] [] M
  unfold wp_Of_isBetter at h
  refine e_lload_n (pc := 0) hE rfl 0 rfl dX4_isBetter_0 ?_
  refine c_JL_bitCount (pc := 1) (d := d + 0) hE (t_JL_bitCount (d := d)  h) tw_901 (Nat.le_of_ble_eq_true rfl) dX4_isBetter_1 (fun r1 M1 h => ?_)
  refine e_istore (pc := 4) (lv' := [(4, .int r1), (0, .long a0), (2, .long a2)]) hE dX4_isBetter_4 (by decide) rfl ?_
  refine e_lload_n (pc := 6) hE rfl 2 rfl dX4_isBetter_6 ?_
  refine c_JL_bitCount (pc := 7) (d := d + 0) hE (t_JL_bitCount (d := d)  h) tw_901 (Nat.le_of_ble_eq_true rfl) dX4_isBetter_7 (fun r7 M7 h => ?_)
  refine e_istore (pc := 10) (lv' := [(5, .int r7), (4, .int r1), (0, .long a0), (2, .long a2)]) hE dX4_isBetter_10 (by decide) rfl ?_
  refine e_iload (pc := 12) hE 1 rfl dX4_isBetter_12 ?_
  refine e_iload (pc := 14) hE 0 rfl dX4_isBetter_14 ?_
  refine e_icmp_lt (pc := 16) hE 32 dX4_isBetter_16 (by decide) (fun c0 => ?_) (fun c0 => ?_)
  · have h := h.1 c0
    refine e_sub hE [] rfl ?_
    exact w_Of_isBetter_32 hE hR h
  · have h := h.2 c0
    refine e_iload (pc := 19) hE 1 rfl dX4_isBetter_19 ?_
    refine e_iload (pc := 21) hE 0 rfl dX4_isBetter_21 ?_
    refine e_icmp_ne (pc := 23) hE 36 dX4_isBetter_23 (by decide) (fun c0 => ?_) (fun c0 => ?_)
    · have h := h.1 c0
      refine e_iconst (pc := 36) (v := 0) hE ki_0 dX4_isBetter_36 ?_
      exact hR dX4_isBetter_37 (Or.inl rfl) h
    · have h := h.2 c0
      refine e_lload_n (pc := 26) hE rfl 2 rfl dX4_isBetter_26 ?_
      refine e_lload_n (pc := 27) hE rfl 3 rfl dX4_isBetter_27 ?_
      refine e_lcmp (pc := 28) hE dX4_isBetter_28 ?_
      refine e_if_le (pc := 29) hE 36 dX4_isBetter_29 (by decide) (fun c0 => ?_) (fun c0 => ?_)
      · have h := h.1 c0
        refine e_iconst (pc := 36) (v := 0) hE ki_0 dX4_isBetter_36 ?_
        exact hR dX4_isBetter_37 (Or.inl rfl) h
      · have h := h.2 c0
        refine e_sub hE [] rfl ?_
        exact w_Of_isBetter_32 hE hR h
set_option maxHeartbeats 4000000 in
set_option maxRecDepth 20000 in
theorem w_Of_fewestToLoosen_97 {l : Launch} {G : Gs} {d : Nat} {E : EE}  {Q : Int64 → Mm → Prop} (hE : Mach l G RX4 cX4_fewestToLoosen 7 (d + 2) E) (hR : RtL cX4_fewestToLoosen E Q)   {KB : Int32 → Int32 → Int32 → Mm → Prop} {K103 : Int32 → Mm → Prop} {v1 : Int32} {v2 : Int32} {v3 : Int32} {M : Mm} (h : k_Of_fewestToLoosen_97 Q KB K103 v1 v2 v3 M) (hKB : ∀ (v1 : Int32) (v2 : Int32) (v3 : Int32)  (M : Mm), KB v1 v2 v3 M → E 24 [(0, rv G 51), (1, .int v1), (2, .int v2), (3, .int v3)] [] M) (hK103 : ∀ (v1 : Int32)  (M : Mm), K103 v1 M → E 103 [(0, rv G 51), (1, .int v1)] [] M) : E 97 [(0, rv G 51), (1, .int v1), (2, .int v2), (3, .int v3)] [] M := by
  unfold k_Of_fewestToLoosen_97 at h
  obtain ⟨x97, ex97⟩ : ∃ y : Int32, y = v3 + (1 : Int32) := ⟨_, rfl⟩
  have h := h x97 ex97
  refine e_iinc (pc := 97) (k := 3) (v := x97) (lv' := [(3, .int x97), (0, rv G 51), (1, .int v1), (2, .int v2)]) hE dX4_fewestToLoosen_97 rfl (by rw [ex97, ki_1]) (by decide) rfl ?_
  refine e_goto (pc := 100) hE 24 dX4_fewestToLoosen_100 (by decide) ?_
  refine e_sub hE [1, 2, 3, 0] rfl ?_
  exact hKB _ _ _ _ h
set_option maxHeartbeats 4000000 in
set_option maxRecDepth 20000 in
theorem w_Of_fewestToLoosen_95 {l : Launch} {G : Gs} {d : Nat} {E : EE}  {Q : Int64 → Mm → Prop} (hE : Mach l G RX4 cX4_fewestToLoosen 7 (d + 2) E) (hR : RtL cX4_fewestToLoosen E Q)   {KB : Int32 → Int32 → Int32 → Mm → Prop} {K103 : Int32 → Mm → Prop} {v1 : Int32} {v3 : Int32} {M : Mm} (h : k_Of_fewestToLoosen_95 Q KB K103 v1 v3 M) (hKB : ∀ (v1 : Int32) (v2 : Int32) (v3 : Int32)  (M : Mm), KB v1 v2 v3 M → E 24 [(0, rv G 51), (1, .int v1), (2, .int v2), (3, .int v3)] [] M) (hK103 : ∀ (v1 : Int32)  (M : Mm), K103 v1 M → E 103 [(0, rv G 51), (1, .int v1)] [] M) : E 95 [(0, rv G 51), (1, .int v1), (3, .int v3)] [] M := by
  unfold k_Of_fewestToLoosen_95 at h
  refine e_iconst (pc := 95) (v := 1) hE ki_1 dX4_fewestToLoosen_95 ?_
  refine e_istore_n (pc := 96) (lv' := [(2, .int (1 : Int32)), (0, rv G 51), (1, .int v1), (3, .int v3)]) hE dX4_fewestToLoosen_96 rfl (by decide) rfl ?_
  refine e_sub hE [1, 2, 0, 3] rfl ?_
  exact w_Of_fewestToLoosen_97 hE hR h hKB hK103
set_option maxHeartbeats 4000000 in
set_option maxRecDepth 20000 in
theorem w_Of_fewestToLoosen_87 {l : Launch} {G : Gs} {d : Nat} {E : EE}  {Q : Int64 → Mm → Prop} (hE : Mach l G RX4 cX4_fewestToLoosen 7 (d + 2) E) (hR : RtL cX4_fewestToLoosen E Q)   {KB : Int32 → Int32 → Int32 → Mm → Prop} {K103 : Int32 → Mm → Prop} {v1 : Int32} {v3 : Int32} {v5 : Int64} {M : Mm} (h : k_Of_fewestToLoosen_87 Q KB K103 v1 v3 v5 M) (hKB : ∀ (v1 : Int32) (v2 : Int32) (v3 : Int32)  (M : Mm), KB v1 v2 v3 M → E 24 [(0, rv G 51), (1, .int v1), (2, .int v2), (3, .int v3)] [] M) (hK103 : ∀ (v1 : Int32)  (M : Mm), K103 v1 M → E 103 [(0, rv G 51), (1, .int v1)] [] M) : E 87 [(0, rv G 51), (1, .int v1), (3, .int v3), (5, .long v5)] [] M := by
  unfold k_Of_fewestToLoosen_87 at h
  refine e_aload_n (pc := 87) hE rfl 0 rfl dX4_fewestToLoosen_87 ?_
  refine g_Offices_cuts (pc := 88) hE tw_323 dX4_fewestToLoosen_88 ?_
  refine e_iload_n (pc := 91) hE rfl 1 rfl dX4_fewestToLoosen_91 ?_
  refine e_lload (pc := 92) hE 3 rfl dX4_fewestToLoosen_92 ?_
  refine e_last (pc := 94) hE ar_53 h.1 dX4_fewestToLoosen_94 ?_
  have h := h.2
  refine e_sub hE [0, 1, 2] rfl ?_
  exact w_Of_fewestToLoosen_95 hE hR h hKB hK103
set_option maxHeartbeats 4000000 in
set_option maxRecDepth 20000 in
theorem w_Of_fewestToLoosen_24 {l : Launch} {G : Gs} {d : Nat} {E : EE}  {Q : Int64 → Mm → Prop} (hE : Mach l G RX4 cX4_fewestToLoosen 7 (d + 2) E) (hR : RtL cX4_fewestToLoosen E Q)   {KB : Int32 → Int32 → Int32 → Mm → Prop} {K103 : Int32 → Mm → Prop} {v1 : Int32} {v2 : Int32} {v3 : Int32} {M : Mm} (h : k_Of_fewestToLoosen_24 Q KB K103 v1 v2 v3 M) (hKB : ∀ (v1 : Int32) (v2 : Int32) (v3 : Int32)  (M : Mm), KB v1 v2 v3 M → E 24 [(0, rv G 51), (1, .int v1), (2, .int v2), (3, .int v3)] [] M) (hK103 : ∀ (v1 : Int32)  (M : Mm), K103 v1 M → E 103 [(0, rv G 51), (1, .int v1)] [] M) : E 24 [(0, rv G 51), (1, .int v1), (2, .int v2), (3, .int v3)] [] M := by
  unfold k_Of_fewestToLoosen_24 at h
  refine e_iload_n (pc := 24) hE rfl 3 rfl dX4_fewestToLoosen_24 ?_
  refine e_aload_n (pc := 25) hE rfl 0 rfl dX4_fewestToLoosen_25 ?_
  refine g_Offices_chart (pc := 26) hE tw_321 dX4_fewestToLoosen_26 ?_
  refine g_Chart_arms (pc := 29) hE (ch_kd ch20) tw_156 dX4_fewestToLoosen_29 ?_
  refine e_icmp_ge (pc := 32) hE 103 dX4_fewestToLoosen_32 (by decide) (fun c0 => ?_) (fun c0 => ?_)
  · have h := h.1 c0
    refine e_sub hE [0, 1] rfl ?_
    exact hK103 _ _ h
  · have h := h.2 c0
    refine e_iload_n (pc := 35) hE rfl 1 rfl dX4_fewestToLoosen_35 ?_
    refine e_iload_n (pc := 36) hE rfl 3 rfl dX4_fewestToLoosen_36 ?_
    refine cN_B_hasBit (pc := 37) (d := d + 1 + 0) hE (t_B_hasBit (d := d + 1)  h) tn_881 (Nat.le_of_ble_eq_true rfl) dX4_fewestToLoosen_37 (fun r37 M37 h => ?_)
    refine e_if_eq (pc := 40) hE 97 dX4_fewestToLoosen_40 (by decide) (fun c0 => ?_) (fun c0 => ?_)
    · have h := h.1 c0
      exact w_Of_fewestToLoosen_97 hE hR h hKB hK103
    · have h := h.2 c0
      refine e_iload_n (pc := 43) hE rfl 1 rfl dX4_fewestToLoosen_43 ?_
      refine e_iconst (pc := 44) (v := 1) hE ki_1 dX4_fewestToLoosen_44 ?_
      refine e_iload_n (pc := 45) hE rfl 3 rfl dX4_fewestToLoosen_45 ?_
      refine e_ishl (pc := 46) hE dX4_fewestToLoosen_46 ?_
      refine e_iconst (pc := 47) (v := -1) hE ki_m1 dX4_fewestToLoosen_47 ?_
      refine e_ixor (pc := 48) hE dX4_fewestToLoosen_48 ?_
      refine e_iand (pc := 49) hE dX4_fewestToLoosen_49 ?_
      refine e_topi (fun x50 ex50 => ?_)
      have h := h x50 ex50
      refine e_istore (pc := 50) (lv' := [(4, .int x50), (0, rv G 51), (1, .int v1), (2, .int v2), (3, .int v3)]) hE dX4_fewestToLoosen_50 (by decide) rfl ?_
      refine e_aload_n (pc := 52) hE rfl 1 rfl dX4_fewestToLoosen_52 ?_
      refine g_Offices_cuts (pc := 53) hE tw_323 dX4_fewestToLoosen_53 ?_
      refine e_iload (pc := 56) hE 0 rfl dX4_fewestToLoosen_56 ?_
      refine e_lald (pc := 58) hE ar_53 h.1 dX4_fewestToLoosen_58 ?_
      have h := h.2
      refine e_aload_n (pc := 59) hE rfl 1 rfl dX4_fewestToLoosen_59 ?_
      refine e_iload_n (pc := 60) hE rfl 4 rfl dX4_fewestToLoosen_60 ?_
      refine e_iload (pc := 61) hE 0 rfl dX4_fewestToLoosen_61 ?_
      refine c_Of_waitsLoosened (pc := 63) (d := d + 1) hE (t_Of_waitsLoosened (d := d)  h) tw_891 (Nat.le_of_ble_eq_true rfl) dX4_fewestToLoosen_63 (fun r63 M63 h => ?_)
      refine e_lor (pc := 66) hE dX4_fewestToLoosen_66 ?_
      refine e_topl (fun x67 ex67 => ?_)
      have h := h x67 ex67
      refine e_lstore (pc := 67) (lv' := [(5, .long x67), (4, .int x50), (0, rv G 51), (1, .int v1), (2, .int v2), (3, .int v3)]) hE dX4_fewestToLoosen_67 (by decide) rfl ?_
      refine e_iload_n (pc := 69) hE rfl 4 rfl dX4_fewestToLoosen_69 ?_
      refine e_if_eq (pc := 70) hE 87 dX4_fewestToLoosen_70 (by decide) (fun c0 => ?_) (fun c0 => ?_)
      · have h := h.1 c0
        refine e_sub hE [2, 3, 5, 0] rfl ?_
        exact w_Of_fewestToLoosen_87 hE hR h hKB hK103
      · have h := h.2 c0
        refine e_lload (pc := 73) hE 0 rfl dX4_fewestToLoosen_73 ?_
        refine e_aload_n (pc := 75) hE rfl 2 rfl dX4_fewestToLoosen_75 ?_
        refine g_Offices_cuts (pc := 76) hE tw_323 dX4_fewestToLoosen_76 ?_
        refine e_iload_n (pc := 79) hE rfl 3 rfl dX4_fewestToLoosen_79 ?_
        refine e_lald (pc := 80) hE ar_53 h.1 dX4_fewestToLoosen_80 ?_
        have h := h.2
        refine c_Of_isBetter (pc := 81) (d := d + 1) hE (t_Of_isBetter (d := d)  h) tw_898 (Nat.le_of_ble_eq_true rfl) dX4_fewestToLoosen_81 (fun r81 M81 h => ?_)
        refine e_if_eq (pc := 84) hE 95 dX4_fewestToLoosen_84 (by decide) (fun c0 => ?_) (fun c0 => ?_)
        · have h := h.1 c0
          refine e_sub hE [2, 3, 5] rfl ?_
          exact w_Of_fewestToLoosen_95 hE hR h hKB hK103
        · have h := h.2 c0
          refine e_sub hE [2, 3, 5, 0] rfl ?_
          exact w_Of_fewestToLoosen_87 hE hR h hKB hK103
set_option maxHeartbeats 4000000 in
set_option maxRecDepth 20000 in
theorem w_lp_Of_fewestToLoosen_24 {l : Launch} {G : Gs} {d : Nat} {E : EE}  {Q : Int64 → Mm → Prop} (hE : Mach l G RX4 cX4_fewestToLoosen 7 (d + 2) E) (hR : RtL cX4_fewestToLoosen E Q)   {K103 : Int32 → Mm → Prop} {n : Nat} {v1 : Int32} {v2 : Int32} {v3 : Int32} {M : Mm} (h : lp_Of_fewestToLoosen_24 Q K103 n v1 v2 v3 M) (hK103 : ∀ (v1 : Int32)  (M : Mm), K103 v1 M → E 103 [(0, rv G 51), (1, .int v1)] [] M) : E 24 [(0, rv G 51), (1, .int v1), (2, .int v2), (3, .int v3)] [] M := by
  have key : ∀ (n : Nat) (v1 : Int32) (v2 : Int32) (v3 : Int32) (M : Mm), lp_Of_fewestToLoosen_24 Q K103 n v1 v2 v3 M → E 24 [(0, rv G 51), (1, .int v1), (2, .int v2), (3, .int v3)] [] M := by
    intro n
    induction n with
    | zero => intro v1 v2 v3 M h; exact h.elim
    | succ n ih => intro v1 v2 v3 M h; exact w_Of_fewestToLoosen_24 hE hR  (show k_Of_fewestToLoosen_24  Q (lp_Of_fewestToLoosen_24 Q K103 n) K103 v1 v2 v3 M from h) ih hK103
  exact key n _ _ _ _ h
set_option maxHeartbeats 4000000 in
set_option maxRecDepth 20000 in
theorem w_Of_fewestToLoosen_9 {l : Launch} {G : Gs} {d : Nat} {E : EE}  {Q : Int64 → Mm → Prop} (hE : Mach l G RX4 cX4_fewestToLoosen 7 (d + 2) E) (hR : RtL cX4_fewestToLoosen E Q)   {KB : Int32 → Mm → Prop} {K109 : Mm → Prop} {v1 : Int32} {M : Mm} (h : k_Of_fewestToLoosen_9 Q KB K109 v1 M) (hKB : ∀ (v1 : Int32)  (M : Mm), KB v1 M → E 9 [(0, rv G 51), (1, .int v1)] [] M) (hK109 : ∀  (M : Mm), K109 M → E 109 [(0, rv G 51)] [] M) : E 9 [(0, rv G 51), (1, .int v1)] [] M := by
  unfold k_Of_fewestToLoosen_9 at h
  refine e_iload_n (pc := 9) hE rfl 1 rfl dX4_fewestToLoosen_9 ?_
  refine e_aload_n (pc := 10) hE rfl 0 rfl dX4_fewestToLoosen_10 ?_
  refine g_Offices_chart (pc := 11) hE tw_321 dX4_fewestToLoosen_11 ?_
  refine c_Ch_sets (pc := 14) (d := d + 1 + 0) hE (t_Ch_sets (d := d + 1) ch20 h) (ch_kd ch20) tw_890 (Nat.le_of_ble_eq_true rfl) dX4_fewestToLoosen_14 (fun r14 M14 h => ?_)
  refine e_icmp_ge (pc := 17) hE 109 dX4_fewestToLoosen_17 (by decide) (fun c0 => ?_) (fun c0 => ?_)
  · have h := h.1 c0
    refine e_sub hE [0] rfl ?_
    exact hK109 _ h
  · have h := h.2 c0
    refine e_iconst (pc := 20) (v := 0) hE ki_0 dX4_fewestToLoosen_20 ?_
    refine e_istore_n (pc := 21) (lv' := [(2, .int (0 : Int32)), (0, rv G 51), (1, .int v1)]) hE dX4_fewestToLoosen_21 rfl (by decide) rfl ?_
    refine e_iconst (pc := 22) (v := 0) hE ki_0 dX4_fewestToLoosen_22 ?_
    refine e_istore_n (pc := 23) (lv' := [(3, .int (0 : Int32)), (2, .int (0 : Int32)), (0, rv G 51), (1, .int v1)]) hE dX4_fewestToLoosen_23 rfl (by decide) rfl ?_
    obtain ⟨n, h⟩ := h
    refine e_sub hE [2, 3, 1, 0] rfl ?_
    refine w_lp_Of_fewestToLoosen_24 hE hR  h (fun v1 M h => ?_)
    obtain ⟨x103, ex103⟩ : ∃ y : Int32, y = v1 + (1 : Int32) := ⟨_, rfl⟩
    have h := h x103 ex103
    refine e_iinc (pc := 103) (k := 1) (v := x103) (lv' := [(1, .int x103), (0, rv G 51)]) hE dX4_fewestToLoosen_103 rfl (by rw [ex103, ki_1]) (by decide) rfl ?_
    refine e_goto (pc := 106) hE 9 dX4_fewestToLoosen_106 (by decide) ?_
    refine e_sub hE [1, 0] rfl ?_
    exact hKB _ _ h
set_option maxHeartbeats 4000000 in
set_option maxRecDepth 20000 in
theorem w_lp_Of_fewestToLoosen_9 {l : Launch} {G : Gs} {d : Nat} {E : EE}  {Q : Int64 → Mm → Prop} (hE : Mach l G RX4 cX4_fewestToLoosen 7 (d + 2) E) (hR : RtL cX4_fewestToLoosen E Q)   {K109 : Mm → Prop} {n : Nat} {v1 : Int32} {M : Mm} (h : lp_Of_fewestToLoosen_9 Q K109 n v1 M) (hK109 : ∀  (M : Mm), K109 M → E 109 [(0, rv G 51)] [] M) : E 9 [(0, rv G 51), (1, .int v1)] [] M := by
  have key : ∀ (n : Nat) (v1 : Int32) (M : Mm), lp_Of_fewestToLoosen_9 Q K109 n v1 M → E 9 [(0, rv G 51), (1, .int v1)] [] M := by
    intro n
    induction n with
    | zero => intro v1 M h; exact h.elim
    | succ n ih => intro v1 M h; exact w_Of_fewestToLoosen_9 hE hR  (show k_Of_fewestToLoosen_9  Q (lp_Of_fewestToLoosen_9 Q K109 n) K109 v1 M from h) ih hK109
  exact key n _ _ h
set_option maxHeartbeats 4000000 in
set_option maxRecDepth 20000 in
theorem t_Of_fewestToLoosen {l : Launch} {G : Gs} {d : Nat}  {M : Mm} {Q : Int64 → Mm → Prop}  (h : wp_Of_fewestToLoosen  M Q) : CtL l G (d + 2) yX4_fewestToLoosen cX4_fewestToLoosen 7 (some .long) [rv G 51] M Q := by
  refine CtL.mk (by decide) rfl (Nat.le_of_ble_eq_true rfl) (fun E hE hR => ?_)
  show E 0 [(0, rv G 51)] [] M
  unfold wp_Of_fewestToLoosen at h
  refine e_aload_n (pc := 0) hE rfl 0 rfl dX4_fewestToLoosen_0 ?_
  refine g_Offices_cuts (pc := 1) hE tw_323 dX4_fewestToLoosen_1 ?_
  refine e_iconst (pc := 4) (v := 0) hE ki_0 dX4_fewestToLoosen_4 ?_
  refine e_lconst (pc := 5) (v := 0) hE kl_0 dX4_fewestToLoosen_5 ?_
  refine e_last (pc := 6) hE ar_53 h.1 dX4_fewestToLoosen_6 ?_
  have h := h.2
  refine e_iconst (pc := 7) (v := 1) hE ki_1 dX4_fewestToLoosen_7 ?_
  refine e_istore_n (pc := 8) (lv' := [(1, .int (1 : Int32)), (0, rv G 51)]) hE dX4_fewestToLoosen_8 rfl (by decide) rfl ?_
  obtain ⟨n, h⟩ := h
  refine e_sub hE [1, 0] rfl ?_
  refine w_lp_Of_fewestToLoosen_9 hE hR  h (fun M h => ?_)
  refine e_aload_n (pc := 109) hE rfl 0 rfl dX4_fewestToLoosen_109 ?_
  refine g_Offices_cuts (pc := 110) hE tw_323 dX4_fewestToLoosen_110 ?_
  refine e_aload_n (pc := 113) hE rfl 0 rfl dX4_fewestToLoosen_113 ?_
  refine g_Offices_chart (pc := 114) hE tw_321 dX4_fewestToLoosen_114 ?_
  refine c_Ch_sets (pc := 117) (d := d + 1 + 0) hE (t_Ch_sets (d := d + 1) ch20 h) (ch_kd ch20) tw_890 (Nat.le_of_ble_eq_true rfl) dX4_fewestToLoosen_117 (fun r117 M117 h => ?_)
  refine e_iconst (pc := 120) (v := 1) hE ki_1 dX4_fewestToLoosen_120 ?_
  refine e_isub (pc := 121) hE dX4_fewestToLoosen_121 ?_
  refine e_lald (pc := 122) hE ar_53 h.1 dX4_fewestToLoosen_122 ?_
  have h := h.2
  exact hR dX4_fewestToLoosen_123 h
set_option maxHeartbeats 4000000 in
set_option maxRecDepth 20000 in
theorem w_Fl_stampable_29 {l : Launch} {G : Gs} {d : Nat} {E : EE} {a0 : Nat} {a1 : Nat} {Q : Int32 → Mm → Prop} (hE : Mach l G RX2 cX2_stampable 4 (d + 2) E) (hR : RtI cX2_stampable E Q) (f0 : kd a0 = 2) (f1 : isCh a1)  {KB : Int32 → Int32 → Mm → Prop} {v3 : Int32} {s0 : Int32} {s1 : Int32} {M : Mm} (h : k_Fl_stampable_29 a0 a1 Q KB v3 s0 s1 M) (hKB : ∀ (v2 : Int32) (v3 : Int32)  (M : Mm), KB v2 v3 M → E 4 [(0, rv G a0), (1, rv G a1), (2, .int v2), (3, .int v3)] [] M) : E 29 [(0, rv G a0), (1, rv G a1), (3, .int v3)] [.int s0, .int s1] M := by
  unfold k_Fl_stampable_29 at h
  refine e_ior (pc := 29) hE dX2_stampable_29 ?_
  refine e_topi (fun x30 ex30 => ?_)
  have h := h x30 ex30
  refine e_istore_n (pc := 30) (lv' := [(2, .int x30), (0, rv G a0), (1, rv G a1), (3, .int v3)]) hE dX2_stampable_30 rfl (by decide) rfl ?_
  obtain ⟨x31, ex31⟩ : ∃ y : Int32, y = v3 + (1 : Int32) := ⟨_, rfl⟩
  have h := h x31 ex31
  refine e_iinc (pc := 31) (k := 3) (v := x31) (lv' := [(3, .int x31), (2, .int x30), (0, rv G a0), (1, rv G a1)]) hE dX2_stampable_31 rfl (by rw [ex31, ki_1]) (by decide) rfl ?_
  refine e_goto (pc := 34) hE 4 dX2_stampable_34 (by decide) ?_
  refine e_sub hE [2, 3, 1, 0] rfl ?_
  exact hKB _ _ _ h
set_option maxHeartbeats 4000000 in
set_option maxRecDepth 20000 in
theorem w_Fl_stampable_4 {l : Launch} {G : Gs} {d : Nat} {E : EE} {a0 : Nat} {a1 : Nat} {Q : Int32 → Mm → Prop} (hE : Mach l G RX2 cX2_stampable 4 (d + 2) E) (hR : RtI cX2_stampable E Q) (f0 : kd a0 = 2) (f1 : isCh a1)  {KB : Int32 → Int32 → Mm → Prop} {v2 : Int32} {v3 : Int32} {M : Mm} (h : k_Fl_stampable_4 a0 a1 Q KB v2 v3 M) (hKB : ∀ (v2 : Int32) (v3 : Int32)  (M : Mm), KB v2 v3 M → E 4 [(0, rv G a0), (1, rv G a1), (2, .int v2), (3, .int v3)] [] M) : E 4 [(0, rv G a0), (1, rv G a1), (2, .int v2), (3, .int v3)] [] M := by
  unfold k_Fl_stampable_4 at h
  refine e_iload_n (pc := 4) hE rfl 3 rfl dX2_stampable_4 ?_
  refine e_aload_n (pc := 5) hE rfl 1 rfl dX2_stampable_5 ?_
  refine g_Chart_arms (pc := 6) hE (ch_kd f1) tw_154 dX2_stampable_6 ?_
  refine e_icmp_ge (pc := 9) hE 37 dX2_stampable_9 (by decide) (fun c0 => ?_) (fun c0 => ?_)
  · have h := h.1 c0
    refine e_iload_n (pc := 37) hE rfl 2 rfl dX2_stampable_37 ?_
    exact hR dX2_stampable_38 h
  · have h := h.2 c0
    refine e_iload_n (pc := 12) hE rfl 2 rfl dX2_stampable_12 ?_
    refine e_aload_n (pc := 13) hE rfl 0 rfl dX2_stampable_13 ?_
    refine e_aload_n (pc := 14) hE rfl 1 rfl dX2_stampable_14 ?_
    refine e_iload_n (pc := 15) hE rfl 3 rfl dX2_stampable_15 ?_
    refine c_Fl_mayBeStamped (pc := 16) (d := d + 1) hE (t_Fl_mayBeStamped (d := d) f0 f1 h) f0 tw_765 (Nat.le_of_ble_eq_true rfl) dX2_stampable_16 (fun r16 M16 h => ?_)
    refine e_if_eq (pc := 19) hE 28 dX2_stampable_19 (by decide) (fun c0 => ?_) (fun c0 => ?_)
    · have h := h.1 c0
      refine e_iconst (pc := 28) (v := 0) hE ki_0 dX2_stampable_28 ?_
      refine e_sub hE [0, 1, 3] rfl ?_
      exact w_Fl_stampable_29 hE hR f0 f1 h hKB
    · have h := h.2 c0
      refine e_iconst (pc := 22) (v := 1) hE ki_1 dX2_stampable_22 ?_
      refine e_iload_n (pc := 23) hE rfl 3 rfl dX2_stampable_23 ?_
      refine e_ishl (pc := 24) hE dX2_stampable_24 ?_
      refine e_goto (pc := 25) hE 29 dX2_stampable_25 (by decide) ?_
      refine e_sub hE [0, 1, 3] rfl ?_
      exact w_Fl_stampable_29 hE hR f0 f1 h hKB
set_option maxHeartbeats 4000000 in
set_option maxRecDepth 20000 in
theorem w_lp_Fl_stampable_4 {l : Launch} {G : Gs} {d : Nat} {E : EE} {a0 : Nat} {a1 : Nat} {Q : Int32 → Mm → Prop} (hE : Mach l G RX2 cX2_stampable 4 (d + 2) E) (hR : RtI cX2_stampable E Q) (f0 : kd a0 = 2) (f1 : isCh a1)   {n : Nat} {v2 : Int32} {v3 : Int32} {M : Mm} (h : lp_Fl_stampable_4 a0 a1 Q n v2 v3 M)  : E 4 [(0, rv G a0), (1, rv G a1), (2, .int v2), (3, .int v3)] [] M := by
  have key : ∀ (n : Nat) (v2 : Int32) (v3 : Int32) (M : Mm), lp_Fl_stampable_4 a0 a1 Q n v2 v3 M → E 4 [(0, rv G a0), (1, rv G a1), (2, .int v2), (3, .int v3)] [] M := by
    intro n
    induction n with
    | zero => intro v2 v3 M h; exact h.elim
    | succ n ih => intro v2 v3 M h; exact w_Fl_stampable_4 hE hR f0 f1 (show k_Fl_stampable_4 a0 a1 Q (lp_Fl_stampable_4 a0 a1 Q n)  v2 v3 M from h) ih 
  exact key n _ _ _ h
set_option maxHeartbeats 4000000 in
set_option maxRecDepth 20000 in
theorem t_Fl_stampable {l : Launch} {G : Gs} {d : Nat} {a0 : Nat} {a1 : Nat} {M : Mm} {Q : Int32 → Mm → Prop} (f0 : kd a0 = 2) (f1 : isCh a1) (h : wp_Fl_stampable a0 a1 M Q) : CtI l G (d + 2) yX2_stampable cX2_stampable 4 (some .int) [rv G a0, rv G a1] M Q := by
  refine CtI.mk (by decide) rfl (Nat.le_of_ble_eq_true rfl) (fun E hE hR => ?_)
  show E 0 [(0, rv G a0), (1, rv G a1)] [] M
  unfold wp_Fl_stampable at h
  refine e_iconst (pc := 0) (v := 0) hE ki_0 dX2_stampable_0 ?_
  refine e_istore_n (pc := 1) (lv' := [(2, .int (0 : Int32)), (0, rv G a0), (1, rv G a1)]) hE dX2_stampable_1 rfl (by decide) rfl ?_
  refine e_iconst (pc := 2) (v := 0) hE ki_0 dX2_stampable_2 ?_
  refine e_istore_n (pc := 3) (lv' := [(3, .int (0 : Int32)), (2, .int (0 : Int32)), (0, rv G a0), (1, rv G a1)]) hE dX2_stampable_3 rfl (by decide) rfl ?_
  obtain ⟨n, h⟩ := h
  refine e_sub hE [2, 3, 1, 0] rfl ?_
  refine w_lp_Fl_stampable_4 hE hR f0 f1 h 
set_option maxHeartbeats 4000000 in
set_option maxRecDepth 20000 in
theorem w_Ch_countOf_27 {l : Launch} {G : Gs} {d : Nat} {E : EE} {a0 : Nat} {a1 : Int32} {Q : Int32 → Mm → Prop} (hE : Mach l G RX0 cX0_countOf 4 (d + 1) E) (hR : RtI cX0_countOf E Q) (f0 : isCh a0)  {KB : Int32 → Int32 → Mm → Prop} {v3 : Int32} {s0 : Int32} {s1 : Int32} {M : Mm} (h : k_Ch_countOf_27 a0 a1 Q KB v3 s0 s1 M) (hKB : ∀ (v2 : Int32) (v3 : Int32)  (M : Mm), KB v2 v3 M → E 4 [(0, rv G a0), (1, .int a1), (2, .int v2), (3, .int v3)] [] M) : E 27 [(0, rv G a0), (1, .int a1), (3, .int v3)] [.int s0, .int s1] M := by
  unfold k_Ch_countOf_27 at h
  refine e_iadd (pc := 27) hE dX0_countOf_27 ?_
  refine e_topi (fun x28 ex28 => ?_)
  have h := h x28 ex28
  refine e_istore_n (pc := 28) (lv' := [(2, .int x28), (0, rv G a0), (1, .int a1), (3, .int v3)]) hE dX0_countOf_28 rfl (by decide) rfl ?_
  obtain ⟨x29, ex29⟩ : ∃ y : Int32, y = v3 + (1 : Int32) := ⟨_, rfl⟩
  have h := h x29 ex29
  refine e_iinc (pc := 29) (k := 3) (v := x29) (lv' := [(3, .int x29), (2, .int x28), (0, rv G a0), (1, .int a1)]) hE dX0_countOf_29 rfl (by rw [ex29, ki_1]) (by decide) rfl ?_
  refine e_goto (pc := 32) hE 4 dX0_countOf_32 (by decide) ?_
  refine e_sub hE [2, 3, 1, 0] rfl ?_
  exact hKB _ _ _ h
set_option maxHeartbeats 4000000 in
set_option maxRecDepth 20000 in
theorem w_Ch_countOf_4 {l : Launch} {G : Gs} {d : Nat} {E : EE} {a0 : Nat} {a1 : Int32} {Q : Int32 → Mm → Prop} (hE : Mach l G RX0 cX0_countOf 4 (d + 1) E) (hR : RtI cX0_countOf E Q) (f0 : isCh a0)  {KB : Int32 → Int32 → Mm → Prop} {v2 : Int32} {v3 : Int32} {M : Mm} (h : k_Ch_countOf_4 a0 a1 Q KB v2 v3 M) (hKB : ∀ (v2 : Int32) (v3 : Int32)  (M : Mm), KB v2 v3 M → E 4 [(0, rv G a0), (1, .int a1), (2, .int v2), (3, .int v3)] [] M) : E 4 [(0, rv G a0), (1, .int a1), (2, .int v2), (3, .int v3)] [] M := by
  unfold k_Ch_countOf_4 at h
  refine e_iload_n (pc := 4) hE rfl 3 rfl dX0_countOf_4 ?_
  refine e_aload_n (pc := 5) hE rfl 0 rfl dX0_countOf_5 ?_
  refine g_Chart_arms (pc := 6) hE (ch_kd f0) tw_153 dX0_countOf_6 ?_
  refine e_icmp_ge (pc := 9) hE 35 dX0_countOf_9 (by decide) (fun c0 => ?_) (fun c0 => ?_)
  · have h := h.1 c0
    refine e_iload_n (pc := 35) hE rfl 2 rfl dX0_countOf_35 ?_
    exact hR dX0_countOf_36 h
  · have h := h.2 c0
    refine e_iload_n (pc := 12) hE rfl 2 rfl dX0_countOf_12 ?_
    refine e_aload_n (pc := 13) hE rfl 0 rfl dX0_countOf_13 ?_
    refine e_iload_n (pc := 14) hE rfl 3 rfl dX0_countOf_14 ?_
    refine e_iload_n (pc := 15) hE rfl 1 rfl dX0_countOf_15 ?_
    refine c_Ch_isOf (pc := 16) (d := d + 0) hE (t_Ch_isOf (d := d) f0 h) (ch_kd f0) tw_959 (Nat.le_of_ble_eq_true rfl) dX0_countOf_16 (fun r16 M16 h => ?_)
    refine e_if_eq (pc := 19) hE 26 dX0_countOf_19 (by decide) (fun c0 => ?_) (fun c0 => ?_)
    · have h := h.1 c0
      refine e_iconst (pc := 26) (v := 0) hE ki_0 dX0_countOf_26 ?_
      refine e_sub hE [0, 1, 3] rfl ?_
      exact w_Ch_countOf_27 hE hR f0 h hKB
    · have h := h.2 c0
      refine e_iconst (pc := 22) (v := 1) hE ki_1 dX0_countOf_22 ?_
      refine e_goto (pc := 23) hE 27 dX0_countOf_23 (by decide) ?_
      refine e_sub hE [0, 1, 3] rfl ?_
      exact w_Ch_countOf_27 hE hR f0 h hKB
set_option maxHeartbeats 4000000 in
set_option maxRecDepth 20000 in
theorem w_lp_Ch_countOf_4 {l : Launch} {G : Gs} {d : Nat} {E : EE} {a0 : Nat} {a1 : Int32} {Q : Int32 → Mm → Prop} (hE : Mach l G RX0 cX0_countOf 4 (d + 1) E) (hR : RtI cX0_countOf E Q) (f0 : isCh a0)   {n : Nat} {v2 : Int32} {v3 : Int32} {M : Mm} (h : lp_Ch_countOf_4 a0 a1 Q n v2 v3 M)  : E 4 [(0, rv G a0), (1, .int a1), (2, .int v2), (3, .int v3)] [] M := by
  have key : ∀ (n : Nat) (v2 : Int32) (v3 : Int32) (M : Mm), lp_Ch_countOf_4 a0 a1 Q n v2 v3 M → E 4 [(0, rv G a0), (1, .int a1), (2, .int v2), (3, .int v3)] [] M := by
    intro n
    induction n with
    | zero => intro v2 v3 M h; exact h.elim
    | succ n ih => intro v2 v3 M h; exact w_Ch_countOf_4 hE hR f0 (show k_Ch_countOf_4 a0 a1 Q (lp_Ch_countOf_4 a0 a1 Q n)  v2 v3 M from h) ih 
  exact key n _ _ _ h
set_option maxHeartbeats 4000000 in
set_option maxRecDepth 20000 in
theorem t_Ch_countOf {l : Launch} {G : Gs} {d : Nat} {a0 : Nat} {a1 : Int32} {M : Mm} {Q : Int32 → Mm → Prop} (f0 : isCh a0) (h : wp_Ch_countOf a0 a1 M Q) : CtI l G (d + 1) yX0_countOf cX0_countOf 4 (some .int) [rv G a0, .int a1] M Q := by
  refine CtI.mk (by decide) rfl (Nat.le_of_ble_eq_true rfl) (fun E hE hR => ?_)
  show E 0 [(0, rv G a0), (1, .int a1)] [] M
  unfold wp_Ch_countOf at h
  refine e_iconst (pc := 0) (v := 0) hE ki_0 dX0_countOf_0 ?_
  refine e_istore_n (pc := 1) (lv' := [(2, .int (0 : Int32)), (0, rv G a0), (1, .int a1)]) hE dX0_countOf_1 rfl (by decide) rfl ?_
  refine e_iconst (pc := 2) (v := 0) hE ki_0 dX0_countOf_2 ?_
  refine e_istore_n (pc := 3) (lv' := [(3, .int (0 : Int32)), (2, .int (0 : Int32)), (0, rv G a0), (1, .int a1)]) hE dX0_countOf_3 rfl (by decide) rfl ?_
  obtain ⟨n, h⟩ := h
  refine e_sub hE [2, 3, 1, 0] rfl ?_
  refine w_lp_Ch_countOf_4 hE hR f0 h 
set_option maxHeartbeats 4000000 in
set_option maxRecDepth 20000 in
theorem w_Sh_countThere_29 {l : Launch} {G : Gs} {d : Nat} {E : EE} {a0 : Nat} {Q : Int32 → Mm → Prop} (hE : Mach l G RX7 cX7_countThere 3 (d + 0) E) (hR : RtI cX7_countThere E Q) (f0 : isSh a0)  {KB : Int32 → Int32 → Mm → Prop} {v2 : Int32} {s0 : Int32} {s1 : Int32} {M : Mm} (h : k_Sh_countThere_29 a0 Q KB v2 s0 s1 M) (hKB : ∀ (v1 : Int32) (v2 : Int32)  (M : Mm), KB v1 v2 M → E 4 [(0, rv G a0), (1, .int v1), (2, .int v2)] [] M) : E 29 [(0, rv G a0), (2, .int v2)] [.int s0, .int s1] M := by
  unfold k_Sh_countThere_29 at h
  refine e_iadd (pc := 29) hE dX7_countThere_29 ?_
  refine e_topi (fun x30 ex30 => ?_)
  have h := h x30 ex30
  refine e_istore_n (pc := 30) (lv' := [(1, .int x30), (0, rv G a0), (2, .int v2)]) hE dX7_countThere_30 rfl (by decide) rfl ?_
  obtain ⟨x31, ex31⟩ : ∃ y : Int32, y = v2 + (1 : Int32) := ⟨_, rfl⟩
  have h := h x31 ex31
  refine e_iinc (pc := 31) (k := 2) (v := x31) (lv' := [(2, .int x31), (1, .int x30), (0, rv G a0)]) hE dX7_countThere_31 rfl (by rw [ex31, ki_1]) (by decide) rfl ?_
  refine e_goto (pc := 34) hE 4 dX7_countThere_34 (by decide) ?_
  refine e_sub hE [2, 1, 0] rfl ?_
  exact hKB _ _ _ h
set_option maxHeartbeats 4000000 in
set_option maxRecDepth 20000 in
theorem w_Sh_countThere_4 {l : Launch} {G : Gs} {d : Nat} {E : EE} {a0 : Nat} {Q : Int32 → Mm → Prop} (hE : Mach l G RX7 cX7_countThere 3 (d + 0) E) (hR : RtI cX7_countThere E Q) (f0 : isSh a0)  {KB : Int32 → Int32 → Mm → Prop} {v1 : Int32} {v2 : Int32} {M : Mm} (h : k_Sh_countThere_4 a0 Q KB v1 v2 M) (hKB : ∀ (v1 : Int32) (v2 : Int32)  (M : Mm), KB v1 v2 M → E 4 [(0, rv G a0), (1, .int v1), (2, .int v2)] [] M) : E 4 [(0, rv G a0), (1, .int v1), (2, .int v2)] [] M := by
  unfold k_Sh_countThere_4 at h
  refine e_iload_n (pc := 4) hE rfl 2 rfl dX7_countThere_4 ?_
  refine e_aload_n (pc := 5) hE rfl 0 rfl dX7_countThere_5 ?_
  refine g_Shelf_sizes (pc := 6) hE (sh_kd f0) tw_116 dX7_countThere_6 ?_
  refine e_ilen (pc := 9) hE (sh_sizes f0) rfl dX7_countThere_9 ?_
  refine e_icmp_ge (pc := 10) hE 37 dX7_countThere_10 (by decide) (fun c0 => ?_) (fun c0 => ?_)
  · have h := h.1 c0
    refine e_iload_n (pc := 37) hE rfl 1 rfl dX7_countThere_37 ?_
    exact hR dX7_countThere_38 h
  · have h := h.2 c0
    refine e_iload_n (pc := 13) hE rfl 1 rfl dX7_countThere_13 ?_
    refine e_aload_n (pc := 14) hE rfl 0 rfl dX7_countThere_14 ?_
    refine g_Shelf_sizes (pc := 15) hE (sh_kd f0) tw_116 dX7_countThere_15 ?_
    refine e_iload_n (pc := 18) hE rfl 2 rfl dX7_countThere_18 ?_
    refine e_iald (pc := 19) hE (sh_sizes f0) h.1 dX7_countThere_19 ?_
    have h := h.2
    refine e_iconst (pc := 20) (v := -1) hE ki_m1 dX7_countThere_20 ?_
    refine e_icmp_eq (pc := 21) hE 28 dX7_countThere_21 (by decide) (fun c0 => ?_) (fun c0 => ?_)
    · have h := h.1 c0
      refine e_iconst (pc := 28) (v := 0) hE ki_0 dX7_countThere_28 ?_
      refine e_sub hE [0, 2] rfl ?_
      exact w_Sh_countThere_29 hE hR f0 h hKB
    · have h := h.2 c0
      refine e_iconst (pc := 24) (v := 1) hE ki_1 dX7_countThere_24 ?_
      refine e_goto (pc := 25) hE 29 dX7_countThere_25 (by decide) ?_
      refine e_sub hE [0, 2] rfl ?_
      exact w_Sh_countThere_29 hE hR f0 h hKB
set_option maxHeartbeats 4000000 in
set_option maxRecDepth 20000 in
theorem w_lp_Sh_countThere_4 {l : Launch} {G : Gs} {d : Nat} {E : EE} {a0 : Nat} {Q : Int32 → Mm → Prop} (hE : Mach l G RX7 cX7_countThere 3 (d + 0) E) (hR : RtI cX7_countThere E Q) (f0 : isSh a0)   {n : Nat} {v1 : Int32} {v2 : Int32} {M : Mm} (h : lp_Sh_countThere_4 a0 Q n v1 v2 M)  : E 4 [(0, rv G a0), (1, .int v1), (2, .int v2)] [] M := by
  have key : ∀ (n : Nat) (v1 : Int32) (v2 : Int32) (M : Mm), lp_Sh_countThere_4 a0 Q n v1 v2 M → E 4 [(0, rv G a0), (1, .int v1), (2, .int v2)] [] M := by
    intro n
    induction n with
    | zero => intro v1 v2 M h; exact h.elim
    | succ n ih => intro v1 v2 M h; exact w_Sh_countThere_4 hE hR f0 (show k_Sh_countThere_4 a0 Q (lp_Sh_countThere_4 a0 Q n)  v1 v2 M from h) ih 
  exact key n _ _ _ h
set_option maxHeartbeats 4000000 in
set_option maxRecDepth 20000 in
theorem t_Sh_countThere {l : Launch} {G : Gs} {d : Nat} {a0 : Nat} {M : Mm} {Q : Int32 → Mm → Prop} (f0 : isSh a0) (h : wp_Sh_countThere a0 M Q) : CtI l G (d + 0) yX7_countThere cX7_countThere 3 (some .int) [rv G a0] M Q := by
  refine CtI.mk (by decide) rfl (Nat.le_of_ble_eq_true rfl) (fun E hE hR => ?_)
  show E 0 [(0, rv G a0)] [] M
  unfold wp_Sh_countThere at h
  refine e_iconst (pc := 0) (v := 0) hE ki_0 dX7_countThere_0 ?_
  refine e_istore_n (pc := 1) (lv' := [(1, .int (0 : Int32)), (0, rv G a0)]) hE dX7_countThere_1 rfl (by decide) rfl ?_
  refine e_iconst (pc := 2) (v := 0) hE ki_0 dX7_countThere_2 ?_
  refine e_istore_n (pc := 3) (lv' := [(2, .int (0 : Int32)), (1, .int (0 : Int32)), (0, rv G a0)]) hE dX7_countThere_3 rfl (by decide) rfl ?_
  obtain ⟨n, h⟩ := h
  refine e_sub hE [2, 1, 0] rfl ?_
  refine w_lp_Sh_countThere_4 hE hR f0 h 
set_option maxHeartbeats 4000000 in
set_option maxRecDepth 20000 in
theorem w_Fl_allHarvests_4 {l : Launch} {G : Gs} {d : Nat} {E : EE} {a0 : Nat} {Q : Int32 → Mm → Prop} (hE : Mach l G RX2 cX2_allHarvests 3 (d + 1) E) (hR : RtI cX2_allHarvests E Q) (f0 : kd a0 = 2)  {KB : Int32 → Int32 → Mm → Prop} {v1 : Int32} {v2 : Int32} {M : Mm} (h : k_Fl_allHarvests_4 a0 Q KB v1 v2 M) (hKB : ∀ (v1 : Int32) (v2 : Int32)  (M : Mm), KB v1 v2 M → E 4 [(0, rv G a0), (1, .int v1), (2, .int v2)] [] M) : E 4 [(0, rv G a0), (1, .int v1), (2, .int v2)] [] M := by
  unfold k_Fl_allHarvests_4 at h
  refine e_iload_n (pc := 4) hE rfl 2 rfl dX2_allHarvests_4 ?_
  refine e_iconst (pc := 5) (v := 5) hE ki_5 dX2_allHarvests_5 ?_
  refine e_icmp_ge (pc := 6) hE 23 dX2_allHarvests_6 (by decide) (fun c0 => ?_) (fun c0 => ?_)
  · have h := h.1 c0
    refine e_iload_n (pc := 23) hE rfl 1 rfl dX2_allHarvests_23 ?_
    exact hR dX2_allHarvests_24 h
  · have h := h.2 c0
    refine e_iload_n (pc := 9) hE rfl 1 rfl dX2_allHarvests_9 ?_
    refine e_aload_n (pc := 10) hE rfl 0 rfl dX2_allHarvests_10 ?_
    refine e_iload_n (pc := 11) hE rfl 2 rfl dX2_allHarvests_11 ?_
    refine c_Fl_harvestsOf (pc := 12) (d := d + 0) hE (t_Fl_harvestsOf (d := d) f0 h) f0 tw_972 (Nat.le_of_ble_eq_true rfl) dX2_allHarvests_12 (fun r12 M12 h => ?_)
    refine e_iadd (pc := 15) hE dX2_allHarvests_15 ?_
    refine e_topi (fun x16 ex16 => ?_)
    have h := h x16 ex16
    refine e_istore_n (pc := 16) (lv' := [(1, .int x16), (0, rv G a0), (2, .int v2)]) hE dX2_allHarvests_16 rfl (by decide) rfl ?_
    obtain ⟨x17, ex17⟩ : ∃ y : Int32, y = v2 + (1 : Int32) := ⟨_, rfl⟩
    have h := h x17 ex17
    refine e_iinc (pc := 17) (k := 2) (v := x17) (lv' := [(2, .int x17), (1, .int x16), (0, rv G a0)]) hE dX2_allHarvests_17 rfl (by rw [ex17, ki_1]) (by decide) rfl ?_
    refine e_goto (pc := 20) hE 4 dX2_allHarvests_20 (by decide) ?_
    refine e_sub hE [2, 1, 0] rfl ?_
    exact hKB _ _ _ h
set_option maxHeartbeats 4000000 in
set_option maxRecDepth 20000 in
theorem w_lp_Fl_allHarvests_4 {l : Launch} {G : Gs} {d : Nat} {E : EE} {a0 : Nat} {Q : Int32 → Mm → Prop} (hE : Mach l G RX2 cX2_allHarvests 3 (d + 1) E) (hR : RtI cX2_allHarvests E Q) (f0 : kd a0 = 2)   {n : Nat} {v1 : Int32} {v2 : Int32} {M : Mm} (h : lp_Fl_allHarvests_4 a0 Q n v1 v2 M)  : E 4 [(0, rv G a0), (1, .int v1), (2, .int v2)] [] M := by
  have key : ∀ (n : Nat) (v1 : Int32) (v2 : Int32) (M : Mm), lp_Fl_allHarvests_4 a0 Q n v1 v2 M → E 4 [(0, rv G a0), (1, .int v1), (2, .int v2)] [] M := by
    intro n
    induction n with
    | zero => intro v1 v2 M h; exact h.elim
    | succ n ih => intro v1 v2 M h; exact w_Fl_allHarvests_4 hE hR f0 (show k_Fl_allHarvests_4 a0 Q (lp_Fl_allHarvests_4 a0 Q n)  v1 v2 M from h) ih 
  exact key n _ _ _ h
set_option maxHeartbeats 4000000 in
set_option maxRecDepth 20000 in
theorem t_Fl_allHarvests {l : Launch} {G : Gs} {d : Nat} {a0 : Nat} {M : Mm} {Q : Int32 → Mm → Prop} (f0 : kd a0 = 2) (h : wp_Fl_allHarvests a0 M Q) : CtI l G (d + 1) yX2_allHarvests cX2_allHarvests 3 (some .int) [rv G a0] M Q := by
  refine CtI.mk (by decide) rfl (Nat.le_of_ble_eq_true rfl) (fun E hE hR => ?_)
  show E 0 [(0, rv G a0)] [] M
  unfold wp_Fl_allHarvests at h
  refine e_iconst (pc := 0) (v := 0) hE ki_0 dX2_allHarvests_0 ?_
  refine e_istore_n (pc := 1) (lv' := [(1, .int (0 : Int32)), (0, rv G a0)]) hE dX2_allHarvests_1 rfl (by decide) rfl ?_
  refine e_iconst (pc := 2) (v := 0) hE ki_0 dX2_allHarvests_2 ?_
  refine e_istore_n (pc := 3) (lv' := [(2, .int (0 : Int32)), (1, .int (0 : Int32)), (0, rv G a0)]) hE dX2_allHarvests_3 rfl (by decide) rfl ?_
  obtain ⟨n, h⟩ := h
  refine e_sub hE [2, 1, 0] rfl ?_
  refine w_lp_Fl_allHarvests_4 hE hR f0 h 
set_option maxHeartbeats 4000000 in
set_option maxRecDepth 20000 in
theorem w_Sh_digestOnto_33 {l : Launch} {G : Gs} {d : Nat} {E : EE} {a0 : Nat} {a1 : Int64} {Q : Int64 → Mm → Prop} (hE : Mach l G RX7 cX7_digestOnto 7 (d + 0) E) (hR : RtL cX7_digestOnto E Q) (f0 : isSh a0)  {KB : Int64 → Int32 → Int32 → Mm → Prop} {K69 : Int64 → Int32 → Mm → Prop} {v3 : Int64} {v5 : Int32} {v6 : Int32} {M : Mm} (h : k_Sh_digestOnto_33 a0 a1 Q KB K69 v3 v5 v6 M) (hKB : ∀ (v3 : Int64) (v5 : Int32) (v6 : Int32)  (M : Mm), KB v3 v5 v6 M → E 33 [(0, rv G a0), (3, .long v3), (5, .int v5), (6, .int v6)] [] M) (hK69 : ∀ (v3 : Int64) (v5 : Int32)  (M : Mm), K69 v3 v5 M → E 69 [(0, rv G a0), (3, .long v3), (5, .int v5)] [] M) : E 33 [(0, rv G a0), (3, .long v3), (5, .int v5), (6, .int v6)] [] M := by
  unfold k_Sh_digestOnto_33 at h
  refine e_iload (pc := 33) hE 3 rfl dX7_digestOnto_33 ?_
  refine e_aload_n (pc := 35) hE rfl 0 rfl dX7_digestOnto_35 ?_
  refine g_Shelf_sizes (pc := 36) hE (sh_kd f0) tw_116 dX7_digestOnto_36 ?_
  refine e_iload (pc := 39) hE 2 rfl dX7_digestOnto_39 ?_
  refine e_iald (pc := 41) hE (sh_sizes f0) h.1 dX7_digestOnto_41 ?_
  have h := h.2
  refine e_icmp_ge (pc := 42) hE 69 dX7_digestOnto_42 (by decide) (fun c0 => ?_) (fun c0 => ?_)
  · have h := h.1 c0
    refine e_sub hE [0, 1, 2] rfl ?_
    exact hK69 _ _ _ h
  · have h := h.2 c0
    refine e_ldc2 (pc := 45) hE tw_992 dX7_digestOnto_45 ?_
    refine e_lload_n (pc := 48) hE rfl 1 rfl dX7_digestOnto_48 ?_
    refine e_lmul (pc := 49) hE dX7_digestOnto_49 ?_
    refine e_aload_n (pc := 50) hE rfl 0 rfl dX7_digestOnto_50 ?_
    refine g_Shelf_places (pc := 51) hE (sh_kd f0) tw_115 dX7_digestOnto_51 ?_
    refine e_iload (pc := 54) hE 2 rfl dX7_digestOnto_54 ?_
    have hx56 := (rw_of f0) h.1
    refine e_gald (pc := 56) hE (sh_places f0) h.1 dX7_digestOnto_56 ?_
    have h := h.2
    refine e_iload (pc := 57) hE 3 rfl dX7_digestOnto_57 ?_
    refine e_iald (pc := 59) hE hx56 h.1 dX7_digestOnto_59 ?_
    have h := h.2
    refine e_i2l (pc := 60) hE dX7_digestOnto_60 ?_
    refine e_ladd (pc := 61) hE dX7_digestOnto_61 ?_
    refine e_topl (fun x62 ex62 => ?_)
    have h := h x62 ex62
    refine e_lstore_n (pc := 62) (lv' := [(3, .long x62), (0, rv G a0), (5, .int v5), (6, .int v6)]) hE dX7_digestOnto_62 rfl (by decide) rfl ?_
    obtain ⟨x63, ex63⟩ : ∃ y : Int32, y = v6 + (1 : Int32) := ⟨_, rfl⟩
    have h := h x63 ex63
    refine e_iinc (pc := 63) (k := 3) (v := x63) (lv' := [(6, .int x63), (3, .long x62), (0, rv G a0), (5, .int v5)]) hE dX7_digestOnto_63 rfl (by rw [ex63, ki_1]) (by decide) rfl ?_
    refine e_goto (pc := 66) hE 33 dX7_digestOnto_66 (by decide) ?_
    refine e_sub hE [2, 1, 3, 0] rfl ?_
    exact hKB _ _ _ _ h
set_option maxHeartbeats 4000000 in
set_option maxRecDepth 20000 in
theorem w_lp_Sh_digestOnto_33 {l : Launch} {G : Gs} {d : Nat} {E : EE} {a0 : Nat} {a1 : Int64} {Q : Int64 → Mm → Prop} (hE : Mach l G RX7 cX7_digestOnto 7 (d + 0) E) (hR : RtL cX7_digestOnto E Q) (f0 : isSh a0)  {K69 : Int64 → Int32 → Mm → Prop} {n : Nat} {v3 : Int64} {v5 : Int32} {v6 : Int32} {M : Mm} (h : lp_Sh_digestOnto_33 a0 a1 Q K69 n v3 v5 v6 M) (hK69 : ∀ (v3 : Int64) (v5 : Int32)  (M : Mm), K69 v3 v5 M → E 69 [(0, rv G a0), (3, .long v3), (5, .int v5)] [] M) : E 33 [(0, rv G a0), (3, .long v3), (5, .int v5), (6, .int v6)] [] M := by
  have key : ∀ (n : Nat) (v3 : Int64) (v5 : Int32) (v6 : Int32) (M : Mm), lp_Sh_digestOnto_33 a0 a1 Q K69 n v3 v5 v6 M → E 33 [(0, rv G a0), (3, .long v3), (5, .int v5), (6, .int v6)] [] M := by
    intro n
    induction n with
    | zero => intro v3 v5 v6 M h; exact h.elim
    | succ n ih => intro v3 v5 v6 M h; exact w_Sh_digestOnto_33 hE hR f0 (show k_Sh_digestOnto_33 a0 a1 Q (lp_Sh_digestOnto_33 a0 a1 Q K69 n) K69 v3 v5 v6 M from h) ih hK69
  exact key n _ _ _ _ h
set_option maxHeartbeats 4000000 in
set_option maxRecDepth 20000 in
theorem w_Sh_digestOnto_5 {l : Launch} {G : Gs} {d : Nat} {E : EE} {a0 : Nat} {a1 : Int64} {Q : Int64 → Mm → Prop} (hE : Mach l G RX7 cX7_digestOnto 7 (d + 0) E) (hR : RtL cX7_digestOnto E Q) (f0 : isSh a0)  {KB : Int64 → Int32 → Mm → Prop} {v3 : Int64} {v5 : Int32} {M : Mm} (h : k_Sh_digestOnto_5 a0 a1 Q KB v3 v5 M) (hKB : ∀ (v3 : Int64) (v5 : Int32)  (M : Mm), KB v3 v5 M → E 5 [(0, rv G a0), (3, .long v3), (5, .int v5)] [] M) : E 5 [(0, rv G a0), (3, .long v3), (5, .int v5)] [] M := by
  unfold k_Sh_digestOnto_5 at h
  refine e_iload (pc := 5) hE 2 rfl dX7_digestOnto_5 ?_
  refine e_aload_n (pc := 7) hE rfl 0 rfl dX7_digestOnto_7 ?_
  refine g_Shelf_sizes (pc := 8) hE (sh_kd f0) tw_116 dX7_digestOnto_8 ?_
  refine e_ilen (pc := 11) hE (sh_sizes f0) rfl dX7_digestOnto_11 ?_
  refine e_icmp_ge (pc := 12) hE 75 dX7_digestOnto_12 (by decide) (fun c0 => ?_) (fun c0 => ?_)
  · have h := h.1 c0
    refine e_lload_n (pc := 75) hE rfl 1 rfl dX7_digestOnto_75 ?_
    exact hR dX7_digestOnto_76 h
  · have h := h.2 c0
    refine e_ldc2 (pc := 15) hE tw_992 dX7_digestOnto_15 ?_
    refine e_lload_n (pc := 18) hE rfl 1 rfl dX7_digestOnto_18 ?_
    refine e_lmul (pc := 19) hE dX7_digestOnto_19 ?_
    refine e_aload_n (pc := 20) hE rfl 0 rfl dX7_digestOnto_20 ?_
    refine g_Shelf_sizes (pc := 21) hE (sh_kd f0) tw_116 dX7_digestOnto_21 ?_
    refine e_iload (pc := 24) hE 2 rfl dX7_digestOnto_24 ?_
    refine e_iald (pc := 26) hE (sh_sizes f0) h.1 dX7_digestOnto_26 ?_
    have h := h.2
    refine e_i2l (pc := 27) hE dX7_digestOnto_27 ?_
    refine e_ladd (pc := 28) hE dX7_digestOnto_28 ?_
    refine e_topl (fun x29 ex29 => ?_)
    have h := h x29 ex29
    refine e_lstore_n (pc := 29) (lv' := [(3, .long x29), (0, rv G a0), (5, .int v5)]) hE dX7_digestOnto_29 rfl (by decide) rfl ?_
    refine e_iconst (pc := 30) (v := 0) hE ki_0 dX7_digestOnto_30 ?_
    refine e_istore (pc := 31) (lv' := [(6, .int (0 : Int32)), (3, .long x29), (0, rv G a0), (5, .int v5)]) hE dX7_digestOnto_31 (by decide) rfl ?_
    obtain ⟨n, h⟩ := h
    refine e_sub hE [2, 1, 3, 0] rfl ?_
    refine w_lp_Sh_digestOnto_33 hE hR f0 h (fun v3 v5 M h => ?_)
    obtain ⟨x69, ex69⟩ : ∃ y : Int32, y = v5 + (1 : Int32) := ⟨_, rfl⟩
    have h := h x69 ex69
    refine e_iinc (pc := 69) (k := 2) (v := x69) (lv' := [(5, .int x69), (0, rv G a0), (3, .long v3)]) hE dX7_digestOnto_69 rfl (by rw [ex69, ki_1]) (by decide) rfl ?_
    refine e_goto (pc := 72) hE 5 dX7_digestOnto_72 (by decide) ?_
    refine e_sub hE [1, 2, 0] rfl ?_
    exact hKB _ _ _ h
set_option maxHeartbeats 4000000 in
set_option maxRecDepth 20000 in
theorem w_lp_Sh_digestOnto_5 {l : Launch} {G : Gs} {d : Nat} {E : EE} {a0 : Nat} {a1 : Int64} {Q : Int64 → Mm → Prop} (hE : Mach l G RX7 cX7_digestOnto 7 (d + 0) E) (hR : RtL cX7_digestOnto E Q) (f0 : isSh a0)   {n : Nat} {v3 : Int64} {v5 : Int32} {M : Mm} (h : lp_Sh_digestOnto_5 a0 a1 Q n v3 v5 M)  : E 5 [(0, rv G a0), (3, .long v3), (5, .int v5)] [] M := by
  have key : ∀ (n : Nat) (v3 : Int64) (v5 : Int32) (M : Mm), lp_Sh_digestOnto_5 a0 a1 Q n v3 v5 M → E 5 [(0, rv G a0), (3, .long v3), (5, .int v5)] [] M := by
    intro n
    induction n with
    | zero => intro v3 v5 M h; exact h.elim
    | succ n ih => intro v3 v5 M h; exact w_Sh_digestOnto_5 hE hR f0 (show k_Sh_digestOnto_5 a0 a1 Q (lp_Sh_digestOnto_5 a0 a1 Q n)  v3 v5 M from h) ih 
  exact key n _ _ _ h
set_option maxHeartbeats 4000000 in
set_option maxRecDepth 20000 in
theorem t_Sh_digestOnto {l : Launch} {G : Gs} {d : Nat} {a0 : Nat} {a1 : Int64} {M : Mm} {Q : Int64 → Mm → Prop} (f0 : isSh a0) (h : wp_Sh_digestOnto a0 a1 M Q) : CtL l G (d + 0) yX7_digestOnto cX7_digestOnto 7 (some .long) [rv G a0, .long a1] M Q := by
  refine CtL.mk (by decide) rfl (Nat.le_of_ble_eq_true rfl) (fun E hE hR => ?_)
  show E 0 [(0, rv G a0), (1, .long a1)] [] M
  unfold wp_Sh_digestOnto at h
  refine e_lload_n (pc := 0) hE rfl 1 rfl dX7_digestOnto_0 ?_
  refine e_lstore_n (pc := 1) (lv' := [(3, .long a1), (0, rv G a0), (1, .long a1)]) hE dX7_digestOnto_1 rfl (by decide) rfl ?_
  refine e_iconst (pc := 2) (v := 0) hE ki_0 dX7_digestOnto_2 ?_
  refine e_istore (pc := 3) (lv' := [(5, .int (0 : Int32)), (3, .long a1), (0, rv G a0), (1, .long a1)]) hE dX7_digestOnto_3 (by decide) rfl ?_
  obtain ⟨n, h⟩ := h
  refine e_sub hE [2, 1, 0] rfl ?_
  refine w_lp_Sh_digestOnto_5 hE hR f0 h 
