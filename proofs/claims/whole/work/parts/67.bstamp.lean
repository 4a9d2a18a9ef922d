theorem B_follower {C : Nat → Nat → Nat} {F : Nat → Nat} {n : Nat} {M : Mm} {k i : Nat} (hC : OkC C) (hB : ChB C M) (hO : OkQ n F) (h2 : gi M k 2 = nI (mk F 20)) (h3 : gi M k 3 = nI (mk F 25)) (hi : i < C 0 0) {Q : Int32 → Mm → Prop} (h : Q (if fol C F i then nI (i + 1) else -nI 9) M) : wp_Fl_followerOf k 20 (nI i) M Q := by
  have hn := hC.1
  have k1 := (hB.2.2 i hi).1
  have o1 := (hC.2.2 i hi).1
  have b1 := hB.1
  have lb := mk_lt hO.b
  have ld := mk_lt hO.d
  by_cases c : C 1 i = 5
  · by_cases c2 : i + 1 < C 0 0
    · simp (disch := omega) only [fa_lit0, xI_le_T, xI_le_F, xI_lt_T, xI_lt_F, xI_eq_T, xI_eq_F, xN_a, xN_b, xN_c, xN_d, xN_e, xN_f, xN_g, xN_h, xI_add, xI_mul, xI_sub, xI_tn, xI_in, xI_ofNat, gi_si_eq, gi_n1, gi_n2, gl_sl_eq, gl_n1, gl_n2, gi_sl, gl_si, forall_eq, true_implies, false_implies, not_true_eq_false, not_false_eq_true, and_true, true_and, implies_true, and_self, wp_Fl_followerOf, k1, c, k_Fl_followerOf_26, k_Fl_followerOf_27, wp_Ch_hasArm, b1, h2, h3, bs_or]
      refine B_has (or_lt _ ld _ lb) (by omega) ?_
      have e := or_bit _ ld _ lb (i + 1) (by omega)
      rw [mk_bit hO.d (by omega), mk_bit hO.b (by omega)] at e
      have q1 := hO.d (i + 1) (by omega)
      have q2 := hO.b (i + 1) (by omega)
      rw [e]
      by_cases c3 : F (25 + (i + 1)) = 1 ∨ F (20 + (i + 1)) = 1
      · rw [if_pos c3]
        rw [if_neg (fun w => by have := w.2.2; omega)] at h
        simp (disch := omega) only [fa_lit0, xI_le_T, xI_le_F, xI_lt_T, xI_lt_F, xI_eq_T, xI_eq_F, xN_a, xN_b, xN_c, xN_d, xN_e, xN_f, xN_g, xN_h, xI_add, xI_mul, xI_sub, xI_tn, xI_in, xI_ofNat, gi_si_eq, gi_n1, gi_n2, gl_sl_eq, gl_n1, gl_n2, gi_sl, gl_si, forall_eq, true_implies, false_implies, not_true_eq_false, not_false_eq_true, and_true, true_and, implies_true, and_self]
        exact h
      · rw [if_neg c3]
        rw [if_pos ⟨c, c2, by omega, by omega⟩] at h
        simp (disch := omega) only [fa_lit0, xI_le_T, xI_le_F, xI_lt_T, xI_lt_F, xI_eq_T, xI_eq_F, xN_a, xN_b, xN_c, xN_d, xN_e, xN_f, xN_g, xN_h, xI_add, xI_mul, xI_sub, xI_tn, xI_in, xI_ofNat, gi_si_eq, gi_n1, gi_n2, gl_sl_eq, gl_n1, gl_n2, gi_sl, gl_si, forall_eq, true_implies, false_implies, not_true_eq_false, not_false_eq_true, and_true, true_and, implies_true, and_self]
        exact h
    · rw [if_neg (fun w => c2 w.2.1)] at h
      simp (disch := omega) only [fa_lit0, xI_le_T, xI_le_F, xI_lt_T, xI_lt_F, xI_eq_T, xI_eq_F, xN_a, xN_b, xN_c, xN_d, xN_e, xN_f, xN_g, xN_h, xI_add, xI_mul, xI_sub, xI_tn, xI_in, xI_ofNat, gi_si_eq, gi_n1, gi_n2, gl_sl_eq, gl_n1, gl_n2, gi_sl, gl_si, forall_eq, true_implies, false_implies, not_true_eq_false, not_false_eq_true, and_true, true_and, implies_true, and_self, wp_Fl_followerOf, k1, c, k_Fl_followerOf_26, k_Fl_followerOf_27, wp_Ch_hasArm, b1]
      exact h
  · rw [if_neg (fun w => c w.1)] at h
    simp (disch := omega) only [fa_lit0, xI_le_T, xI_le_F, xI_lt_T, xI_lt_F, xI_eq_T, xI_eq_F, xN_a, xN_b, xN_c, xN_d, xN_e, xN_f, xN_g, xN_h, xI_add, xI_mul, xI_sub, xI_tn, xI_in, xI_ofNat, gi_si_eq, gi_n1, gi_n2, gl_sl_eq, gl_n1, gl_n2, gi_sl, gl_si, forall_eq, true_implies, false_implies, not_true_eq_false, not_false_eq_true, and_true, true_and, implies_true, and_self, wp_Fl_followerOf, k1, k_Fl_followerOf_26, k_Fl_followerOf_27]
    exact h
theorem fol_up {C : Nat → Nat → Nat} {F : Nat → Nat} {i x : Nat} (hi : i < 5) : fol C (up F i x) i = fol C F i := by
  unfold fol
  rw [up_ne (by omega), up_ne (by omega)]
theorem OkF.upq {n : Nat} {F : Nat → Nat} (h : OkF n F) {i x : Nat} (hi : i < n) (hn : n ≤ 5) (hx : x ≤ 1) : OkQ n (up F i x) := (h.upo hi hn hx).q
theorem mk_up0 {F : Nat → Nat} {i x : Nat} (hF : ∀ i, i < 5 → F (0 + i) ≤ 1) (hi : i < 5) : mk (up F i x) 0 = bset (mk F 0) i x := by
  have e := mk_up (x := x) hF hi
  rwa [Nat.zero_add] at e
theorem B_stampArm {C : Nat → Nat → Nat} {F : Nat → Nat} {M : Mm} {k i : Nat} (hW : CW C M) (hO : OkF (C 0 0) F) (hF : FlB F M k) (hk : k < 20 ∨ 27 < k) (hi : i < C 0 0) {Q : Mm → Prop} (h : ∀ M', Sm (SB k) M M' → CW C M' → FlB (stp C F i) M' k → Q M') : wp_Fl_stampArm k 20 (nI i) M Q := by
  have hn := hW.1.1
  have lo := mk_lt hO.o
  have hO1 := hO.upq hi hn (x := 1 - F i) (by omega)
  have lo1 := mk_lt hO1.o
  have f1 := hF.w1 (i := i) (x := 1 - F i) (by omega)
  have w1 : CW C (si M k 1 (nI (mk (up F i (1 - F i)) 0))) := hW.w hk
  have s1 : Sm (SB k) M (si M k 1 (nI (mk (up F i (1 - F i)) 0))) := (Sm.refl _ M).wi (SB_refl k 1)
  unfold wp_Fl_stampArm
  rw [hF.2.1]
  simp (disch := omega) only [fa_lit0, xI_le_T, xI_le_F, xI_lt_T, xI_lt_F, xI_eq_T, xI_eq_F, xN_a, xN_b, xN_c, xN_d, xN_e, xN_f, xN_g, xN_h, xI_add, xI_mul, xI_sub, xI_tn, xI_in, xI_ofNat, gi_si_eq, gi_n1, gi_n2, gl_sl_eq, gl_n1, gl_n2, gi_sl, gl_si, forall_eq, true_implies, false_implies, not_true_eq_false, not_false_eq_true, and_true, true_and, implies_true, and_self]
  rw [bset_xr _ lo i (by omega), hO.ob (by omega), ← mk_up0 hO.o (by omega)]
  refine B_follower w1.1 w1.2.1 hO1 f1.2.2.1 f1.2.2.2.1 hi ?_
  unfold stp at h
  by_cases c : fol C F i
  · rw [if_pos (by rw [fol_up (by omega)]; exact c)]
    rw [if_pos c] at h
    have hi1 := c.2.1
    simp (disch := omega) only [fa_lit0, xI_le_T, xI_le_F, xI_lt_T, xI_lt_F, xI_eq_T, xI_eq_F, xN_a, xN_b, xN_c, xN_d, xN_e, xN_f, xN_g, xN_h, xI_add, xI_mul, xI_sub, xI_tn, xI_in, xI_ofNat, gi_si_eq, gi_n1, gi_n2, gl_sl_eq, gl_n1, gl_n2, gi_sl, gl_si, forall_eq, true_implies, false_implies, not_true_eq_false, not_false_eq_true, and_true, true_and, implies_true, and_self]
    refine B_has lo1 (by omega) ?_
    rw [hO1.ob (by omega), up_eq]
    refine B_with lo1 (by omega) (by omega) ?_
    rw [← mk_up0 hO1.o (by omega)]
    exact h _ (s1.wi (SB_refl k 1)) (w1.w hk) (f1.w1 (by omega))
  · rw [if_neg (by rw [fol_up (by omega)]; exact c)]
    rw [if_neg c] at h
    simp (disch := omega) only [fa_lit0, xI_le_T, xI_le_F, xI_lt_T, xI_lt_F, xI_eq_T, xI_eq_F, xN_a, xN_b, xN_c, xN_d, xN_e, xN_f, xN_g, xN_h, xI_add, xI_mul, xI_sub, xI_tn, xI_in, xI_ofNat, gi_si_eq, gi_n1, gi_n2, gl_sl_eq, gl_n1, gl_n2, gi_sl, gl_si, forall_eq, true_implies, false_implies, not_true_eq_false, not_false_eq_true, and_true, true_and, implies_true, and_self]
    exact h _ s1 w1 f1
theorem B_stampSet {C : Nat → Nat → Nat} {F : Nat → Nat} {M : Mm} {k s : Nat} (hW : CW C M) (hO : OkF (C 0 0) F) (hF : FlB F M k) (hk : k < 20 ∨ 27 < k) (hs : s < 32) {Q : Int32 → Mm → Prop} (h : ∀ M', Sm (SB k) M M' → CW C M' → FlB (ssF C s F (C 0 0)) M' k → Q (nI (ssD C s F (C 0 0))) M') : wp_Fl_stampSet k 20 (nI s) M Q := by
  have hC := hW.1
  have hn := hC.1
  have key : ∀ (d m : Nat), m + d = C 0 0 → ∀ M1, Sm (SB k) M M1 → CW C M1 → FlB (ssF C s F m) M1 k → lp_Fl_stampSet_5 k 20 (nI s) Q (d + 1) (nI (ssD C s F m)) (nI m) M1 := by
    intro d
    induction d with
    | zero =>
      intro m hm M1 s1 w1 f1
      have hm : m = C 0 0 := by omega
      subst hm
      have b1 := w1.2.1.1
      show k_Fl_stampSet_5 k 20 (nI s) Q _ _ _ M1
      unfold k_Fl_stampSet_5
      simp (disch := omega) only [fa_lit0, xI_le_T, xI_le_F, xI_lt_T, xI_lt_F, xI_eq_T, xI_eq_F, xN_a, xN_b, xN_c, xN_d, xN_e, xN_f, xN_g, xN_h, xI_add, xI_mul, xI_sub, xI_tn, xI_in, xI_ofNat, gi_si_eq, gi_n1, gi_n2, gl_sl_eq, gl_n1, gl_n2, gi_sl, gl_si, forall_eq, true_implies, false_implies, not_true_eq_false, not_false_eq_true, and_true, true_and, implies_true, and_self, b1]
      exact h M1 s1 w1 f1
    | succ d ih =>
      intro m hm M1 s1 w1 f1
      have b1 := w1.2.1.1
      have hOm := (hO.ss (s := s) hC m (by omega)).1
      have ih1 := ih (m + 1) (by omega)
      have e1 : ssF C s F (m + 1) = if s / 2 ^ m % 2 = 1 ∧ may C (ssF C s F m) m = 1 then stp C (ssF C s F m) m else ssF C s F m := rfl
      have e2 : ssD C s F (m + 1) = ssD C s F m + (if s / 2 ^ m % 2 = 1 ∧ may C (ssF C s F m) m = 1 then 1 else 0) * 2 ^ m := rfl
      have hml := may_le C (ssF C s F m) m
      show k_Fl_stampSet_5 k 20 (nI s) Q _ _ _ M1
      unfold k_Fl_stampSet_5
      simp (disch := omega) only [fa_lit0, xI_le_T, xI_le_F, xI_lt_T, xI_lt_F, xI_eq_T, xI_eq_F, xN_a, xN_b, xN_c, xN_d, xN_e, xN_f, xN_g, xN_h, xI_add, xI_mul, xI_sub, xI_tn, xI_in, xI_ofNat, gi_si_eq, gi_n1, gi_n2, gl_sl_eq, gl_n1, gl_n2, gi_sl, gl_si, forall_eq, true_implies, false_implies, not_true_eq_false, not_false_eq_true, and_true, true_and, implies_true, and_self, b1]
      refine B_has hs (by omega) ?_
      rcases (show s / 2 ^ m % 2 = 0 ∨ s / 2 ^ m % 2 = 1 by omega) with c | c
      · rw [if_neg (by omega)] at e1 e2
        rw [e1, e2, Nat.zero_mul, Nat.add_zero] at ih1
        simp (disch := omega) only [fa_lit0, xI_le_T, xI_le_F, xI_lt_T, xI_lt_F, xI_eq_T, xI_eq_F, xN_a, xN_b, xN_c, xN_d, xN_e, xN_f, xN_g, xN_h, xI_add, xI_mul, xI_sub, xI_tn, xI_in, xI_ofNat, gi_si_eq, gi_n1, gi_n2, gl_sl_eq, gl_n1, gl_n2, gi_sl, gl_si, forall_eq, true_implies, false_implies, not_true_eq_false, not_false_eq_true, and_true, true_and, implies_true, and_self, c, k_Fl_stampSet_47]
        exact ih1 M1 s1 w1 f1
      · simp (disch := omega) only [fa_lit0, xI_le_T, xI_le_F, xI_lt_T, xI_lt_F, xI_eq_T, xI_eq_F, xN_a, xN_b, xN_c, xN_d, xN_e, xN_f, xN_g, xN_h, xI_add, xI_mul, xI_sub, xI_tn, xI_in, xI_ofNat, gi_si_eq, gi_n1, gi_n2, gl_sl_eq, gl_n1, gl_n2, gi_sl, gl_si, forall_eq, true_implies, false_implies, not_true_eq_false, not_false_eq_true, and_true, true_and, implies_true, and_self, c]
        refine B_may hC w1.2.1 hOm f1 (by omega) ?_
        rcases (show may C (ssF C s F m) m = 0 ∨ may C (ssF C s F m) m = 1 by omega) with c2 | c2
        · rw [if_neg (by omega)] at e1 e2
          rw [e1, e2, Nat.zero_mul, Nat.add_zero] at ih1
          simp (disch := omega) only [fa_lit0, xI_le_T, xI_le_F, xI_lt_T, xI_lt_F, xI_eq_T, xI_eq_F, xN_a, xN_b, xN_c, xN_d, xN_e, xN_f, xN_g, xN_h, xI_add, xI_mul, xI_sub, xI_tn, xI_in, xI_ofNat, gi_si_eq, gi_n1, gi_n2, gl_sl_eq, gl_n1, gl_n2, gi_sl, gl_si, forall_eq, true_implies, false_implies, not_true_eq_false, not_false_eq_true, and_true, true_and, implies_true, and_self, c2, k_Fl_stampSet_47]
          exact ih1 M1 s1 w1 f1
        · rw [if_pos ⟨c, c2⟩] at e1 e2
          rw [e1, e2, Nat.one_mul] at ih1
          simp (disch := omega) only [fa_lit0, xI_le_T, xI_le_F, xI_lt_T, xI_lt_F, xI_eq_T, xI_eq_F, xN_a, xN_b, xN_c, xN_d, xN_e, xN_f, xN_g, xN_h, xI_add, xI_mul, xI_sub, xI_tn, xI_in, xI_ofNat, gi_si_eq, gi_n1, gi_n2, gl_sl_eq, gl_n1, gl_n2, gi_sl, gl_si, forall_eq, true_implies, false_implies, not_true_eq_false, not_false_eq_true, and_true, true_and, implies_true, and_self, c2]
          refine B_stampArm w1 hOm f1 hk (by omega) fun M2 s2 w2 f2 => ?_
          simp (disch := omega) only [fa_lit0, xI_le_T, xI_le_F, xI_lt_T, xI_lt_F, xI_eq_T, xI_eq_F, xN_a, xN_b, xN_c, xN_d, xN_e, xN_f, xN_g, xN_h, xI_add, xI_mul, xI_sub, xI_tn, xI_in, xI_ofNat, gi_si_eq, gi_n1, gi_n2, gl_sl_eq, gl_n1, gl_n2, gi_sl, gl_si, forall_eq, true_implies, false_implies, not_true_eq_false, not_false_eq_true, and_true, true_and, implies_true, and_self, k_Fl_stampSet_47, bs_l]
          rw [or_top m (by omega) _ (ssD_lt m (by omega))]
          exact ih1 M2 (s1.trans s2) w2 f2
  exact ⟨_, key (C 0 0) 0 (by omega) M (Sm.refl _ M) hW hF⟩
theorem B_copy {F : Nat → Nat} {M : Mm} {k k1 : Nat} (hF : FlB F M k1) (hk : k ≠ k1) {Q : Mm → Prop} (h : ∀ M', Sm (fun a _ => a = k) M M' → FlB F M' k → Q M') : wp_Fl_copyFrom k k1 M Q := by
  obtain ⟨h0, h1, h2, h3, h4, h5, h6⟩ := hF
  have hk' : k1 ≠ k := hk.symm
  simp (disch := omega) only [fa_lit0, xI_le_T, xI_le_F, xI_lt_T, xI_lt_F, xI_eq_T, xI_eq_F, xN_a, xN_b, xN_c, xN_d, xN_e, xN_f, xN_g, xN_h, xI_add, xI_mul, xI_sub, xI_tn, xI_in, xI_ofNat, gi_si_eq, gi_n1, gi_n2, gl_sl_eq, gl_n1, gl_n2, gi_sl, gl_si, forall_eq, true_implies, false_implies, not_true_eq_false, not_false_eq_true, and_true, true_and, implies_true, and_self, wp_Fl_copyFrom, h0, h1, h2, h3, h4, h5, h6]
  have z : Sm (fun a (_ : Nat) => a = k) M M := Sm.refl _ M
  refine h _ (((((((z.wi rfl).wi rfl).wi rfl).wi rfl).wi rfl).wi rfl).wl rfl) ?_
  unfold FlB
  simp (disch := omega) only [fa_lit0, xI_le_T, xI_le_F, xI_lt_T, xI_lt_F, xI_eq_T, xI_eq_F, xN_a, xN_b, xN_c, xN_d, xN_e, xN_f, xN_g, xN_h, xI_add, xI_mul, xI_sub, xI_tn, xI_in, xI_ofNat, gi_si_eq, gi_n1, gi_n2, gl_sl_eq, gl_n1, gl_n2, gi_sl, gl_si, forall_eq, true_implies, false_implies, not_true_eq_false, not_false_eq_true, and_true, true_and, implies_true, and_self]
/-! the reference -/
theorem M_wide {C : Nat → Nat → Nat} {F : Nat → Nat} {M : Mm} {f : Nat} (hW : MW C M) (hO : OkQ (C 0 0) F) (hF : FM F M f) (hf : f < 6) {Q : Int32 → Mm → Prop} (h : Q (nI (wsum C (mk F 0) (C 0 0))) M) : wp_M_wideOpen (nI f) M Q := by
  obtain ⟨hC, m1, m2, m3⟩ := hW
  have hn := hC.1
  have key : ∀ (d m : Nat), m + d = C 0 0 → lp_M_wideOpen_4 (nI f) Q (d + 1) (nI (wsum C (mk F 0) m)) (nI m) M := by
    intro d
    induction d with
    | zero =>
      intro m hm
      have hm : m = C 0 0 := by omega
      subst hm
      show k_M_wideOpen_4 (nI f) Q _ _ _ M
      unfold k_M_wideOpen_4
      simp (disch := omega) only [fa_lit0, xI_le_T, xI_le_F, xI_lt_T, xI_lt_F, xI_eq_T, xI_eq_F, xN_a, xN_b, xN_c, xN_d, xN_e, xN_f, xN_g, xN_h, xI_add, xI_mul, xI_sub, xI_tn, xI_in, xI_ofNat, gi_si_eq, gi_n1, gi_n2, gl_sl_eq, gl_n1, gl_n2, gi_sl, gl_si, forall_eq, true_implies, false_implies, not_true_eq_false, not_false_eq_true, and_true, true_and, implies_true, and_self, m1]
      exact h
    | succ d ih =>
      intro m hm
      have k2 := (m3 m (by omega)).2.1
      have q1 := (hO.1 m (by omega)).1
      have e : wsum C (mk F 0) (m + 1) = wsum C (mk F 0) m + F m * C 2 m := by
        show wsum C (mk F 0) m + mk F 0 / 2 ^ m % 2 * C 2 m = _
        rw [hO.ob (by omega)]
      have ih1 := ih (m + 1) (by omega)
      show k_M_wideOpen_4 (nI f) Q _ _ _ M
      unfold k_M_wideOpen_4
      simp (disch := omega) only [fa_lit0, xI_le_T, xI_le_F, xI_lt_T, xI_lt_F, xI_eq_T, xI_eq_F, xN_a, xN_b, xN_c, xN_d, xN_e, xN_f, xN_g, xN_h, xI_add, xI_mul, xI_sub, xI_tn, xI_in, xI_ofNat, gi_si_eq, gi_n1, gi_n2, gl_sl_eq, gl_n1, gl_n2, gi_sl, gl_si, forall_eq, true_implies, false_implies, not_true_eq_false, not_false_eq_true, and_true, true_and, implies_true, and_self, m1]
      refine M_open q1 hF hf (by omega) ?_
      rcases (show F m = 0 ∨ F m = 1 by omega) with w | w
      · rw [e, w, Nat.zero_mul] at ih1
        simp (disch := omega) only [fa_lit0, xI_le_T, xI_le_F, xI_lt_T, xI_lt_F, xI_eq_T, xI_eq_F, xN_a, xN_b, xN_c, xN_d, xN_e, xN_f, xN_g, xN_h, xI_add, xI_mul, xI_sub, xI_tn, xI_in, xI_ofNat, gi_si_eq, gi_n1, gi_n2, gl_sl_eq, gl_n1, gl_n2, gi_sl, gl_si, forall_eq, true_implies, false_implies, not_true_eq_false, not_false_eq_true, and_true, true_and, implies_true, and_self, w, k_M_wideOpen_32]
        exact ih1
      · rw [e, w, Nat.one_mul] at ih1
        simp (disch := omega) only [fa_lit0, xI_le_T, xI_le_F, xI_lt_T, xI_lt_F, xI_eq_T, xI_eq_F, xN_a, xN_b, xN_c, xN_d, xN_e, xN_f, xN_g, xN_h, xI_add, xI_mul, xI_sub, xI_tn, xI_in, xI_ofNat, gi_si_eq, gi_n1, gi_n2, gl_sl_eq, gl_n1, gl_n2, gi_sl, gl_si, forall_eq, true_implies, false_implies, not_true_eq_false, not_false_eq_true, and_true, true_and, implies_true, and_self, w, k_M_wideOpen_32, k2]
        exact ih1
  exact ⟨_, key (C 0 0) 0 (by omega)⟩
theorem M_water {C : Nat → Nat → Nat} {F : Nat → Nat} {M : Mm} {f i : Nat} (hW : MW C M) (hO : OkQ (C 0 0) F) (hF : FM F M f) (hf : f < 6) (hi : i < C 0 0) {Q : Int32 → Mm → Prop} (h : Q (nI (wat C (mk F 0) i)) M) : wp_M_waterOf (nI f) (nI i) M Q := by
  have hW' := hW
  obtain ⟨hC, m1, m2, m3⟩ := hW'
  have hn := hC.1
  obtain ⟨k1, k2, -, -, -, -⟩ := m3 i hi
  have o1 := (hC.2.2 i hi).1
  have q1 := (hO.1 i (by omega)).1
  unfold wp_M_waterOf
  refine M_open q1 hF hf (by omega) ?_
  unfold wat at h
  rw [hO.ob (by omega)] at h
  rcases (show F i = 0 ∨ F i = 1 by omega) with w | w
  · rw [if_pos w] at h
    by_cases h4 : C 1 i = 4
    · rw [if_pos h4] at h
      simp (disch := omega) only [fa_lit0, xI_le_T, xI_le_F, xI_lt_T, xI_lt_F, xI_eq_T, xI_eq_F, xN_a, xN_b, xN_c, xN_d, xN_e, xN_f, xN_g, xN_h, xI_add, xI_mul, xI_sub, xI_tn, xI_in, xI_ofNat, gi_si_eq, gi_n1, gi_n2, gl_sl_eq, gl_n1, gl_n2, gi_sl, gl_si, forall_eq, true_implies, false_implies, not_true_eq_false, not_false_eq_true, and_true, true_and, implies_true, and_self, w, k1, h4]
      exact h
    · rw [if_neg h4] at h
      simp (disch := omega) only [fa_lit0, xI_le_T, xI_le_F, xI_lt_T, xI_lt_F, xI_eq_T, xI_eq_F, xN_a, xN_b, xN_c, xN_d, xN_e, xN_f, xN_g, xN_h, xI_add, xI_mul, xI_sub, xI_tn, xI_in, xI_ofNat, gi_si_eq, gi_n1, gi_n2, gl_sl_eq, gl_n1, gl_n2, gi_sl, gl_si, forall_eq, true_implies, false_implies, not_true_eq_false, not_false_eq_true, and_true, true_and, implies_true, and_self, w, k1]
      exact h
  · rw [if_neg (by omega)] at h
    simp (disch := omega) only [fa_lit0, xI_le_T, xI_le_F, xI_lt_T, xI_lt_F, xI_eq_T, xI_eq_F, xN_a, xN_b, xN_c, xN_d, xN_e, xN_f, xN_g, xN_h, xI_add, xI_mul, xI_sub, xI_tn, xI_in, xI_ofNat, gi_si_eq, gi_n1, gi_n2, gl_sl_eq, gl_n1, gl_n2, gi_sl, gl_si, forall_eq, true_implies, false_implies, not_true_eq_false, not_false_eq_true, and_true, true_and, implies_true, and_self, w]
    refine M_wide hW hO hF hf ?_
    have hb : ¬ mk F 0 / 2 ^ i % 2 = 0 := by rw [hO.ob (by omega)]; omega
    have hw := wsum_le hC (mk F 0) (C 0 0) (Nat.le_refl _)
    have hp := wsum_pos hC hi hb (C 0 0) (Nat.le_refl _) hi
    have hr1 := riv_mul hC hi
    have hriv := hC.2.1
    have hdiv : C 0 1 * C 2 i / wsum C (mk F 0) (C 0 0) ≤ 243 := Nat.le_trans (Nat.div_le_self _ _) hr1
    simp (disch := omega) only [fa_lit0, xI_le_T, xI_le_F, xI_lt_T, xI_lt_F, xI_eq_T, xI_eq_F, xN_a, xN_b, xN_c, xN_d, xN_e, xN_f, xN_g, xN_h, xI_add, xI_mul, xI_sub, xI_tn, xI_in, xI_ofNat, gi_si_eq, gi_n1, gi_n2, gl_sl_eq, gl_n1, gl_n2, gi_sl, gl_si, forall_eq, true_implies, false_implies, not_true_eq_false, not_false_eq_true, and_true, true_and, implies_true, and_self, m2]
    have l2 : ∀ (K : Int32 → Int32 → Int32 → Mm → Prop), K (nI (wsum C (mk F 0) (C 0 0))) (nI (C 0 1 - shr C (mk F 0) (wsum C (mk F 0) (C 0 0)) (C 0 0))) (nI (cnt (mk F 0) i)) M → ∃ n, lp_M_waterOf_43 (nI f) (nI i) Q K n (nI (wsum C (mk F 0) (C 0 0))) (nI (C 0 1)) (nI 0) (nI 0) M := by
      intro K hK
      have key : ∀ (d m : Nat), m + d = C 0 0 → lp_M_waterOf_43 (nI f) (nI i) Q K (d + 1) (nI (wsum C (mk F 0) (C 0 0))) (nI (C 0 1 - shr C (mk F 0) (wsum C (mk F 0) (C 0 0)) m)) (nI (cnt (mk F 0) (min i m))) (nI m) M := by
        intro d
        induction d with
        | zero =>
          intro m hm
          have hm : m = C 0 0 := by omega
          subst hm
          show k_M_waterOf_43 (nI f) (nI i) Q _ K _ _ _ _ M
          unfold k_M_waterOf_43
          simp (disch := omega) only [fa_lit0, xI_le_T, xI_le_F, xI_lt_T, xI_lt_F, xI_eq_T, xI_eq_F, xN_a, xN_b, xN_c, xN_d, xN_e, xN_f, xN_g, xN_h, xI_add, xI_mul, xI_sub, xI_tn, xI_in, xI_ofNat, gi_si_eq, gi_n1, gi_n2, gl_sl_eq, gl_n1, gl_n2, gi_sl, gl_si, forall_eq, true_implies, false_implies, not_true_eq_false, not_false_eq_true, and_true, true_and, implies_true, and_self, m1]
          rw [Nat.min_eq_left (by omega)]
          exact hK
        | succ d ih =>
          intro m hm
          have hwm := (m3 m (by omega)).2.1
          have hrm := riv_mul hC (i := m) (by omega)
          have e1 := shr_riv (C := C) (s := mk F 0) (m := m) (by omega) hp
          have e2 := shr_riv (C := C) (s := mk F 0) (m := m + 1) (by omega) hp
          have qm := (hO.1 m (by omega)).1
          have e3 : shr C (mk F 0) (wsum C (mk F 0) (C 0 0)) (m + 1) = shr C (mk F 0) (wsum C (mk F 0) (C 0 0)) m + (if F m = 0 then 0 else C 0 1 * C 2 m / wsum C (mk F 0) (C 0 0)) := by
            show shr C (mk F 0) (wsum C (mk F 0) (C 0 0)) m + (if mk F 0 / 2 ^ m % 2 = 0 then 0 else C 0 1 * C 2 m / wsum C (mk F 0) (C 0 0)) = _
            rw [hO.ob (by omega)]
          have e4 : m < i → cnt (mk F 0) (min i (m + 1)) = cnt (mk F 0) (min i m) + F m := by
            intro hmi
            rw [Nat.min_eq_right (by omega), Nat.min_eq_right (by omega)]
            show cnt (mk F 0) m + mk F 0 / 2 ^ m % 2 = _
            rw [hO.ob (by omega)]
          have e5 : i ≤ m → cnt (mk F 0) (min i (m + 1)) = cnt (mk F 0) (min i m) := by
            intro hmi
            rw [Nat.min_eq_left (by omega), Nat.min_eq_left (by omega)]
          have ih1 := ih (m + 1) (by omega)
          show k_M_waterOf_43 (nI f) (nI i) Q _ K _ _ _ _ M
          unfold k_M_waterOf_43
          simp (disch := omega) only [fa_lit0, xI_le_T, xI_le_F, xI_lt_T, xI_lt_F, xI_eq_T, xI_eq_F, xN_a, xN_b, xN_c, xN_d, xN_e, xN_f, xN_g, xN_h, xI_add, xI_mul, xI_sub, xI_tn, xI_in, xI_ofNat, gi_si_eq, gi_n1, gi_n2, gl_sl_eq, gl_n1, gl_n2, gi_sl, gl_si, forall_eq, true_implies, false_implies, not_true_eq_false, not_false_eq_true, and_true, true_and, implies_true, and_self, m1]
          refine M_open qm hF hf (by omega) ?_
          rcases (show F m = 0 ∨ F m = 1 by omega) with v | v
          · rw [if_pos v] at e3
            rw [e3, Nat.add_zero] at ih1
            simp (disch := omega) only [fa_lit0, xI_le_T, xI_le_F, xI_lt_T, xI_lt_F, xI_eq_T, xI_eq_F, xN_a, xN_b, xN_c, xN_d, xN_e, xN_f, xN_g, xN_h, xI_add, xI_mul, xI_sub, xI_tn, xI_in, xI_ofNat, gi_si_eq, gi_n1, gi_n2, gl_sl_eq, gl_n1, gl_n2, gi_sl, gl_si, forall_eq, true_implies, false_implies, not_true_eq_false, not_false_eq_true, and_true, true_and, implies_true, and_self, v, k_M_waterOf_82, Nat.sub_zero]
            by_cases c : i ≤ m
            · rw [e5 c] at ih1
              simp (disch := omega) only [fa_lit0, xI_le_T, xI_le_F, xI_lt_T, xI_lt_F, xI_eq_T, xI_eq_F, xN_a, xN_b, xN_c, xN_d, xN_e, xN_f, xN_g, xN_h, xI_add, xI_mul, xI_sub, xI_tn, xI_in, xI_ofNat, gi_si_eq, gi_n1, gi_n2, gl_sl_eq, gl_n1, gl_n2, gi_sl, gl_si, forall_eq, true_implies, false_implies, not_true_eq_false, not_false_eq_true, and_true, true_and, implies_true, and_self, k_M_waterOf_107, k_M_waterOf_108]
              exact ih1
            · rw [e4 (by omega), v] at ih1
              simp (disch := omega) only [fa_lit0, xI_le_T, xI_le_F, xI_lt_T, xI_lt_F, xI_eq_T, xI_eq_F, xN_a, xN_b, xN_c, xN_d, xN_e, xN_f, xN_g, xN_h, xI_add, xI_mul, xI_sub, xI_tn, xI_in, xI_ofNat, gi_si_eq, gi_n1, gi_n2, gl_sl_eq, gl_n1, gl_n2, gi_sl, gl_si, forall_eq, true_implies, false_implies, not_true_eq_false, not_false_eq_true, and_true, true_and, implies_true, and_self]
              refine M_open qm hF hf (by omega) ?_
              simp (disch := omega) only [fa_lit0, xI_le_T, xI_le_F, xI_lt_T, xI_lt_F, xI_eq_T, xI_eq_F, xN_a, xN_b, xN_c, xN_d, xN_e, xN_f, xN_g, xN_h, xI_add, xI_mul, xI_sub, xI_tn, xI_in, xI_ofNat, gi_si_eq, gi_n1, gi_n2, gl_sl_eq, gl_n1, gl_n2, gi_sl, gl_si, forall_eq, true_implies, false_implies, not_true_eq_false, not_false_eq_true, and_true, true_and, implies_true, and_self, v, k_M_waterOf_107, k_M_waterOf_108]
              exact ih1
          · rw [if_neg (by omega)] at e3
            rw [e3, Nat.sub_add_eq] at ih1
            simp (disch := omega) only [fa_lit0, xI_le_T, xI_le_F, xI_lt_T, xI_lt_F, xI_eq_T, xI_eq_F, xN_a, xN_b, xN_c, xN_d, xN_e, xN_f, xN_g, xN_h, xI_add, xI_mul, xI_sub, xI_tn, xI_in, xI_ofNat, gi_si_eq, gi_n1, gi_n2, gl_sl_eq, gl_n1, gl_n2, gi_sl, gl_si, forall_eq, true_implies, false_implies, not_true_eq_false, not_false_eq_true, and_true, true_and, implies_true, and_self, v, k_M_waterOf_82, m2, hwm, xI_div]
            by_cases c : i ≤ m
            · rw [e5 c] at ih1
              simp (disch := omega) only [fa_lit0, xI_le_T, xI_le_F, xI_lt_T, xI_lt_F, xI_eq_T, xI_eq_F, xN_a, xN_b, xN_c, xN_d, xN_e, xN_f, xN_g, xN_h, xI_add, xI_mul, xI_sub, xI_tn, xI_in, xI_ofNat, gi_si_eq, gi_n1, gi_n2, gl_sl_eq, gl_n1, gl_n2, gi_sl, gl_si, forall_eq, true_implies, false_implies, not_true_eq_false, not_false_eq_true, and_true, true_and, implies_true, and_self, k_M_waterOf_107, k_M_waterOf_108]
              exact ih1
            · rw [e4 (by omega), v] at ih1
              simp (disch := omega) only [fa_lit0, xI_le_T, xI_le_F, xI_lt_T, xI_lt_F, xI_eq_T, xI_eq_F, xN_a, xN_b, xN_c, xN_d, xN_e, xN_f, xN_g, xN_h, xI_add, xI_mul, xI_sub, xI_tn, xI_in, xI_ofNat, gi_si_eq, gi_n1, gi_n2, gl_sl_eq, gl_n1, gl_n2, gi_sl, gl_si, forall_eq, true_implies, false_implies, not_true_eq_false, not_false_eq_true, and_true, true_and, implies_true, and_self]
              refine M_open qm hF hf (by omega) ?_
              simp (disch := omega) only [fa_lit0, xI_le_T, xI_le_F, xI_lt_T, xI_lt_F, xI_eq_T, xI_eq_F, xN_a, xN_b, xN_c, xN_d, xN_e, xN_f, xN_g, xN_h, xI_add, xI_mul, xI_sub, xI_tn, xI_in, xI_ofNat, gi_si_eq, gi_n1, gi_n2, gl_sl_eq, gl_n1, gl_n2, gi_sl, gl_si, forall_eq, true_implies, false_implies, not_true_eq_false, not_false_eq_true, and_true, true_and, implies_true, and_self, v, k_M_waterOf_107, k_M_waterOf_108]
              exact ih1
      have := key (C 0 0) 0 (by omega)
      rw [Nat.min_zero] at this
      exact ⟨_, this⟩
    refine l2 _ ?_
    have hcl : cnt (mk F 0) i ≤ i := by
      have : ∀ m, cnt (mk F 0) m ≤ m := by
        intro m
        induction m with
        | zero => exact Nat.le_refl _
        | succ m ih => show cnt (mk F 0) m + mk F 0 / 2 ^ m % 2 ≤ m + 1; omega
      exact this i
    by_cases hlt : C 0 1 - shr C (mk F 0) (wsum C (mk F 0) (C 0 0)) (C 0 0) ≤ cnt (mk F 0) i
    · rw [if_pos hlt] at h
      simp (disch := omega) only [fa_lit0, xI_le_T, xI_le_F, xI_lt_T, xI_lt_F, xI_eq_T, xI_eq_F, xN_a, xN_b, xN_c, xN_d, xN_e, xN_f, xN_g, xN_h, xI_add, xI_mul, xI_sub, xI_tn, xI_in, xI_ofNat, gi_si_eq, gi_n1, gi_n2, gl_sl_eq, gl_n1, gl_n2, gi_sl, gl_si, forall_eq, true_implies, false_implies, not_true_eq_false, not_false_eq_true, and_true, true_and, implies_true, and_self, m2, k2, xI_div]
      exact h
    · rw [if_neg hlt] at h
      simp (disch := omega) only [fa_lit0, xI_le_T, xI_le_F, xI_lt_T, xI_lt_F, xI_eq_T, xI_eq_F, xN_a, xN_b, xN_c, xN_d, xN_e, xN_f, xN_g, xN_h, xI_add, xI_mul, xI_sub, xI_tn, xI_in, xI_ofNat, gi_si_eq, gi_n1, gi_n2, gl_sl_eq, gl_n1, gl_n2, gi_sl, gl_si, forall_eq, true_implies, false_implies, not_true_eq_false, not_false_eq_true, and_true, true_and, implies_true, and_self, m2, k2, xI_div]
      exact h
theorem bit_step : ∀ s, s < 32 → s ≠ 0 → (nI s &&& (nI s - nI 1)) = nI (s &&& (s - 1)) ∧ (s &&& (s - 1)) < s ∧ cnt (s &&& (s - 1)) 5 + 1 = cnt s 5 := by decide +kernel
theorem M_bits {s : Nat} (hs : s < 32) {M : Mm} {Q : Int32 → Mm → Prop} (h : Q (nI (cnt s 5)) M) : wp_M_bits (nI s) M Q := by
  have key : ∀ (d t c : Nat), t < 32 → t ≤ d → c + cnt t 5 = cnt s 5 → lp_M_bits_4 (nI s) Q (d + 1) (nI c) (nI t) M := by
    intro d
    induction d with
    | zero =>
      intro t c ht hd hc
      have : t = 0 := by omega
      subst this
      have e : cnt 0 5 = 0 := by decide
      show k_M_bits_4 (nI s) Q _ _ _ M
      unfold k_M_bits_4
      simp (disch := omega) only [fa_lit0, xI_le_T, xI_le_F, xI_lt_T, xI_lt_F, xI_eq_T, xI_eq_F, xN_a, xN_b, xN_c, xN_d, xN_e, xN_f, xN_g, xN_h, xI_add, xI_mul, xI_sub, xI_tn, xI_in, xI_ofNat, gi_si_eq, gi_n1, gi_n2, gl_sl_eq, gl_n1, gl_n2, gi_sl, gl_si, forall_eq, true_implies, false_implies, not_true_eq_false, not_false_eq_true, and_true, true_and, implies_true, and_self]
      rw [show c = cnt s 5 by omega]
      exact h
    | succ d ih =>
      intro t c ht hd hc
      show k_M_bits_4 (nI s) Q _ _ _ M
      unfold k_M_bits_4
      by_cases e : t = 0
      · subst e
        have e : cnt 0 5 = 0 := by decide
        simp (disch := omega) only [fa_lit0, xI_le_T, xI_le_F, xI_lt_T, xI_lt_F, xI_eq_T, xI_eq_F, xN_a, xN_b, xN_c, xN_d, xN_e, xN_f, xN_g, xN_h, xI_add, xI_mul, xI_sub, xI_tn, xI_in, xI_ofNat, gi_si_eq, gi_n1, gi_n2, gl_sl_eq, gl_n1, gl_n2, gi_sl, gl_si, forall_eq, true_implies, false_implies, not_true_eq_false, not_false_eq_true, and_true, true_and, implies_true, and_self]
        rw [show c = cnt s 5 by omega]
        exact h
      · obtain ⟨g1, g2, g3⟩ := bit_step t ht e
        have ih1 := ih (t &&& (t - 1)) (c + 1) (by omega) (by omega) (by omega)
        rw [show ∀ x : Int32, x - 1 = x - nI 1 from fun _ => rfl, g1]
        simp (disch := omega) only [fa_lit0, xI_le_T, xI_le_F, xI_lt_T, xI_lt_F, xI_eq_T, xI_eq_F, xN_a, xN_b, xN_c, xN_d, xN_e, xN_f, xN_g, xN_h, xI_add, xI_mul, xI_sub, xI_tn, xI_in, xI_ofNat, gi_si_eq, gi_n1, gi_n2, gl_sl_eq, gl_n1, gl_n2, gi_sl, gl_si, forall_eq, true_implies, false_implies, not_true_eq_false, not_false_eq_true, and_true, true_and, implies_true, and_self]
        exact ih1
  exact ⟨_, key s s 0 hs (Nat.le_refl _) (by omega)⟩
