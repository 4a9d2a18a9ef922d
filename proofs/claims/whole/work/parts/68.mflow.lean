theorem MW.w {C : Nat → Nat → Nat} {M : Mm} {k j : Nat} {x : Int32} (h : MW C M) (hk : k = 327 ∨ k = 328 ∨ (k = 312 ∧ j = 26)) : MW C (si M k j x) := h.sm (S := fun a b => a = k ∧ b = j) ((Sm.refl _ M).wi ⟨rfl, rfl⟩) (by omega)
theorem SM_in {f j : Nat} (h : j < 31) : SM f 327 (31 * f + j) := Or.inl ⟨rfl, by omega, by omega⟩
theorem M_has {s i : Nat} (hs : s < 32) (hi : i < 8) {M : Mm} {Q : Int32 → Mm → Prop} (h : Q (nI (s / 2 ^ i % 2)) M) : wp_M_has (nI s) (nI i) M Q := by
  rcases (show s / 2 ^ i % 2 = 0 ∨ s / 2 ^ i % 2 = 1 by omega) with e | e
  · rw [e] at h
    simp (disch := omega) only [fa_lit0, xI_le_T, xI_le_F, xI_lt_T, xI_lt_F, xI_eq_T, xI_eq_F, xN_a, xN_b, xN_c, xN_d, xN_e, xN_f, xN_g, xN_h, xI_add, xI_mul, xI_sub, xI_tn, xI_in, xI_ofNat, gi_si_eq, gi_n1, gi_n2, gl_sl_eq, gl_n1, gl_n2, gi_sl, gl_si, forall_eq, true_implies, false_implies, not_true_eq_false, not_false_eq_true, and_true, true_and, implies_true, and_self, wp_M_has, bs_r, e]
    exact h
  · rw [e] at h
    simp (disch := omega) only [fa_lit0, xI_le_T, xI_le_F, xI_lt_T, xI_lt_F, xI_eq_T, xI_eq_F, xN_a, xN_b, xN_c, xN_d, xN_e, xN_f, xN_g, xN_h, xI_add, xI_mul, xI_sub, xI_tn, xI_in, xI_ofNat, gi_si_eq, gi_n1, gi_n2, gl_sl_eq, gl_n1, gl_n2, gi_sl, gl_si, forall_eq, true_implies, false_implies, not_true_eq_false, not_false_eq_true, and_true, true_and, implies_true, and_self, wp_M_has, bs_r, e]
    exact h
theorem M_married {C : Nat → Nat → Nat} {F : Nat → Nat} {M : Mm} {f i : Nat} (hW : MW C M) (hO : OkQ (C 0 0) F) (hF : FM F M f) (hf : f < 6) (hi : i < C 0 0) {Q : Int32 → Mm → Prop} (h : Q (if fol C F i then nI (i + 1) else -nI 9) M) : wp_M_married (nI f) (nI i) M Q := by
  obtain ⟨hC, m1, m2, m3⟩ := hW
  have hn := hC.1
  have k1 := (m3 i hi).1
  have o1 := (hC.2.2 i hi).1
  by_cases c : C 1 i = 5
  · by_cases c2 : i + 1 < C 0 0
    · simp (disch := omega) only [fa_lit0, xI_le_T, xI_le_F, xI_lt_T, xI_lt_F, xI_eq_T, xI_eq_F, xN_a, xN_b, xN_c, xN_d, xN_e, xN_f, xN_g, xN_h, xI_add, xI_mul, xI_sub, xI_tn, xI_in, xI_ofNat, gi_si_eq, gi_n1, gi_n2, gl_sl_eq, gl_n1, gl_n2, gi_sl, gl_si, forall_eq, true_implies, false_implies, not_true_eq_false, not_false_eq_true, and_true, true_and, implies_true, and_self, wp_M_married, k1, c, m1, k_M_married_46, k_M_married_47]
      have q1 := hO.d (i + 1) (by omega)
      have q2 := hO.b (i + 1) (by omega)
      refine M_dead q1 hF hf (by omega) ?_
      rcases (show F (25 + (i + 1)) = 0 ∨ F (25 + (i + 1)) = 1 by omega) with w | w
      · simp (disch := omega) only [fa_lit0, xI_le_T, xI_le_F, xI_lt_T, xI_lt_F, xI_eq_T, xI_eq_F, xN_a, xN_b, xN_c, xN_d, xN_e, xN_f, xN_g, xN_h, xI_add, xI_mul, xI_sub, xI_tn, xI_in, xI_ofNat, gi_si_eq, gi_n1, gi_n2, gl_sl_eq, gl_n1, gl_n2, gi_sl, gl_si, forall_eq, true_implies, false_implies, not_true_eq_false, not_false_eq_true, and_true, true_and, implies_true, and_self, w]
        refine M_barge q2 hF hf (by omega) ?_
        rcases (show F (20 + (i + 1)) = 0 ∨ F (20 + (i + 1)) = 1 by omega) with v | v
        · rw [if_pos ⟨c, c2, w, v⟩] at h
          simp (disch := omega) only [fa_lit0, xI_le_T, xI_le_F, xI_lt_T, xI_lt_F, xI_eq_T, xI_eq_F, xN_a, xN_b, xN_c, xN_d, xN_e, xN_f, xN_g, xN_h, xI_add, xI_mul, xI_sub, xI_tn, xI_in, xI_ofNat, gi_si_eq, gi_n1, gi_n2, gl_sl_eq, gl_n1, gl_n2, gi_sl, gl_si, forall_eq, true_implies, false_implies, not_true_eq_false, not_false_eq_true, and_true, true_and, implies_true, and_self, v]
          exact h
        · rw [if_neg (fun u => by have := u.2.2; omega)] at h
          simp (disch := omega) only [fa_lit0, xI_le_T, xI_le_F, xI_lt_T, xI_lt_F, xI_eq_T, xI_eq_F, xN_a, xN_b, xN_c, xN_d, xN_e, xN_f, xN_g, xN_h, xI_add, xI_mul, xI_sub, xI_tn, xI_in, xI_ofNat, gi_si_eq, gi_n1, gi_n2, gl_sl_eq, gl_n1, gl_n2, gi_sl, gl_si, forall_eq, true_implies, false_implies, not_true_eq_false, not_false_eq_true, and_true, true_and, implies_true, and_self, v]
          exact h
      · rw [if_neg (fun u => by have := u.2.2; omega)] at h
        simp (disch := omega) only [fa_lit0, xI_le_T, xI_le_F, xI_lt_T, xI_lt_F, xI_eq_T, xI_eq_F, xN_a, xN_b, xN_c, xN_d, xN_e, xN_f, xN_g, xN_h, xI_add, xI_mul, xI_sub, xI_tn, xI_in, xI_ofNat, gi_si_eq, gi_n1, gi_n2, gl_sl_eq, gl_n1, gl_n2, gi_sl, gl_si, forall_eq, true_implies, false_implies, not_true_eq_false, not_false_eq_true, and_true, true_and, implies_true, and_self, w]
        exact h
    · rw [if_neg (fun w => c2 w.2.1)] at h
      simp (disch := omega) only [fa_lit0, xI_le_T, xI_le_F, xI_lt_T, xI_lt_F, xI_eq_T, xI_eq_F, xN_a, xN_b, xN_c, xN_d, xN_e, xN_f, xN_g, xN_h, xI_add, xI_mul, xI_sub, xI_tn, xI_in, xI_ofNat, gi_si_eq, gi_n1, gi_n2, gl_sl_eq, gl_n1, gl_n2, gi_sl, gl_si, forall_eq, true_implies, false_implies, not_true_eq_false, not_false_eq_true, and_true, true_and, implies_true, and_self, wp_M_married, k1, c, m1, k_M_married_46, k_M_married_47]
      exact h
  · rw [if_neg (fun w => c w.1)] at h
    simp (disch := omega) only [fa_lit0, xI_le_T, xI_le_F, xI_lt_T, xI_lt_F, xI_eq_T, xI_eq_F, xN_a, xN_b, xN_c, xN_d, xN_e, xN_f, xN_g, xN_h, xI_add, xI_mul, xI_sub, xI_tn, xI_in, xI_ofNat, gi_si_eq, gi_n1, gi_n2, gl_sl_eq, gl_n1, gl_n2, gi_sl, gl_si, forall_eq, true_implies, false_implies, not_true_eq_false, not_false_eq_true, and_true, true_and, implies_true, and_self, wp_M_married, k1, k_M_married_46, k_M_married_47]
    exact h
theorem M_stamps {C : Nat → Nat → Nat} {F : Nat → Nat} {M : Mm} {f i : Nat} (hW : MW C M) (hO : OkF (C 0 0) F) (hF : FM F M f) (hf : f < 6) (hi : i < C 0 0) {Q : Mm → Prop} (h : ∀ M', Sm (SM f) M M' → MW C M' → FM (stp C F i) M' f → Q M') : wp_M_stamps (nI f) (nI i) M Q := by
  have hn := hW.1.1
  have q1 := (hO.1 i (by omega)).1
  have fin : k_M_stamps_14 (nI f) (nI i) Q (nI (1 - F i)) M := by
    unfold k_M_stamps_14
    refine M_married hW hO.q hF hf hi ?_
    unfold stp at h
    by_cases c : fol C F i
    · rw [if_pos c]
      rw [if_pos c] at h
      have := c.2.1
      simp (disch := omega) only [fa_lit0, xI_le_T, xI_le_F, xI_lt_T, xI_lt_F, xI_eq_T, xI_eq_F, xN_a, xN_b, xN_c, xN_d, xN_e, xN_f, xN_g, xN_h, xI_add, xI_mul, xI_sub, xI_tn, xI_in, xI_ofNat, gi_si_eq, gi_n1, gi_n2, gl_sl_eq, gl_n1, gl_n2, gi_sl, gl_si, forall_eq, true_implies, false_implies, not_true_eq_false, not_false_eq_true, and_true, true_and, implies_true, and_self]
      exact h _ (((Sm.refl _ M).wi (SM_in (by omega))).wi (SM_in (by omega))) ((hW.w (by omega)).w (by omega)) hF.w.w
    · rw [if_neg c]
      rw [if_neg c] at h
      simp (disch := omega) only [fa_lit0, xI_le_T, xI_le_F, xI_lt_T, xI_lt_F, xI_eq_T, xI_eq_F, xN_a, xN_b, xN_c, xN_d, xN_e, xN_f, xN_g, xN_h, xI_add, xI_mul, xI_sub, xI_tn, xI_in, xI_ofNat, gi_si_eq, gi_n1, gi_n2, gl_sl_eq, gl_n1, gl_n2, gi_sl, gl_si, forall_eq, true_implies, false_implies, not_true_eq_false, not_false_eq_true, and_true, true_and, implies_true, and_self]
      exact h _ ((Sm.refl _ M).wi (SM_in (by omega))) (hW.w (by omega)) hF.w
  unfold wp_M_stamps
  refine M_open q1 hF hf (by omega) ?_
  rcases (show F i = 0 ∨ F i = 1 by omega) with w | w
  · rw [w] at fin
    simp (disch := omega) only [fa_lit0, xI_le_T, xI_le_F, xI_lt_T, xI_lt_F, xI_eq_T, xI_eq_F, xN_a, xN_b, xN_c, xN_d, xN_e, xN_f, xN_g, xN_h, xI_add, xI_mul, xI_sub, xI_tn, xI_in, xI_ofNat, gi_si_eq, gi_n1, gi_n2, gl_sl_eq, gl_n1, gl_n2, gi_sl, gl_si, forall_eq, true_implies, false_implies, not_true_eq_false, not_false_eq_true, and_true, true_and, implies_true, and_self, w]
    exact fin
  · rw [w] at fin
    simp (disch := omega) only [fa_lit0, xI_le_T, xI_le_F, xI_lt_T, xI_lt_F, xI_eq_T, xI_eq_F, xN_a, xN_b, xN_c, xN_d, xN_e, xN_f, xN_g, xN_h, xI_add, xI_mul, xI_sub, xI_tn, xI_in, xI_ofNat, gi_si_eq, gi_n1, gi_n2, gl_sl_eq, gl_n1, gl_n2, gi_sl, gl_si, forall_eq, true_implies, false_implies, not_true_eq_false, not_false_eq_true, and_true, true_and, implies_true, and_self, w]
    exact fin
theorem M_stampsOf {C : Nat → Nat → Nat} {F : Nat → Nat} {M : Mm} {f s : Nat} (hW : MW C M) (hO : OkF (C 0 0) F) (hF : FM F M f) (hf : f < 6) (hs : s < 32) {Q : Int32 → Mm → Prop} (h : ∀ M', Sm (SM f) M M' → MW C M' → FM (ssF C s F (C 0 0)) M' f → Q (nI (ssD C s F (C 0 0))) M') : wp_M_stampsOf (nI f) (nI s) M Q := by
  have hC := hW.1
  have hn := hC.1
  have key : ∀ (d m : Nat), m + d = C 0 0 → ∀ M1, Sm (SM f) M M1 → MW C M1 → FM (ssF C s F m) M1 f → lp_M_stampsOf_5 (nI f) (nI s) Q (d + 1) (nI (ssD C s F m)) (nI m) M1 := by
    intro d
    induction d with
    | zero =>
      intro m hm M1 s1 w1 f1
      have hm : m = C 0 0 := by omega
      subst hm
      have b1 := w1.2.1
      show k_M_stampsOf_5 (nI f) (nI s) Q _ _ _ M1
      unfold k_M_stampsOf_5
      simp (disch := omega) only [fa_lit0, xI_le_T, xI_le_F, xI_lt_T, xI_lt_F, xI_eq_T, xI_eq_F, xN_a, xN_b, xN_c, xN_d, xN_e, xN_f, xN_g, xN_h, xI_add, xI_mul, xI_sub, xI_tn, xI_in, xI_ofNat, gi_si_eq, gi_n1, gi_n2, gl_sl_eq, gl_n1, gl_n2, gi_sl, gl_si, forall_eq, true_implies, false_implies, not_true_eq_false, not_false_eq_true, and_true, true_and, implies_true, and_self, b1]
      exact h M1 s1 w1 f1
    | succ d ih =>
      intro m hm M1 s1 w1 f1
      have b1 := w1.2.1
      have hOm := (hO.ss (s := s) hC m (by omega)).1
      have ih1 := ih (m + 1) (by omega)
      have e1 : ssF C s F (m + 1) = if s / 2 ^ m % 2 = 1 ∧ may C (ssF C s F m) m = 1 then stp C (ssF C s F m) m else ssF C s F m := rfl
      have e2 : ssD C s F (m + 1) = ssD C s F m + (if s / 2 ^ m % 2 = 1 ∧ may C (ssF C s F m) m = 1 then 1 else 0) * 2 ^ m := rfl
      have hml := may_le C (ssF C s F m) m
      show k_M_stampsOf_5 (nI f) (nI s) Q _ _ _ M1
      unfold k_M_stampsOf_5
      simp (disch := omega) only [fa_lit0, xI_le_T, xI_le_F, xI_lt_T, xI_lt_F, xI_eq_T, xI_eq_F, xN_a, xN_b, xN_c, xN_d, xN_e, xN_f, xN_g, xN_h, xI_add, xI_mul, xI_sub, xI_tn, xI_in, xI_ofNat, gi_si_eq, gi_n1, gi_n2, gl_sl_eq, gl_n1, gl_n2, gi_sl, gl_si, forall_eq, true_implies, false_implies, not_true_eq_false, not_false_eq_true, and_true, true_and, implies_true, and_self, b1]
      refine M_has hs (by omega) ?_
      rcases (show s / 2 ^ m % 2 = 0 ∨ s / 2 ^ m % 2 = 1 by omega) with c | c
      · rw [if_neg (by omega)] at e1 e2
        rw [e1, e2, Nat.zero_mul, Nat.add_zero] at ih1
        simp (disch := omega) only [fa_lit0, xI_le_T, xI_le_F, xI_lt_T, xI_lt_F, xI_eq_T, xI_eq_F, xN_a, xN_b, xN_c, xN_d, xN_e, xN_f, xN_g, xN_h, xI_add, xI_mul, xI_sub, xI_tn, xI_in, xI_ofNat, gi_si_eq, gi_n1, gi_n2, gl_sl_eq, gl_n1, gl_n2, gi_sl, gl_si, forall_eq, true_implies, false_implies, not_true_eq_false, not_false_eq_true, and_true, true_and, implies_true, and_self, c, k_M_stampsOf_47]
        exact ih1 M1 s1 w1 f1
      · simp (disch := omega) only [fa_lit0, xI_le_T, xI_le_F, xI_lt_T, xI_lt_F, xI_eq_T, xI_eq_F, xN_a, xN_b, xN_c, xN_d, xN_e, xN_f, xN_g, xN_h, xI_add, xI_mul, xI_sub, xI_tn, xI_in, xI_ofNat, gi_si_eq, gi_n1, gi_n2, gl_sl_eq, gl_n1, gl_n2, gi_sl, gl_si, forall_eq, true_implies, false_implies, not_true_eq_false, not_false_eq_true, and_true, true_and, implies_true, and_self, c]
        refine M_may w1 hOm f1 hf (by omega) ?_
        rcases (show may C (ssF C s F m) m = 0 ∨ may C (ssF C s F m) m = 1 by omega) with c2 | c2
        · rw [if_neg (by omega)] at e1 e2
          rw [e1, e2, Nat.zero_mul, Nat.add_zero] at ih1
          simp (disch := omega) only [fa_lit0, xI_le_T, xI_le_F, xI_lt_T, xI_lt_F, xI_eq_T, xI_eq_F, xN_a, xN_b, xN_c, xN_d, xN_e, xN_f, xN_g, xN_h, xI_add, xI_mul, xI_sub, xI_tn, xI_in, xI_ofNat, gi_si_eq, gi_n1, gi_n2, gl_sl_eq, gl_n1, gl_n2, gi_sl, gl_si, forall_eq, true_implies, false_implies, not_true_eq_false, not_false_eq_true, and_true, true_and, implies_true, and_self, c2, k_M_stampsOf_47]
          exact ih1 M1 s1 w1 f1
        · rw [if_pos ⟨c, c2⟩] at e1 e2
          rw [e1, e2, Nat.one_mul] at ih1
          simp (disch := omega) only [fa_lit0, xI_le_T, xI_le_F, xI_lt_T, xI_lt_F, xI_eq_T, xI_eq_F, xN_a, xN_b, xN_c, xN_d, xN_e, xN_f, xN_g, xN_h, xI_add, xI_mul, xI_sub, xI_tn, xI_in, xI_ofNat, gi_si_eq, gi_n1, gi_n2, gl_sl_eq, gl_n1, gl_n2, gi_sl, gl_si, forall_eq, true_implies, false_implies, not_true_eq_false, not_false_eq_true, and_true, true_and, implies_true, and_self, c2]
          refine M_stamps w1 hOm f1 hf (by omega) fun M2 s2 w2 f2 => ?_
          simp (disch := omega) only [fa_lit0, xI_le_T, xI_le_F, xI_lt_T, xI_lt_F, xI_eq_T, xI_eq_F, xN_a, xN_b, xN_c, xN_d, xN_e, xN_f, xN_g, xN_h, xI_add, xI_mul, xI_sub, xI_tn, xI_in, xI_ofNat, gi_si_eq, gi_n1, gi_n2, gl_sl_eq, gl_n1, gl_n2, gi_sl, gl_si, forall_eq, true_implies, false_implies, not_true_eq_false, not_false_eq_true, and_true, true_and, implies_true, and_self, k_M_stampsOf_47, bs_l]
          rw [or_top m (by omega) _ (ssD_lt m (by omega))]
          exact ih1 M2 (s1.trans s2) w2 f2
  exact ⟨_, key (C 0 0) 0 (by omega) M (Sm.refl _ M) hW hF⟩
theorem M_copyTo {F : Nat → Nat} {M : Mm} {f g : Nat} (hF : FM F M f) (hf : f < 6) (hg : g < 6) (hfg : f ≠ g) {Q : Mm → Prop} (h : ∀ M', Sm (fun a b => a = 327 ∧ 31 * g ≤ b ∧ b < 31 * g + 31) M M' → FM F M' g → Q M') : wp_M_copyTo (nI f) (nI g) M Q := by
  have key : ∀ (d m : Nat), m + d = 31 → ∀ M1, Sm (fun a b => a = 327 ∧ 31 * g ≤ b ∧ b < 31 * g + 31) M M1 → (∀ j, j < m → gi M1 327 (31 * g + j) = nI (F j)) → lp_M_copyTo_2 (nI f) (nI g) Q (d + 1) (nI m) M1 := by
    intro d
    induction d with
    | zero =>
      intro m hm M1 s1 e1
      have hm : m = 31 := by omega
      subst hm
      show k_M_copyTo_2 (nI f) (nI g) Q _ _ M1
      unfold k_M_copyTo_2
      simp (disch := omega) only [fa_lit0, xI_le_T, xI_le_F, xI_lt_T, xI_lt_F, xI_eq_T, xI_eq_F, xN_a, xN_b, xN_c, xN_d, xN_e, xN_f, xN_g, xN_h, xI_add, xI_mul, xI_sub, xI_tn, xI_in, xI_ofNat, gi_si_eq, gi_n1, gi_n2, gl_sl_eq, gl_n1, gl_n2, gi_sl, gl_si, forall_eq, true_implies, false_implies, not_true_eq_false, not_false_eq_true, and_true, true_and, implies_true, and_self]
      exact h M1 s1 e1
    | succ d ih =>
      intro m hm M1 s1 e1
      have e : gi M1 327 (31 * f + m) = nI (F m) := (s1.g (by omega)).trans (hF m (by omega))
      show k_M_copyTo_2 (nI f) (nI g) Q _ _ M1
      unfold k_M_copyTo_2
      simp (disch := omega) only [fa_lit0, xI_le_T, xI_le_F, xI_lt_T, xI_lt_F, xI_eq_T, xI_eq_F, xN_a, xN_b, xN_c, xN_d, xN_e, xN_f, xN_g, xN_h, xI_add, xI_mul, xI_sub, xI_tn, xI_in, xI_ofNat, gi_si_eq, gi_n1, gi_n2, gl_sl_eq, gl_n1, gl_n2, gi_sl, gl_si, forall_eq, true_implies, false_implies, not_true_eq_false, not_false_eq_true, and_true, true_and, implies_true, and_self, e]
      refine ih (m + 1) (by omega) _ (s1.wi ⟨rfl, by omega, by omega⟩) fun j hj => ?_
      by_cases w : j = m
      · subst w; exact gi_si_eq _ _ _ _
      · rw [gi_n2 (by omega)]; exact e1 j (by omega)
  exact ⟨_, key 31 0 (by omega) M (Sm.refl _ M) (fun j hj => absurd hj (by omega))⟩
theorem M_leaves {C : Nat → Nat → Nat} {F : Nat → Nat} {M : Mm} {f i : Nat} (hW : MW C M) (hF : FM F M f) (hf : f < 6) (hi : i < 5) {Q : Mm → Prop} (h : ∀ M', Sm (SM f) M M' → MW C M' → FM (up (up F (20 + i) 0) i 0) M' f → Q M') : wp_M_leaves (nI f) (nI i) M Q := by
  unfold wp_M_leaves
  simp (disch := omega) only [fa_lit0, xI_le_T, xI_le_F, xI_lt_T, xI_lt_F, xI_eq_T, xI_eq_F, xN_a, xN_b, xN_c, xN_d, xN_e, xN_f, xN_g, xN_h, xI_add, xI_mul, xI_sub, xI_tn, xI_in, xI_ofNat, gi_si_eq, gi_n1, gi_n2, gl_sl_eq, gl_n1, gl_n2, gi_sl, gl_si, forall_eq, true_implies, false_implies, not_true_eq_false, not_false_eq_true, and_true, true_and, implies_true, and_self, Nat.add_assoc]
  exact h _ (((Sm.refl _ M).wi (SM_in (by omega))).wi (SM_in (by omega))) ((hW.w (by omega)).w (by omega)) hF.w.w
theorem M_isSilty {C : Nat → Nat → Nat} {M : Mm} {i : Nat} (hW : MW C M) (hi : i < C 0 0) {Q : Int32 → Mm → Prop} (h : Q (nI (if C 1 i = 2 ∨ C 1 i = 4 then 1 else 0)) M) : wp_M_isSilty (nI i) M Q := by
  obtain ⟨hC, m1, m2, m3⟩ := hW
  have hn := hC.1
  have k1 := (m3 i hi).1
  have o1 := (hC.2.2 i hi).1
  by_cases c : C 1 i = 2
  · rw [if_pos (Or.inl c)] at h
    simp (disch := omega) only [fa_lit0, xI_le_T, xI_le_F, xI_lt_T, xI_lt_F, xI_eq_T, xI_eq_F, xN_a, xN_b, xN_c, xN_d, xN_e, xN_f, xN_g, xN_h, xI_add, xI_mul, xI_sub, xI_tn, xI_in, xI_ofNat, gi_si_eq, gi_n1, gi_n2, gl_sl_eq, gl_n1, gl_n2, gi_sl, gl_si, forall_eq, true_implies, false_implies, not_true_eq_false, not_false_eq_true, and_true, true_and, implies_true, and_self, wp_M_isSilty, k1, c, k_M_isSilty_20]
    exact h
  · by_cases c2 : C 1 i = 4
    · rw [if_pos (Or.inr c2)] at h
      simp (disch := omega) only [fa_lit0, xI_le_T, xI_le_F, xI_lt_T, xI_lt_F, xI_eq_T, xI_eq_F, xN_a, xN_b, xN_c, xN_d, xN_e, xN_f, xN_g, xN_h, xI_add, xI_mul, xI_sub, xI_tn, xI_in, xI_ofNat, gi_si_eq, gi_n1, gi_n2, gl_sl_eq, gl_n1, gl_n2, gi_sl, gl_si, forall_eq, true_implies, false_implies, not_true_eq_false, not_false_eq_true, and_true, true_and, implies_true, and_self, wp_M_isSilty, k1, c2, k_M_isSilty_20]
      exact h
    · rw [if_neg (by omega)] at h
      simp (disch := omega) only [fa_lit0, xI_le_T, xI_le_F, xI_lt_T, xI_lt_F, xI_eq_T, xI_eq_F, xN_a, xN_b, xN_c, xN_d, xN_e, xN_f, xN_g, xN_h, xI_add, xI_mul, xI_sub, xI_tn, xI_in, xI_ofNat, gi_si_eq, gi_n1, gi_n2, gl_sl_eq, gl_n1, gl_n2, gi_sl, gl_si, forall_eq, true_implies, false_implies, not_true_eq_false, not_false_eq_true, and_true, true_and, implies_true, and_self, wp_M_isSilty, k1]
      exact h
theorem M_great0 {a : Nat} (ha : a < 2 ^ 30) {M : Mm} {Q : Int32 → Mm → Prop} (h : Q (nI (a - 1)) M) : wp_M_greater (nI 0) (nI a - nI 1) M Q := by
  rcases (show a = 0 ∨ 1 ≤ a by omega) with e | e
  · subst e
    have e1 : ¬ (nI 0 ≤ nI 0 - nI 1) := by decide
    exact ⟨fun w => absurd w e1, fun _ => h⟩
  · rw [pk_sub e]
    exact ⟨fun _ => h, fun w => absurd (nI_le (Nat.zero_le _) (by omega)) w⟩
theorem M_less {a b : Nat} (ha : a < 2 ^ 31) (hb : b < 2 ^ 31) {M : Mm} {Q : Int32 → Mm → Prop} (h : Q (nI (if b < a then b else a)) M) : wp_M_lesser (nI a) (nI b) M Q := by
  unfold wp_M_lesser
  by_cases c : b < a
  · rw [if_pos c] at h
    simp (disch := omega) only [fa_lit0, xI_le_T, xI_le_F, xI_lt_T, xI_lt_F, xI_eq_T, xI_eq_F, xN_a, xN_b, xN_c, xN_d, xN_e, xN_f, xN_g, xN_h, xI_add, xI_mul, xI_sub, xI_tn, xI_in, xI_ofNat, gi_si_eq, gi_n1, gi_n2, gl_sl_eq, gl_n1, gl_n2, gi_sl, gl_si, forall_eq, true_implies, false_implies, not_true_eq_false, not_false_eq_true, and_true, true_and, implies_true, and_self]
    exact h
  · rw [if_neg c] at h
    by_cases e : b = a
    · subst e
      simp (disch := omega) only [fa_lit0, xI_le_T, xI_le_F, xI_lt_T, xI_lt_F, xI_eq_T, xI_eq_F, xN_a, xN_b, xN_c, xN_d, xN_e, xN_f, xN_g, xN_h, xI_add, xI_mul, xI_sub, xI_tn, xI_in, xI_ofNat, gi_si_eq, gi_n1, gi_n2, gl_sl_eq, gl_n1, gl_n2, gi_sl, gl_si, forall_eq, true_implies, false_implies, not_true_eq_false, not_false_eq_true, and_true, true_and, implies_true, and_self]
      exact h
    · simp (disch := omega) only [fa_lit0, xI_le_T, xI_le_F, xI_lt_T, xI_lt_F, xI_eq_T, xI_eq_F, xN_a, xN_b, xN_c, xN_d, xN_e, xN_f, xN_g, xN_h, xI_add, xI_mul, xI_sub, xI_tn, xI_in, xI_ofNat, gi_si_eq, gi_n1, gi_n2, gl_sl_eq, gl_n1, gl_n2, gi_sl, gl_si, forall_eq, true_implies, false_implies, not_true_eq_false, not_false_eq_true, and_true, true_and, implies_true, and_self]
      exact h
theorem M_passes {C : Nat → Nat → Nat} {F : Nat → Nat} {M : Mm} {f : Nat} (hW : MW C M) (hO : OkF (C 0 0) F) (hF : FM F M f) (hf : f < 6) {Q : Int32 → Mm → Prop} (h : ∀ M', Sm (SM f) M M' → MW C M' → FM (gob C F) M' f → gi M' 312 26 = nI (hv C F) → Q (nI (cnt (hv C F) 5)) M') : wp_M_passes (nI f) M Q := by
  have hC := hW.1
  have hn := hC.1
  have h30 := hO.2.1
  unfold wp_M_passes
  simp (disch := omega) only [fa_lit0, xI_le_T, xI_le_F, xI_lt_T, xI_lt_F, xI_eq_T, xI_eq_F, xN_a, xN_b, xN_c, xN_d, xN_e, xN_f, xN_g, xN_h, xI_add, xI_mul, xI_sub, xI_tn, xI_in, xI_ofNat, gi_si_eq, gi_n1, gi_n2, gl_sl_eq, gl_n1, gl_n2, gi_sl, gl_si, forall_eq, true_implies, false_implies, not_true_eq_false, not_false_eq_true, and_true, true_and, implies_true, and_self]
  have s0 : Sm (SM f) M (si M 312 26 (nI 0)) := (Sm.refl _ M).wi (Or.inr (Or.inr ⟨rfl, rfl⟩))
  have l1 : ∀ (K : Int32 → Mm → Prop), (∀ M', Sm (SM f) M M' → MW C M' → FM F M' f → gi M' 312 26 = nI 0 → (∀ i, i < C 0 0 → gi M' 328 i = nI (wat C (mk F 0) i)) → K (nI (31 * f)) M') → ∀ (d m : Nat), m + d = C 0 0 → ∀ M1, Sm (SM f) M M1 → MW C M1 → FM F M1 f → gi M1 312 26 = nI 0 → (∀ i, i < m → gi M1 328 i = nI (wat C (mk F 0) i)) → lp_M_passes_12 (nI f) Q K (d + 1) (nI (31 * f)) (nI m) M1 := by
    intro K hK d
    induction d with
    | zero =>
      intro m hm M1 s1 w1 f1 i1 a1
      have hm : m = C 0 0 := by omega
      subst hm
      have b1 := w1.2.1
      show k_M_passes_12 (nI f) Q _ K _ _ M1
      unfold k_M_passes_12
      simp (disch := omega) only [fa_lit0, xI_le_T, xI_le_F, xI_lt_T, xI_lt_F, xI_eq_T, xI_eq_F, xN_a, xN_b, xN_c, xN_d, xN_e, xN_f, xN_g, xN_h, xI_add, xI_mul, xI_sub, xI_tn, xI_in, xI_ofNat, gi_si_eq, gi_n1, gi_n2, gl_sl_eq, gl_n1, gl_n2, gi_sl, gl_si, forall_eq, true_implies, false_implies, not_true_eq_false, not_false_eq_true, and_true, true_and, implies_true, and_self, b1]
      exact hK M1 s1 w1 f1 i1 a1
    | succ d ih =>
      intro m hm M1 s1 w1 f1 i1 a1
      have b1 := w1.2.1
      show k_M_passes_12 (nI f) Q _ K _ _ M1
      unfold k_M_passes_12
      simp (disch := omega) only [fa_lit0, xI_le_T, xI_le_F, xI_lt_T, xI_lt_F, xI_eq_T, xI_eq_F, xN_a, xN_b, xN_c, xN_d, xN_e, xN_f, xN_g, xN_h, xI_add, xI_mul, xI_sub, xI_tn, xI_in, xI_ofNat, gi_si_eq, gi_n1, gi_n2, gl_sl_eq, gl_n1, gl_n2, gi_sl, gl_si, forall_eq, true_implies, false_implies, not_true_eq_false, not_false_eq_true, and_true, true_and, implies_true, and_self, b1]
      refine M_water w1 hO.q f1 hf (by omega) ?_
      refine ih (m + 1) (by omega) _ (s1.wi (Or.inr (Or.inl rfl))) (w1.w (by omega)) (f1.sm (S := fun a _ => a = 328) ((Sm.refl _ M1).wi rfl) (by omega)) ((gi_n1 (by omega)).trans i1) fun i hi => ?_
      by_cases w : i = m
      · subst w; exact gi_si_eq _ _ _ _
      · rw [gi_n2 w]; exact a1 i (by omega)
  refine ⟨_, l1 _ ?_ (C 0 0) 0 (by omega) _ s0 (hW.w (by omega)) (hF.sm (S := fun a _ => a = 312) ((Sm.refl _ M).wi rfl) (by omega)) (gi_si_eq _ _ _ _) (fun i hi => absurd hi (by omega))⟩
  intro M2 s2 w2 f2 i2 a2
  have hwt : ∀ i, i < C 0 0 → wat C (mk F 0) i < 2 ^ 31 := by
    intro i hi
    unfold wat
    have := riv_mul hC hi
    have := Nat.div_le_self (C 0 1 * C 2 i) (wsum C (mk F 0) (C 0 0))
    split
    · split <;> omega
    · split <;> omega
  have l2 : ∀ (K : Int32 → Mm → Prop), (∀ M', Sm (SM f) M M' → MW C M' → FM (gb C F (mk F 0) (C 0 0)) M' f → gi M' 312 26 = nI (hv C F) → K (nI (31 * f)) M') → ∀ (d m : Nat), m + d = C 0 0 → ∀ M1, Sm (SM f) M M1 → MW C M1 → FM (gb C F (mk F 0) m) M1 f → gi M1 312 26 = nI (ps (hb C F (mk F 0)) 0 m) → (∀ i, i < C 0 0 → gi M1 328 i = nI (wat C (mk F 0) i)) → lp_M_passes_40 (nI f) Q K (d + 1) (nI (31 * f)) (nI m) M1 := by
    intro K hK d
    induction d with
    | zero =>
      intro m hm M1 s1 w1 f1 i1 a1
      have hm : m = C 0 0 := by omega
      subst hm
      have b1 := w1.2.1
      show k_M_passes_40 (nI f) Q _ K _ _ M1
      unfold k_M_passes_40
      simp (disch := omega) only [fa_lit0, xI_le_T, xI_le_F, xI_lt_T, xI_lt_F, xI_eq_T, xI_eq_F, xN_a, xN_b, xN_c, xN_d, xN_e, xN_f, xN_g, xN_h, xI_add, xI_mul, xI_sub, xI_tn, xI_in, xI_ofNat, gi_si_eq, gi_n1, gi_n2, gl_sl_eq, gl_n1, gl_n2, gi_sl, gl_si, forall_eq, true_implies, false_implies, not_true_eq_false, not_false_eq_true, and_true, true_and, implies_true, and_self, b1]
      exact hK M1 s1 w1 f1 i1
    | succ d ih =>
      intro m hm M1 s1 w1 f1 i1 a1
      have b1 := w1.2.1
      have k1 := (w1.2.2.2 m (by omega)).1
      have o1 := (hC.2.2 m (by omega)).1
      have k3 := (w1.2.2.2 m (by omega)).2.2.1
      have o3 := (hC.2.2 m (by omega)).2.2.1
      have am := a1 m (by omega)
      have wm := hwt m (by omega)
      have hq := hO.q.g (C := C) (s := mk F 0) hn m (by omega)
      have u5 := gb_un (C := C) (F := F) (s := mk F 0) m (by omega) 1 m (by omega) (by omega) (by omega)
      have u25 := gb_un (C := C) (F := F) (s := mk F 0) m (by omega) 5 m (by omega) (by omega) (by omega)
      have u15 := (gb_15 (C := C) (F := F) (s := mk F 0) m (by omega) m (by omega)).2 (Nat.le_refl _)
      have h15 := (hO.1 m (by omega)).2.2.2.1
      have q5 := (hO.1 m (by omega)).2.1
      have q25 := hO.d m (by omega)
      rw [show 5 * 1 + m = 5 + m by omega] at u5
      rw [show 5 * 5 + m = 25 + m by omega] at u25
      have hle := hb_le C F (mk F 0) m
      have hel := en_le C (mk F 0) m
      have hq1 : OkQ (C 0 0) (hup C F (mk F 0) (gb C F (mk F 0) m) m) := hq.u (by omega) (by omega)
      have hs9 := sal_le (C := C) (x := en C (mk F 0) m) (hq1.1 m (by omega)).2.1
      have hq2 : OkQ (C 0 0) (sup C (mk F 0) (hup C F (mk F 0) (gb C F (mk F 0) m) m) m) := hq1.u (by omega) (by omega)
      have tail : ∀ M5, Sm (SM f) M M5 → MW C M5 → FM (sup C (mk F 0) (hup C F (mk F 0) (gb C F (mk F 0) m) m) m) M5 f → gi M5 312 26 = nI (ps (hb C F (mk F 0)) 0 (m + 1)) → (∀ i, i < C 0 0 → gi M5 328 i = nI (wat C (mk F 0) i)) → k_M_passes_227 (nI f) Q (lp_M_passes_40 (nI f) Q K (d + 1)) K (nI (31 * f)) (nI m) (nI (slo C (sup C (mk F 0) (hup C F (mk F 0) (gb C F (mk F 0) m) m) m) m)) M5 := by
        intro M5 s5 w5 f5 i5 a5
        have ih1 := ih (m + 1) (by omega)
        rw [show gb C F (mk F 0) (m + 1) = slt C (sup C (mk F 0) (hup C F (mk F 0) (gb C F (mk F 0) m) m) m) m from rfl] at ih1
        have hsl : slo C (sup C (mk F 0) (hup C F (mk F 0) (gb C F (mk F 0) m) m) m) m ≤ 11 := by
          have := (hq2.1 m (by omega)).2.2.1
          unfold slo
          split
          · omega
          · split <;> omega
        generalize sup C (mk F 0) (hup C F (mk F 0) (gb C F (mk F 0) m) m) m = G2 at *
        unfold k_M_passes_227
        simp (disch := omega) only [fa_lit0, xI_le_T, xI_le_F, xI_lt_T, xI_lt_F, xI_eq_T, xI_eq_F, xN_a, xN_b, xN_c, xN_d, xN_e, xN_f, xN_g, xN_h, xI_add, xI_mul, xI_sub, xI_tn, xI_in, xI_ofNat, gi_si_eq, gi_n1, gi_n2, gl_sl_eq, gl_n1, gl_n2, gi_sl, gl_si, forall_eq, true_implies, false_implies, not_true_eq_false, not_false_eq_true, and_true, true_and, implies_true, and_self]
        refine M_less (by omega) (by omega) ?_
        unfold slt at ih1
        by_cases c : slo C G2 m < 9
        · rw [if_pos c] at ih1
          rw [if_pos c]
          simp (disch := omega) only [fa_lit0, xI_le_T, xI_le_F, xI_lt_T, xI_lt_F, xI_eq_T, xI_eq_F, xN_a, xN_b, xN_c, xN_d, xN_e, xN_f, xN_g, xN_h, xI_add, xI_mul, xI_sub, xI_tn, xI_in, xI_ofNat, gi_si_eq, gi_n1, gi_n2, gl_sl_eq, gl_n1, gl_n2, gi_sl, gl_si, forall_eq, true_implies, false_implies, not_true_eq_false, not_false_eq_true, and_true, true_and, implies_true, and_self, k_M_passes_287, Nat.add_assoc]
          exact ih1 _ (s5.wi (SM_in (by omega))) (w5.w (by omega)) f5.w ((gi_n1 (by omega)).trans i5) (fun i hi => (gi_n1 (by omega)).trans (a5 i hi))
        · rw [if_neg c] at ih1
          rw [if_neg c]
          simp (disch := omega) only [fa_lit0, xI_le_T, xI_le_F, xI_lt_T, xI_lt_F, xI_eq_T, xI_eq_F, xN_a, xN_b, xN_c, xN_d, xN_e, xN_f, xN_g, xN_h, xI_add, xI_mul, xI_sub, xI_tn, xI_in, xI_ofNat, gi_si_eq, gi_n1, gi_n2, gl_sl_eq, gl_n1, gl_n2, gi_sl, gl_si, forall_eq, true_implies, false_implies, not_true_eq_false, not_false_eq_true, and_true, true_and, implies_true, and_self, k_M_passes_287, Nat.add_assoc]
          exact ih1 _ ((((s5.wi (SM_in (by omega))).wi (SM_in (by omega))).wi (SM_in (by omega))).wi (SM_in (by omega))) ((((w5.w (by omega)).w (by omega)).w (by omega)).w (by omega)) f5.w.w.w.w (by simp (disch := omega) only [fa_lit0, xI_le_T, xI_le_F, xI_lt_T, xI_lt_F, xI_eq_T, xI_eq_F, xN_a, xN_b, xN_c, xN_d, xN_e, xN_f, xN_g, xN_h, xI_add, xI_mul, xI_sub, xI_tn, xI_in, xI_ofNat, gi_si_eq, gi_n1, gi_n2, gl_sl_eq, gl_n1, gl_n2, gi_sl, gl_si, forall_eq, true_implies, false_implies, not_true_eq_false, not_false_eq_true, and_true, true_and, implies_true, and_self, i5]) (fun i hi => by simp (disch := omega) only [fa_lit0, xI_le_T, xI_le_F, xI_lt_T, xI_lt_F, xI_eq_T, xI_eq_F, xN_a, xN_b, xN_c, xN_d, xN_e, xN_f, xN_g, xN_h, xI_add, xI_mul, xI_sub, xI_tn, xI_in, xI_ofNat, gi_si_eq, gi_n1, gi_n2, gl_sl_eq, gl_n1, gl_n2, gi_sl, gl_si, forall_eq, true_implies, false_implies, not_true_eq_false, not_false_eq_true, and_true, true_and, implies_true, and_self, a5 i hi])
      have mid : ∀ M4, Sm (SM f) M M4 → MW C M4 → FM (hup C F (mk F 0) (gb C F (mk F 0) m) m) M4 f → gi M4 312 26 = nI (ps (hb C F (mk F 0)) 0 (m + 1)) → (∀ i, i < C 0 0 → gi M4 328 i = nI (wat C (mk F 0) i)) → k_M_passes_177 (nI f) Q (lp_M_passes_40 (nI f) Q K (d + 1)) K (nI (31 * f)) (nI m) (nI (sal C (hup C F (mk F 0) (gb C F (mk F 0) m) m) m (en C (mk F 0) m))) (nI (31 * f + (5 + m))) M4 := by
        intro M4 s4 w4 f4 i4 a4
        have f5 : FM (sup C (mk F 0) (hup C F (mk F 0) (gb C F (mk F 0) m) m) m) (si M4 327 (31 * f + (5 + m)) (nI (sal C (hup C F (mk F 0) (gb C F (mk F 0) m) m) m (en C (mk F 0) m)))) f := f4.w
        have s5 := s4.wi (x := nI (sal C (hup C F (mk F 0) (gb C F (mk F 0) m) m) m (en C (mk F 0) m))) (SM_in (f := f) (j := 5 + m) (by omega))
        have w5 : MW C (si M4 327 (31 * f + (5 + m)) (nI (sal C (hup C F (mk F 0) (gb C F (mk F 0) m) m) m (en C (mk F 0) m)))) := w4.w (by omega)
        have t1 := tail _ s5 w5 f5 ((gi_n1 (by omega)).trans i4) (fun i hi => (gi_n1 (by omega)).trans (a4 i hi))
        have r10 : gi M4 327 (31 * f + (10 + m)) = nI (sup C (mk F 0) (hup C F (mk F 0) (gb C F (mk F 0) m) m) m (10 + m)) := by
          have := f5 (10 + m) (by omega)
          dsimp only at this
          rw [gi_n2 (by omega)] at this
          exact this
        have qm := hq2.1 m (by omega)
        unfold k_M_passes_177
        simp (disch := omega) only [fa_lit0, xI_le_T, xI_le_F, xI_lt_T, xI_lt_F, xI_eq_T, xI_eq_F, xN_a, xN_b, xN_c, xN_d, xN_e, xN_f, xN_g, xN_h, xI_add, xI_mul, xI_sub, xI_tn, xI_in, xI_ofNat, gi_si_eq, gi_n1, gi_n2, gl_sl_eq, gl_n1, gl_n2, gi_sl, gl_si, forall_eq, true_implies, false_implies, not_true_eq_false, not_false_eq_true, and_true, true_and, implies_true, and_self, Nat.add_assoc, r10]
        refine M_open qm.1 f5 hf (by omega) ?_
        generalize si M4 327 (31 * f + (5 + m)) (nI (sal C (hup C F (mk F 0) (gb C F (mk F 0) m) m) m (en C (mk F 0) m))) = M5 at *
        generalize sup C (mk F 0) (hup C F (mk F 0) (gb C F (mk F 0) m) m) m = G2 at *
        unfold slo at t1
        rcases (show G2 m = 0 ∨ G2 m = 1 by omega) with c | c
        · rw [if_neg (by omega)] at t1
          simp (disch := omega) only [fa_lit0, xI_le_T, xI_le_F, xI_lt_T, xI_lt_F, xI_eq_T, xI_eq_F, xN_a, xN_b, xN_c, xN_d, xN_e, xN_f, xN_g, xN_h, xI_add, xI_mul, xI_sub, xI_tn, xI_in, xI_ofNat, gi_si_eq, gi_n1, gi_n2, gl_sl_eq, gl_n1, gl_n2, gi_sl, gl_si, forall_eq, true_implies, false_implies, not_true_eq_false, not_false_eq_true, and_true, true_and, implies_true, and_self, c]
          refine M_isSilty w5 (by omega) ?_
          by_cases c2 : C 1 m = 2 ∨ C 1 m = 4
          · rw [if_pos c2] at t1
            rw [if_pos c2]
            simp (disch := omega) only [fa_lit0, xI_le_T, xI_le_F, xI_lt_T, xI_lt_F, xI_eq_T, xI_eq_F, xN_a, xN_b, xN_c, xN_d, xN_e, xN_f, xN_g, xN_h, xI_add, xI_mul, xI_sub, xI_tn, xI_in, xI_ofNat, gi_si_eq, gi_n1, gi_n2, gl_sl_eq, gl_n1, gl_n2, gi_sl, gl_si, forall_eq, true_implies, false_implies, not_true_eq_false, not_false_eq_true, and_true, true_and, implies_true, and_self, k_M_passes_226]
            exact t1
          · rw [if_neg c2] at t1
            rw [if_neg c2]
            simp (disch := omega) only [fa_lit0, xI_le_T, xI_le_F, xI_lt_T, xI_lt_F, xI_eq_T, xI_eq_F, xN_a, xN_b, xN_c, xN_d, xN_e, xN_f, xN_g, xN_h, xI_add, xI_mul, xI_sub, xI_tn, xI_in, xI_ofNat, gi_si_eq, gi_n1, gi_n2, gl_sl_eq, gl_n1, gl_n2, gi_sl, gl_si, forall_eq, true_implies, false_implies, not_true_eq_false, not_false_eq_true, and_true, true_and, implies_true, and_self, k_M_passes_226]
            exact t1
        · rw [if_pos c] at t1
          simp (disch := omega) only [fa_lit0, xI_le_T, xI_le_F, xI_lt_T, xI_lt_F, xI_eq_T, xI_eq_F, xN_a, xN_b, xN_c, xN_d, xN_e, xN_f, xN_g, xN_h, xI_add, xI_mul, xI_sub, xI_tn, xI_in, xI_ofNat, gi_si_eq, gi_n1, gi_n2, gl_sl_eq, gl_n1, gl_n2, gi_sl, gl_si, forall_eq, true_implies, false_implies, not_true_eq_false, not_false_eq_true, and_true, true_and, implies_true, and_self, c]
          refine M_great0 (by omega) ?_
          exact t1
      have e5 : hup C F (mk F 0) (gb C F (mk F 0) m) m (5 + m) = F (5 + m) := by unfold hup; rw [up_ne (by omega)]; exact u5
      have sec : ∀ M4, Sm (SM f) M M4 → MW C M4 → FM (hup C F (mk F 0) (gb C F (mk F 0) m) m) M4 f → gi M4 312 26 = nI (ps (hb C F (mk F 0)) 0 (m + 1)) → (∀ i, i < C 0 0 → gi M4 328 i = nI (wat C (mk F 0) i)) → k_M_passes_129 (nI f) Q (lp_M_passes_40 (nI f) Q K (d + 1)) K (nI (31 * f)) (nI m) (nI (en C (mk F 0) m)) (nI (F (5 + m))) M4 := by
        intro M4 s4 w4 f4 i4 a4
        have t1 := mid M4 s4 w4 f4 i4 a4
        have k1' := (w4.2.2.2 m (by omega)).1
        unfold sal at t1
        rw [e5] at t1
        unfold k_M_passes_129
        rcases (show en C (mk F 0) m = 0 ∨ en C (mk F 0) m = 1 by omega) with c | c
        · rw [c, if_neg (by omega)] at t1
          rw [c]
          by_cases c2 : C 1 m = 1
          · rw [if_pos c2] at t1
            simp (disch := omega) only [fa_lit0, xI_le_T, xI_le_F, xI_lt_T, xI_lt_F, xI_eq_T, xI_eq_F, xN_a, xN_b, xN_c, xN_d, xN_e, xN_f, xN_g, xN_h, xI_add, xI_mul, xI_sub, xI_tn, xI_in, xI_ofNat, gi_si_eq, gi_n1, gi_n2, gl_sl_eq, gl_n1, gl_n2, gi_sl, gl_si, forall_eq, true_implies, false_implies, not_true_eq_false, not_false_eq_true, and_true, true_and, implies_true, and_self, k1', c2, k_M_passes_173, Nat.add_assoc]
            refine M_less (by omega) (by omega) ?_
            exact t1
          · rw [if_neg c2] at t1
            simp (disch := omega) only [fa_lit0, xI_le_T, xI_le_F, xI_lt_T, xI_lt_F, xI_eq_T, xI_eq_F, xN_a, xN_b, xN_c, xN_d, xN_e, xN_f, xN_g, xN_h, xI_add, xI_mul, xI_sub, xI_tn, xI_in, xI_ofNat, gi_si_eq, gi_n1, gi_n2, gl_sl_eq, gl_n1, gl_n2, gi_sl, gl_si, forall_eq, true_implies, false_implies, not_true_eq_false, not_false_eq_true, and_true, true_and, implies_true, and_self, k1', k_M_passes_173, Nat.add_assoc]
            refine M_less (by omega) (by omega) ?_
            exact t1
        · rw [c, if_pos rfl] at t1
          rw [c]
          simp (disch := omega) only [fa_lit0, xI_le_T, xI_le_F, xI_lt_T, xI_lt_F, xI_eq_T, xI_eq_F, xN_a, xN_b, xN_c, xN_d, xN_e, xN_f, xN_g, xN_h, xI_add, xI_mul, xI_sub, xI_tn, xI_in, xI_ofNat, gi_si_eq, gi_n1, gi_n2, gl_sl_eq, gl_n1, gl_n2, gi_sl, gl_si, forall_eq, true_implies, false_implies, not_true_eq_false, not_false_eq_true, and_true, true_and, implies_true, and_self, Nat.add_assoc]
          refine M_great0 (by omega) ?_
          exact t1
      have r5 : gi M1 327 (31 * f + (5 + m)) = nI (F (5 + m)) := by rw [← u5]; exact f1 _ (by omega)
      have r15 : gi M1 327 (31 * f + (15 + m)) = nI (F (15 + m)) := by rw [← u15]; exact f1 _ (by omega)
      have eps : ps (hb C F (mk F 0)) 0 (m + 1) = ps (hb C F (mk F 0)) 0 m + hb C F (mk F 0) m * 2 ^ m := by
        show ps (hb C F (mk F 0)) 0 m + hb C F (mk F 0) (0 + m) * 2 ^ m = _
        rw [Nat.zero_add]
      have no : hb C F (mk F 0) m = 0 → k_M_passes_129 (nI f) Q (lp_M_passes_40 (nI f) Q K (d + 1)) K (nI (31 * f)) (nI m) (nI (en C (mk F 0) m)) (nI (F (5 + m))) M1 := by
        intro c
        refine sec M1 s1 w1 ?_ ?_ a1
        · unfold hup
          rw [c]
          intro j hj
          have := f1 j hj
          rw [this]
          by_cases v : j = 15 + m
          · subst v; rw [up_eq, Nat.add_zero]
          · rw [up_ne v]
        · rw [eps, c, Nat.zero_mul, Nat.add_zero]; exact i1
      have top : k_M_passes_68 (nI f) Q (lp_M_passes_40 (nI f) Q K (d + 1)) K (nI (31 * f)) (nI m) (nI (en C (mk F 0) m)) M1 := by
        unfold k_M_passes_68
        simp (disch := omega) only [fa_lit0, xI_le_T, xI_le_F, xI_lt_T, xI_lt_F, xI_eq_T, xI_eq_F, xN_a, xN_b, xN_c, xN_d, xN_e, xN_f, xN_g, xN_h, xI_add, xI_mul, xI_sub, xI_tn, xI_in, xI_ofNat, gi_si_eq, gi_n1, gi_n2, gl_sl_eq, gl_n1, gl_n2, gi_sl, gl_si, forall_eq, true_implies, false_implies, not_true_eq_false, not_false_eq_true, and_true, true_and, implies_true, and_self, Nat.add_assoc, r5]
        by_cases c : wat C (mk F 0) m < C 3 m
        · have c0 : en C (mk F 0) m = 0 := by unfold en; rw [if_pos c]
          have := no (by unfold hb; rw [if_pos (Or.inl c)])
          rw [c0] at this
          rw [c0]
          simp (disch := omega) only [fa_lit0, xI_le_T, xI_le_F, xI_lt_T, xI_lt_F, xI_eq_T, xI_eq_F, xN_a, xN_b, xN_c, xN_d, xN_e, xN_f, xN_g, xN_h, xI_add, xI_mul, xI_sub, xI_tn, xI_in, xI_ofNat, gi_si_eq, gi_n1, gi_n2, gl_sl_eq, gl_n1, gl_n2, gi_sl, gl_si, forall_eq, true_implies, false_implies, not_true_eq_false, not_false_eq_true, and_true, true_and, implies_true, and_self]
          exact this
        · have c1 : en C (mk F 0) m = 1 := by unfold en; rw [if_neg c]
          rw [c1] at no sec
          rw [c1]
          simp (disch := omega) only [fa_lit0, xI_le_T, xI_le_F, xI_lt_T, xI_lt_F, xI_eq_T, xI_eq_F, xN_a, xN_b, xN_c, xN_d, xN_e, xN_f, xN_g, xN_h, xI_add, xI_mul, xI_sub, xI_tn, xI_in, xI_ofNat, gi_si_eq, gi_n1, gi_n2, gl_sl_eq, gl_n1, gl_n2, gi_sl, gl_si, forall_eq, true_implies, false_implies, not_true_eq_false, not_false_eq_true, and_true, true_and, implies_true, and_self]
          refine M_dead (hq.d m (by omega)) f1 hf (by omega) ?_
          rw [u25]
          rcases (show F (25 + m) = 0 ∨ F (25 + m) = 1 by omega) with v | v
          · simp (disch := omega) only [fa_lit0, xI_le_T, xI_le_F, xI_lt_T, xI_lt_F, xI_eq_T, xI_eq_F, xN_a, xN_b, xN_c, xN_d, xN_e, xN_f, xN_g, xN_h, xI_add, xI_mul, xI_sub, xI_tn, xI_in, xI_ofNat, gi_si_eq, gi_n1, gi_n2, gl_sl_eq, gl_n1, gl_n2, gi_sl, gl_si, forall_eq, true_implies, false_implies, not_true_eq_false, not_false_eq_true, and_true, true_and, implies_true, and_self, v]
            by_cases v2 : 4 < F (5 + m)
            · have := no (by unfold hb; rw [if_pos (Or.inr (Or.inr v2))])
              simp (disch := omega) only [fa_lit0, xI_le_T, xI_le_F, xI_lt_T, xI_lt_F, xI_eq_T, xI_eq_F, xN_a, xN_b, xN_c, xN_d, xN_e, xN_f, xN_g, xN_h, xI_add, xI_mul, xI_sub, xI_tn, xI_in, xI_ofNat, gi_si_eq, gi_n1, gi_n2, gl_sl_eq, gl_n1, gl_n2, gi_sl, gl_si, forall_eq, true_implies, false_implies, not_true_eq_false, not_false_eq_true, and_true, true_and, implies_true, and_self]
              exact this
            · have hb1 : hb C F (mk F 0) m = 1 := by unfold hb; rw [if_neg (by omega)]
              have hlt := ps_lt (F := hb C F (mk F 0)) (b := 0) (fun i _ => hb_le _ _ _ _) m (by omega)
              simp (disch := omega) only [fa_lit0, xI_le_T, xI_le_F, xI_lt_T, xI_lt_F, xI_eq_T, xI_eq_F, xN_a, xN_b, xN_c, xN_d, xN_e, xN_f, xN_g, xN_h, xI_add, xI_mul, xI_sub, xI_tn, xI_in, xI_ofNat, gi_si_eq, gi_n1, gi_n2, gl_sl_eq, gl_n1, gl_n2, gi_sl, gl_si, forall_eq, true_implies, false_implies, not_true_eq_false, not_false_eq_true, and_true, true_and, implies_true, and_self, i1, bs_l, r15]
              rw [or_top m (by omega) _ hlt]
              rw [hb1, Nat.one_mul] at eps
              rw [← eps]
              refine sec _ ((s1.wi (Or.inr (Or.inr ⟨rfl, rfl⟩))).wi (SM_in (by omega))) ((w1.w (by omega)).w (by omega)) ?_ ?_ ?_
              · unfold hup
                rw [hb1, u15]
                exact FM.w (f1.sm (S := fun a _ => a = 312) ((Sm.refl _ M1).wi rfl) (by omega))
              · simp (disch := omega) only [fa_lit0, xI_le_T, xI_le_F, xI_lt_T, xI_lt_F, xI_eq_T, xI_eq_F, xN_a, xN_b, xN_c, xN_d, xN_e, xN_f, xN_g, xN_h, xI_add, xI_mul, xI_sub, xI_tn, xI_in, xI_ofNat, gi_si_eq, gi_n1, gi_n2, gl_sl_eq, gl_n1, gl_n2, gi_sl, gl_si, forall_eq, true_implies, false_implies, not_true_eq_false, not_false_eq_true, and_true, true_and, implies_true, and_self]
              · intro i hi
                simp (disch := omega) only [fa_lit0, xI_le_T, xI_le_F, xI_lt_T, xI_lt_F, xI_eq_T, xI_eq_F, xN_a, xN_b, xN_c, xN_d, xN_e, xN_f, xN_g, xN_h, xI_add, xI_mul, xI_sub, xI_tn, xI_in, xI_ofNat, gi_si_eq, gi_n1, gi_n2, gl_sl_eq, gl_n1, gl_n2, gi_sl, gl_si, forall_eq, true_implies, false_implies, not_true_eq_false, not_false_eq_true, and_true, true_and, implies_true, and_self, a1 i hi]
          · have := no (by unfold hb; rw [if_pos (Or.inr (Or.inl v))])
            simp (disch := omega) only [fa_lit0, xI_le_T, xI_le_F, xI_lt_T, xI_lt_F, xI_eq_T, xI_eq_F, xN_a, xN_b, xN_c, xN_d, xN_e, xN_f, xN_g, xN_h, xI_add, xI_mul, xI_sub, xI_tn, xI_in, xI_ofNat, gi_si_eq, gi_n1, gi_n2, gl_sl_eq, gl_n1, gl_n2, gi_sl, gl_si, forall_eq, true_implies, false_implies, not_true_eq_false, not_false_eq_true, and_true, true_and, implies_true, and_self, v]
            exact this
      show k_M_passes_40 (nI f) Q _ K _ _ M1
      unfold k_M_passes_40
      unfold en at top
      by_cases c : wat C (mk F 0) m < C 3 m
      · rw [if_pos c] at top
        simp (disch := omega) only [fa_lit0, xI_le_T, xI_le_F, xI_lt_T, xI_lt_F, xI_eq_T, xI_eq_F, xN_a, xN_b, xN_c, xN_d, xN_e, xN_f, xN_g, xN_h, xI_add, xI_mul, xI_sub, xI_tn, xI_in, xI_ofNat, gi_si_eq, gi_n1, gi_n2, gl_sl_eq, gl_n1, gl_n2, gi_sl, gl_si, forall_eq, true_implies, false_implies, not_true_eq_false, not_false_eq_true, and_true, true_and, implies_true, and_self, b1, am, k3]
        exact top
      · rw [if_neg c] at top
        simp (disch := omega) only [fa_lit0, xI_le_T, xI_le_F, xI_lt_T, xI_lt_F, xI_eq_T, xI_eq_F, xN_a, xN_b, xN_c, xN_d, xN_e, xN_f, xN_g, xN_h, xI_add, xI_mul, xI_sub, xI_tn, xI_in, xI_ofNat, gi_si_eq, gi_n1, gi_n2, gl_sl_eq, gl_n1, gl_n2, gi_sl, gl_si, forall_eq, true_implies, false_implies, not_true_eq_false, not_false_eq_true, and_true, true_and, implies_true, and_self, b1, am, k3]
        exact top
  refine ⟨_, l2 _ ?_ (C 0 0) 0 (by omega) M2 s2 w2 f2 i2 a2⟩
  intro M3 s3 w3 f3 i3
  have e30 : gi M3 327 (31 * f + 30) = nI (F 30) := by
    have := f3 30 (by omega)
    rwa [gb_30 _ hn] at this
  simp (disch := omega) only [fa_lit0, xI_le_T, xI_le_F, xI_lt_T, xI_lt_F, xI_eq_T, xI_eq_F, xN_a, xN_b, xN_c, xN_d, xN_e, xN_f, xN_g, xN_h, xI_add, xI_mul, xI_sub, xI_tn, xI_in, xI_ofNat, gi_si_eq, gi_n1, gi_n2, gl_sl_eq, gl_n1, gl_n2, gi_sl, gl_si, forall_eq, true_implies, false_implies, not_true_eq_false, not_false_eq_true, and_true, true_and, implies_true, and_self, e30]
  rw [i3]
  refine M_bits (hv_lt hC F) ?_
  exact h _ (s3.wi (SM_in (by omega))) (w3.w (by omega)) f3.w ((gi_n1 (by omega)).trans i3)
