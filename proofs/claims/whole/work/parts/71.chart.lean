/-! eels, need, awaits -/
theorem B_eels_lp {C : Nat → Nat → Nat} {F : Nat → Nat} {M : Mm} {a1 a2 : Int32} {lo hi : Nat} (hO : OkF (C 0 0) F) (hF : FlB F M 61) (hl : lo ≤ hi) (hh : hi < 5) {Q : Int32 → Mm → Prop} (h1 : (∃ j, lo ≤ j ∧ j ≤ hi ∧ F j = 0) → Q (-nI 9) M) (h2 : (∀ j, lo ≤ j → j ≤ hi → F j = 1) → Q ((nI hi - nI lo) - nI 1) M) : ∃ n, lp_B_eels_45 a1 a2 Q n (nI lo) (nI hi) (nI lo) M := by
  have lm := mk_lt hO.o
  have key : ∀ (d m : Nat), m + d = hi + 1 → lo ≤ m → (∀ j, lo ≤ j → j < m → F j = 1) → lp_B_eels_45 a1 a2 Q (d + 1) (nI lo) (nI hi) (nI m) M := by
    intro d
    induction d with
    | zero =>
      intro m hm hml hj
      show k_B_eels_45 a1 a2 Q _ _ _ _ M
      unfold k_B_eels_45
      have := h2 (fun j q1 q2 => hj j q1 (by omega))
      rw [pk_sub hl] at this
      simp (disch := omega) only [fa_lit0, xI_le_T, xI_le_F, xI_lt_T, xI_lt_F, xI_eq_T, xI_eq_F, xN_a, xN_b, xN_c, xN_d, xN_e, xN_f, xN_g, xN_h, xI_add, xI_mul, xI_sub, xI_tn, xI_in, xI_ofNat, gi_si_eq, gi_n1, gi_n2, gl_sl_eq, gl_n1, gl_n2, gi_sl, gl_si, forall_eq, true_implies, false_implies, not_true_eq_false, not_false_eq_true, and_true, true_and, implies_true, and_self]
      exact this
    | succ d ih =>
      intro m hm hml hj
      show k_B_eels_45 a1 a2 Q _ _ _ _ M
      unfold k_B_eels_45
      simp (disch := omega) only [fa_lit0, xI_le_T, xI_le_F, xI_lt_T, xI_lt_F, xI_eq_T, xI_eq_F, xN_a, xN_b, xN_c, xN_d, xN_e, xN_f, xN_g, xN_h, xI_add, xI_mul, xI_sub, xI_tn, xI_in, xI_ofNat, gi_si_eq, gi_n1, gi_n2, gl_sl_eq, gl_n1, gl_n2, gi_sl, gl_si, forall_eq, true_implies, false_implies, not_true_eq_false, not_false_eq_true, and_true, true_and, implies_true, and_self, hF.2.1]
      refine B_has lm (by omega) ?_
      rw [hO.ob (by omega)]
      rcases (show F m = 0 ∨ F m = 1 by have := (hO.1 m (by omega)).1; omega) with c | c
      · simp (disch := omega) only [fa_lit0, xI_le_T, xI_le_F, xI_lt_T, xI_lt_F, xI_eq_T, xI_eq_F, xN_a, xN_b, xN_c, xN_d, xN_e, xN_f, xN_g, xN_h, xI_add, xI_mul, xI_sub, xI_tn, xI_in, xI_ofNat, gi_si_eq, gi_n1, gi_n2, gl_sl_eq, gl_n1, gl_n2, gi_sl, gl_si, forall_eq, true_implies, false_implies, not_true_eq_false, not_false_eq_true, and_true, true_and, implies_true, and_self, c]
        exact h1 ⟨m, hml, by omega, c⟩
      · simp (disch := omega) only [fa_lit0, xI_le_T, xI_le_F, xI_lt_T, xI_lt_F, xI_eq_T, xI_eq_F, xN_a, xN_b, xN_c, xN_d, xN_e, xN_f, xN_g, xN_h, xI_add, xI_mul, xI_sub, xI_tn, xI_in, xI_ofNat, gi_si_eq, gi_n1, gi_n2, gl_sl_eq, gl_n1, gl_n2, gi_sl, gl_si, forall_eq, true_implies, false_implies, not_true_eq_false, not_false_eq_true, and_true, true_and, implies_true, and_self, c]
        refine ih (m + 1) (by omega) (by omega) fun j q1 q2 => ?_
        by_cases e : j = m
        · rw [e]; exact c
        · exact hj j q1 (by omega)
  exact ⟨_, key (hi + 1 - lo) lo (by omega) (Nat.le_refl _) (fun j q1 q2 => by omega)⟩
theorem M_gN {a b : Nat} (ha : a < 2 ^ 31) (hb : b < 2 ^ 31) {M : Mm} {Q : Int32 → Mm → Prop} (h : Q (nI (max a b)) M) : wp_M_greater (nI a) (nI b) M Q := by
  unfold wp_M_greater
  by_cases c : a ≤ b
  · rw [Nat.max_eq_right c] at h; simp (disch := omega) only [fa_lit0, xI_le_T, xI_le_F, xI_lt_T, xI_lt_F, xI_eq_T, xI_eq_F, xN_a, xN_b, xN_c, xN_d, xN_e, xN_f, xN_g, xN_h, xI_add, xI_mul, xI_sub, xI_tn, xI_in, xI_ofNat, gi_si_eq, gi_n1, gi_n2, gl_sl_eq, gl_n1, gl_n2, gi_sl, gl_si, forall_eq, true_implies, false_implies, not_true_eq_false, not_false_eq_true, and_true, true_and, implies_true, and_self]; exact h
  · rw [Nat.max_eq_left (by omega)] at h; simp (disch := omega) only [fa_lit0, xI_le_T, xI_le_F, xI_lt_T, xI_lt_F, xI_eq_T, xI_eq_F, xN_a, xN_b, xN_c, xN_d, xN_e, xN_f, xN_g, xN_h, xI_add, xI_mul, xI_sub, xI_tn, xI_in, xI_ofNat, gi_si_eq, gi_n1, gi_n2, gl_sl_eq, gl_n1, gl_n2, gi_sl, gl_si, forall_eq, true_implies, false_implies, not_true_eq_false, not_false_eq_true, and_true, true_and, implies_true, and_self]; exact h
theorem M_lN {a b : Nat} (ha : a < 2 ^ 31) (hb : b < 2 ^ 31) {M : Mm} {Q : Int32 → Mm → Prop} (h : Q (nI (min a b)) M) : wp_M_lesser (nI a) (nI b) M Q := by
  unfold wp_M_lesser
  by_cases c : b ≤ a
  · rw [Nat.min_eq_right c] at h; simp (disch := omega) only [fa_lit0, xI_le_T, xI_le_F, xI_lt_T, xI_lt_F, xI_eq_T, xI_eq_F, xN_a, xN_b, xN_c, xN_d, xN_e, xN_f, xN_g, xN_h, xI_add, xI_mul, xI_sub, xI_tn, xI_in, xI_ofNat, gi_si_eq, gi_n1, gi_n2, gl_sl_eq, gl_n1, gl_n2, gi_sl, gl_si, forall_eq, true_implies, false_implies, not_true_eq_false, not_false_eq_true, and_true, true_and, implies_true, and_self]; exact h
  · rw [Nat.min_eq_left (by omega)] at h; simp (disch := omega) only [fa_lit0, xI_le_T, xI_le_F, xI_lt_T, xI_lt_F, xI_eq_T, xI_eq_F, xN_a, xN_b, xN_c, xN_d, xN_e, xN_f, xN_g, xN_h, xI_add, xI_mul, xI_sub, xI_tn, xI_in, xI_ofNat, gi_si_eq, gi_n1, gi_n2, gl_sl_eq, gl_n1, gl_n2, gi_sl, gl_si, forall_eq, true_implies, false_implies, not_true_eq_false, not_false_eq_true, and_true, true_and, implies_true, and_self]; exact h
theorem M_eels_lp {C : Nat → Nat → Nat} {F : Nat → Nat} {M : Mm} {i j : Nat} (hO : OkF (C 0 0) F) (hF : FM F M 0) (hi : i < 5) (hj : j < 5) {Q : Int32 → Mm → Prop} {K : Int32 → Mm → Prop} (h1 : (∃ q, min i j ≤ q ∧ q ≤ max i j ∧ F q = 0) → K (nI 0) M) (h2 : (∀ q, min i j ≤ q → q ≤ max i j → F q = 1) → K (nI 1) M) : ∃ n, lp_M_eels_32 (nI i) (nI j) Q K n (nI 1) (nI (min i j)) M := by
  have key : ∀ (d m x : Nat), m + d = max i j + 1 → min i j ≤ m → ((x = 1 ∧ ∀ q, min i j ≤ q → q < m → F q = 1) ∨ (x = 0 ∧ ∃ q, min i j ≤ q ∧ q < m ∧ F q = 0)) → lp_M_eels_32 (nI i) (nI j) Q K (d + 1) (nI x) (nI m) M := by
    intro d
    induction d with
    | zero =>
      intro m x hm hml hx
      show k_M_eels_32 (nI i) (nI j) Q _ K _ _ M
      unfold k_M_eels_32
      refine M_gN (by omega) (by omega) ?_
      simp (disch := omega) only [fa_lit0, xI_le_T, xI_le_F, xI_lt_T, xI_lt_F, xI_eq_T, xI_eq_F, xN_a, xN_b, xN_c, xN_d, xN_e, xN_f, xN_g, xN_h, xI_add, xI_mul, xI_sub, xI_tn, xI_in, xI_ofNat, gi_si_eq, gi_n1, gi_n2, gl_sl_eq, gl_n1, gl_n2, gi_sl, gl_si, forall_eq, true_implies, false_implies, not_true_eq_false, not_false_eq_true, and_true, true_and, implies_true, and_self]
      rcases hx with ⟨e, q⟩ | ⟨e, q, q1, q2, q3⟩
      · rw [e]; exact h2 (fun t t1 t2 => q t t1 (by omega))
      · rw [e]; exact h1 ⟨q, q1, by omega, q3⟩
    | succ d ih =>
      intro m x hm hml hx
      show k_M_eels_32 (nI i) (nI j) Q _ K _ _ M
      unfold k_M_eels_32
      refine M_gN (by omega) (by omega) ?_
      have ih0 := ih (m + 1) 0 (by omega) (by omega)
      have ih1 := ih (m + 1) 1 (by omega) (by omega)
      rcases hx with ⟨e, q⟩ | ⟨e, q, q1, q2, q3⟩
      · subst e
        simp (disch := omega) only [fa_lit0, xI_le_T, xI_le_F, xI_lt_T, xI_lt_F, xI_eq_T, xI_eq_F, xN_a, xN_b, xN_c, xN_d, xN_e, xN_f, xN_g, xN_h, xI_add, xI_mul, xI_sub, xI_tn, xI_in, xI_ofNat, gi_si_eq, gi_n1, gi_n2, gl_sl_eq, gl_n1, gl_n2, gi_sl, gl_si, forall_eq, true_implies, false_implies, not_true_eq_false, not_false_eq_true, and_true, true_and, implies_true, and_self]
        refine M_open (hO.1 m (by omega)).1 hF (by omega) (by omega) ?_
        rcases (show F m = 0 ∨ F m = 1 by have := (hO.1 m (by omega)).1; omega) with c | c
        · simp (disch := omega) only [fa_lit0, xI_le_T, xI_le_F, xI_lt_T, xI_lt_F, xI_eq_T, xI_eq_F, xN_a, xN_b, xN_c, xN_d, xN_e, xN_f, xN_g, xN_h, xI_add, xI_mul, xI_sub, xI_tn, xI_in, xI_ofNat, gi_si_eq, gi_n1, gi_n2, gl_sl_eq, gl_n1, gl_n2, gi_sl, gl_si, forall_eq, true_implies, false_implies, not_true_eq_false, not_false_eq_true, and_true, true_and, implies_true, and_self, c, k_M_eels_60, k_M_eels_61]
          exact ih0 (Or.inr ⟨rfl, m, hml, by omega, c⟩)
        · simp (disch := omega) only [fa_lit0, xI_le_T, xI_le_F, xI_lt_T, xI_lt_F, xI_eq_T, xI_eq_F, xN_a, xN_b, xN_c, xN_d, xN_e, xN_f, xN_g, xN_h, xI_add, xI_mul, xI_sub, xI_tn, xI_in, xI_ofNat, gi_si_eq, gi_n1, gi_n2, gl_sl_eq, gl_n1, gl_n2, gi_sl, gl_si, forall_eq, true_implies, false_implies, not_true_eq_false, not_false_eq_true, and_true, true_and, implies_true, and_self, c, k_M_eels_61]
          refine ih1 (Or.inl ⟨rfl, fun t t1 t2 => ?_⟩)
          by_cases e : t = m
          · rw [e]; exact c
          · exact q t t1 (by omega)
      · subst e
        simp (disch := omega) only [fa_lit0, xI_le_T, xI_le_F, xI_lt_T, xI_lt_F, xI_eq_T, xI_eq_F, xN_a, xN_b, xN_c, xN_d, xN_e, xN_f, xN_g, xN_h, xI_add, xI_mul, xI_sub, xI_tn, xI_in, xI_ofNat, gi_si_eq, gi_n1, gi_n2, gl_sl_eq, gl_n1, gl_n2, gi_sl, gl_si, forall_eq, true_implies, false_implies, not_true_eq_false, not_false_eq_true, and_true, true_and, implies_true, and_self, k_M_eels_60, k_M_eels_61]
        exact ih0 (Or.inr ⟨rfl, q, q1, by omega, q3⟩)
  exact ⟨_, key (max i j + 1 - min i j) (min i j) 1 (by omega) (Nat.le_refl _) (Or.inl ⟨rfl, fun q q1 q2 => by omega⟩)⟩
theorem min_I {i j : Nat} (hi : i < 5) (hj : j < 5) : (if nI j < nI i then nI j else nI i) = nI (min i j) := by
  by_cases c : j < i
  · rw [if_pos (nI_lt c (by omega)), Nat.min_eq_right (by omega)]
  · rw [if_neg (nI_nlt (by omega) (by omega)), Nat.min_eq_left (by omega)]
theorem max_I {i j : Nat} (hi : i < 5) (hj : j < 5) : (if nI i < nI j then nI j else nI i) = nI (max i j) := by
  by_cases c : i < j
  · rw [if_pos (nI_lt c (by omega)), Nat.max_eq_right (by omega)]
  · rw [if_neg (nI_nlt (by omega) (by omega)), Nat.max_eq_left (by omega)]
theorem op_eels {a1 a2 : Int32} {M : Mm} (h : Rel RDel M) : wp_B_eels a1 a2 M (fun r M1 => wp_M_eels a1 a2 M1 (fun r2 M2 => r = r2 ∧ Rel RDel M2)) := by
  obtain ⟨C, F, D, L, T, N, V, KL, hd⟩ := h.2.2.2.2.2.2.out
  obtain ⟨hC, hB, hW, hO, hF, hG, -⟩ := hd.parts
  have hn := hC.1
  unfold wp_B_eels
  rcases arm_cases a1 hC.1 with g | ⟨i, hi, rfl⟩
  · refine B_noArm hC.1 hB.1 g ?_
    simp (disch := omega) only [fa_lit0, xI_le_T, xI_le_F, xI_lt_T, xI_lt_F, xI_eq_T, xI_eq_F, xN_a, xN_b, xN_c, xN_d, xN_e, xN_f, xN_g, xN_h, xI_add, xI_mul, xI_sub, xI_tn, xI_in, xI_ofNat, gi_si_eq, gi_n1, gi_n2, gl_sl_eq, gl_n1, gl_n2, gi_sl, gl_si, forall_eq, true_implies, false_implies, not_true_eq_false, not_false_eq_true, and_true, true_and, implies_true, and_self, wp_M_eels]
    refine M_noArm hC.1 hW.2.1 g ?_
    simp (disch := omega) only [fa_lit0, xI_le_T, xI_le_F, xI_lt_T, xI_lt_F, xI_eq_T, xI_eq_F, xN_a, xN_b, xN_c, xN_d, xN_e, xN_f, xN_g, xN_h, xI_add, xI_mul, xI_sub, xI_tn, xI_in, xI_ofNat, gi_si_eq, gi_n1, gi_n2, gl_sl_eq, gl_n1, gl_n2, gi_sl, gl_si, forall_eq, true_implies, false_implies, not_true_eq_false, not_false_eq_true, and_true, true_and, implies_true, and_self]
    exact h
  · refine B_anArm hC.1 hB.1 hi ?_
    simp (disch := omega) only [fa_lit0, xI_le_T, xI_le_F, xI_lt_T, xI_lt_F, xI_eq_T, xI_eq_F, xN_a, xN_b, xN_c, xN_d, xN_e, xN_f, xN_g, xN_h, xI_add, xI_mul, xI_sub, xI_tn, xI_in, xI_ofNat, gi_si_eq, gi_n1, gi_n2, gl_sl_eq, gl_n1, gl_n2, gi_sl, gl_si, forall_eq, true_implies, false_implies, not_true_eq_false, not_false_eq_true, and_true, true_and, implies_true, and_self]
    rcases arm_cases a2 hC.1 with g | ⟨j, hj, rfl⟩
    · refine B_noArm hC.1 hB.1 g ?_
      simp (disch := omega) only [fa_lit0, xI_le_T, xI_le_F, xI_lt_T, xI_lt_F, xI_eq_T, xI_eq_F, xN_a, xN_b, xN_c, xN_d, xN_e, xN_f, xN_g, xN_h, xI_add, xI_mul, xI_sub, xI_tn, xI_in, xI_ofNat, gi_si_eq, gi_n1, gi_n2, gl_sl_eq, gl_n1, gl_n2, gi_sl, gl_si, forall_eq, true_implies, false_implies, not_true_eq_false, not_false_eq_true, and_true, true_and, implies_true, and_self, wp_M_eels]
      refine M_anArm hC.1 hW.2.1 hi ?_
      simp (disch := omega) only [fa_lit0, xI_le_T, xI_le_F, xI_lt_T, xI_lt_F, xI_eq_T, xI_eq_F, xN_a, xN_b, xN_c, xN_d, xN_e, xN_f, xN_g, xN_h, xI_add, xI_mul, xI_sub, xI_tn, xI_in, xI_ofNat, gi_si_eq, gi_n1, gi_n2, gl_sl_eq, gl_n1, gl_n2, gi_sl, gl_si, forall_eq, true_implies, false_implies, not_true_eq_false, not_false_eq_true, and_true, true_and, implies_true, and_self]
      refine M_noArm hC.1 hW.2.1 g ?_
      simp (disch := omega) only [fa_lit0, xI_le_T, xI_le_F, xI_lt_T, xI_lt_F, xI_eq_T, xI_eq_F, xN_a, xN_b, xN_c, xN_d, xN_e, xN_f, xN_g, xN_h, xI_add, xI_mul, xI_sub, xI_tn, xI_in, xI_ofNat, gi_si_eq, gi_n1, gi_n2, gl_sl_eq, gl_n1, gl_n2, gi_sl, gl_si, forall_eq, true_implies, false_implies, not_true_eq_false, not_false_eq_true, and_true, true_and, implies_true, and_self]
      exact h
    · refine B_anArm hC.1 hB.1 hj ?_
      by_cases e : i = j
      · subst e
        simp (disch := omega) only [fa_lit0, xI_le_T, xI_le_F, xI_lt_T, xI_lt_F, xI_eq_T, xI_eq_F, xN_a, xN_b, xN_c, xN_d, xN_e, xN_f, xN_g, xN_h, xI_add, xI_mul, xI_sub, xI_tn, xI_in, xI_ofNat, gi_si_eq, gi_n1, gi_n2, gl_sl_eq, gl_n1, gl_n2, gi_sl, gl_si, forall_eq, true_implies, false_implies, not_true_eq_false, not_false_eq_true, and_true, true_and, implies_true, and_self, wp_M_eels]
        refine M_anArm hC.1 hW.2.1 hi ?_
        simp (disch := omega) only [fa_lit0, xI_le_T, xI_le_F, xI_lt_T, xI_lt_F, xI_eq_T, xI_eq_F, xN_a, xN_b, xN_c, xN_d, xN_e, xN_f, xN_g, xN_h, xI_add, xI_mul, xI_sub, xI_tn, xI_in, xI_ofNat, gi_si_eq, gi_n1, gi_n2, gl_sl_eq, gl_n1, gl_n2, gi_sl, gl_si, forall_eq, true_implies, false_implies, not_true_eq_false, not_false_eq_true, and_true, true_and, implies_true, and_self]
        refine M_anArm hC.1 hW.2.1 hi ?_
        simp (disch := omega) only [fa_lit0, xI_le_T, xI_le_F, xI_lt_T, xI_lt_F, xI_eq_T, xI_eq_F, xN_a, xN_b, xN_c, xN_d, xN_e, xN_f, xN_g, xN_h, xI_add, xI_mul, xI_sub, xI_tn, xI_in, xI_ofNat, gi_si_eq, gi_n1, gi_n2, gl_sl_eq, gl_n1, gl_n2, gi_sl, gl_si, forall_eq, true_implies, false_implies, not_true_eq_false, not_false_eq_true, and_true, true_and, implies_true, and_self]
        exact h
      · rw [min_I (by omega) (by omega), max_I (by omega) (by omega)]
        simp (disch := omega) only [fa_lit0, xI_le_T, xI_le_F, xI_lt_T, xI_lt_F, xI_eq_T, xI_eq_F, xN_a, xN_b, xN_c, xN_d, xN_e, xN_f, xN_g, xN_h, xI_add, xI_mul, xI_sub, xI_tn, xI_in, xI_ofNat, gi_si_eq, gi_n1, gi_n2, gl_sl_eq, gl_n1, gl_n2, gi_sl, gl_si, forall_eq, true_implies, false_implies, not_true_eq_false, not_false_eq_true, and_true, true_and, implies_true, and_self]
        have go : ∀ (Q : Int32 → Mm → Prop), ((∃ q, min i j ≤ q ∧ q ≤ max i j ∧ F q = 0) → Q (-nI 9) M) → ((∀ q, min i j ≤ q → q ≤ max i j → F q = 1) → Q ((nI (max i j) - nI (min i j)) - nI 1) M) → wp_M_eels (nI i) (nI j) M Q := by
          intro Q q1 q2
          unfold wp_M_eels
          refine M_anArm hC.1 hW.2.1 hi ?_
          simp (disch := omega) only [fa_lit0, xI_le_T, xI_le_F, xI_lt_T, xI_lt_F, xI_eq_T, xI_eq_F, xN_a, xN_b, xN_c, xN_d, xN_e, xN_f, xN_g, xN_h, xI_add, xI_mul, xI_sub, xI_tn, xI_in, xI_ofNat, gi_si_eq, gi_n1, gi_n2, gl_sl_eq, gl_n1, gl_n2, gi_sl, gl_si, forall_eq, true_implies, false_implies, not_true_eq_false, not_false_eq_true, and_true, true_and, implies_true, and_self]
          refine M_anArm hC.1 hW.2.1 hj ?_
          simp (disch := omega) only [fa_lit0, xI_le_T, xI_le_F, xI_lt_T, xI_lt_F, xI_eq_T, xI_eq_F, xN_a, xN_b, xN_c, xN_d, xN_e, xN_f, xN_g, xN_h, xI_add, xI_mul, xI_sub, xI_tn, xI_in, xI_ofNat, gi_si_eq, gi_n1, gi_n2, gl_sl_eq, gl_n1, gl_n2, gi_sl, gl_si, forall_eq, true_implies, false_implies, not_true_eq_false, not_false_eq_true, and_true, true_and, implies_true, and_self]
          refine M_lN (by omega) (by omega) ?_
          refine M_eels_lp hO hG (by omega) (by omega) ?_ ?_
          · intro w
            simp (disch := omega) only [fa_lit0, xI_le_T, xI_le_F, xI_lt_T, xI_lt_F, xI_eq_T, xI_eq_F, xN_a, xN_b, xN_c, xN_d, xN_e, xN_f, xN_g, xN_h, xI_add, xI_mul, xI_sub, xI_tn, xI_in, xI_ofNat, gi_si_eq, gi_n1, gi_n2, gl_sl_eq, gl_n1, gl_n2, gi_sl, gl_si, forall_eq, true_implies, false_implies, not_true_eq_false, not_false_eq_true, and_true, true_and, implies_true, and_self]
            exact q1 w
          · intro w
            simp (disch := omega) only [fa_lit0, xI_le_T, xI_le_F, xI_lt_T, xI_lt_F, xI_eq_T, xI_eq_F, xN_a, xN_b, xN_c, xN_d, xN_e, xN_f, xN_g, xN_h, xI_add, xI_mul, xI_sub, xI_tn, xI_in, xI_ofNat, gi_si_eq, gi_n1, gi_n2, gl_sl_eq, gl_n1, gl_n2, gi_sl, gl_si, forall_eq, true_implies, false_implies, not_true_eq_false, not_false_eq_true, and_true, true_and, implies_true, and_self]
            refine M_gN (by omega) (by omega) ?_
            refine M_lN (by omega) (by omega) ?_
            exact q2 w
        refine B_eels_lp hO hF (by omega) (by omega) ?_ ?_
        · rintro ⟨q, q1, q2, q3⟩
          refine go _ (fun _ => ⟨rfl, h⟩) (fun w => ?_)
          have := w q q1 q2
          omega
        · intro w
          refine go _ ?_ (fun _ => ⟨rfl, h⟩)
          rintro ⟨q, q1, q2, q3⟩
          have := w q q1 q2
          omega
def upC (C : Nat → Nat → Nat) (r i v : Nat) : Nat → Nat → Nat := fun a b => if a = r ∧ b = i then v else C a b
theorem upC_eq (C : Nat → Nat → Nat) (r i v : Nat) : upC C r i v r i = v := if_pos ⟨rfl, rfl⟩
theorem upC_ne {C : Nat → Nat → Nat} {r i v a b : Nat} (h : a ≠ r ∨ b ≠ i) : upC C r i v a b = C a b := if_neg (by omega)
theorem forget_ok {C : Nat → Nat → Nat} {M : Mm} : ChS C (fli M 27 32 (-nI 1)) := fun s hs => Or.inl (gi_fli_in hs)
theorem op_need {a1 a2 : Int32} {M : Mm} (h : Rel RDel M) : wp_B_need a1 a2 M (fun r M1 => wp_M_need a1 a2 M1 (fun r2 M2 => r = r2 ∧ Rel RDel M2)) := by
  obtain ⟨C, F, D, L, T, N, V, KL, hd⟩ := h.2.2.2.2.2.2.out
  obtain ⟨hC, hB, hW, hO, hF, hG, -⟩ := hd.parts
  have hn := hC.1
  unfold wp_B_need
  rcases arm_cases a1 hC.1 with g | ⟨i, hi, rfl⟩
  · refine B_noArm hC.1 hB.1 g ?_
    simp (disch := omega) only [fa_lit0, xI_le_T, xI_le_F, xI_lt_T, xI_lt_F, xI_eq_T, xI_eq_F, xN_a, xN_b, xN_c, xN_d, xN_e, xN_f, xN_g, xN_h, xI_add, xI_mul, xI_sub, xI_tn, xI_in, xI_ofNat, gi_si_eq, gi_n1, gi_n2, gl_sl_eq, gl_n1, gl_n2, gi_sl, gl_si, forall_eq, true_implies, false_implies, not_true_eq_false, not_false_eq_true, and_true, true_and, implies_true, and_self, wp_M_need]
    refine M_noArm hC.1 hW.2.1 g ?_
    simp (disch := omega) only [fa_lit0, xI_le_T, xI_le_F, xI_lt_T, xI_lt_F, xI_eq_T, xI_eq_F, xN_a, xN_b, xN_c, xN_d, xN_e, xN_f, xN_g, xN_h, xI_add, xI_mul, xI_sub, xI_tn, xI_in, xI_ofNat, gi_si_eq, gi_n1, gi_n2, gl_sl_eq, gl_n1, gl_n2, gi_sl, gl_si, forall_eq, true_implies, false_implies, not_true_eq_false, not_false_eq_true, and_true, true_and, implies_true, and_self]
    exact h
  · refine B_anArm hC.1 hB.1 hi ?_
    rcases pk_ix a2 (n := 10) (by omega) with g | g | ⟨w, hw, rfl⟩
    · simp (disch := omega) only [fa_lit0, xI_le_T, xI_le_F, xI_lt_T, xI_lt_F, xI_eq_T, xI_eq_F, xN_a, xN_b, xN_c, xN_d, xN_e, xN_f, xN_g, xN_h, xI_add, xI_mul, xI_sub, xI_tn, xI_in, xI_ofNat, gi_si_eq, gi_n1, gi_n2, gl_sl_eq, gl_n1, gl_n2, gi_sl, gl_si, forall_eq, true_implies, false_implies, not_true_eq_false, not_false_eq_true, and_true, true_and, implies_true, and_self, ng_a g, wp_M_need]
      refine M_anArm hC.1 hW.2.1 hi ?_
      simp (disch := omega) only [fa_lit0, xI_le_T, xI_le_F, xI_lt_T, xI_lt_F, xI_eq_T, xI_eq_F, xN_a, xN_b, xN_c, xN_d, xN_e, xN_f, xN_g, xN_h, xI_add, xI_mul, xI_sub, xI_tn, xI_in, xI_ofNat, gi_si_eq, gi_n1, gi_n2, gl_sl_eq, gl_n1, gl_n2, gi_sl, gl_si, forall_eq, true_implies, false_implies, not_true_eq_false, not_false_eq_true, and_true, true_and, implies_true, and_self, wp_M_in, ng_a g]
      exact h
    · simp (disch := omega) only [fa_lit0, xI_le_T, xI_le_F, xI_lt_T, xI_lt_F, xI_eq_T, xI_eq_F, xN_a, xN_b, xN_c, xN_d, xN_e, xN_f, xN_g, xN_h, xI_add, xI_mul, xI_sub, xI_tn, xI_in, xI_ofNat, gi_si_eq, gi_n1, gi_n2, gl_sl_eq, gl_n1, gl_n2, gi_sl, gl_si, forall_eq, true_implies, false_implies, not_true_eq_false, not_false_eq_true, and_true, true_and, implies_true, and_self, bg_a g, bg_b g, bg_c g, bg_d g, wp_M_need]
      refine M_anArm hC.1 hW.2.1 hi ?_
      simp (disch := omega) only [fa_lit0, xI_le_T, xI_le_F, xI_lt_T, xI_lt_F, xI_eq_T, xI_eq_F, xN_a, xN_b, xN_c, xN_d, xN_e, xN_f, xN_g, xN_h, xI_add, xI_mul, xI_sub, xI_tn, xI_in, xI_ofNat, gi_si_eq, gi_n1, gi_n2, gl_sl_eq, gl_n1, gl_n2, gi_sl, gl_si, forall_eq, true_implies, false_implies, not_true_eq_false, not_false_eq_true, and_true, true_and, implies_true, and_self, wp_M_in, bg_a g, bg_b g, bg_c g]
      exact h
    · have k3 := (hB.2.2 i hi).2.2.1
      have m3 := (hW.2.2.2 i hi).2.2.1
      simp (disch := omega) only [fa_lit0, xI_le_T, xI_le_F, xI_lt_T, xI_lt_F, xI_eq_T, xI_eq_F, xN_a, xN_b, xN_c, xN_d, xN_e, xN_f, xN_g, xN_h, xI_add, xI_mul, xI_sub, xI_tn, xI_in, xI_ofNat, gi_si_eq, gi_n1, gi_n2, gl_sl_eq, gl_n1, gl_n2, gi_sl, gl_si, forall_eq, true_implies, false_implies, not_true_eq_false, not_false_eq_true, and_true, true_and, implies_true, and_self, wp_Ch_forgetServed, k3]
      refine J_fill_ok (by omega) ?_
      unfold wp_M_need
      refine M_anArm hC.1 (by simp (disch := omega) only [fa_lit0, xI_le_T, xI_le_F, xI_lt_T, xI_lt_F, xI_eq_T, xI_eq_F, xN_a, xN_b, xN_c, xN_d, xN_e, xN_f, xN_g, xN_h, xI_add, xI_mul, xI_sub, xI_tn, xI_in, xI_ofNat, gi_si_eq, gi_n1, gi_n2, gl_sl_eq, gl_n1, gl_n2, gi_sl, gl_si, forall_eq, true_implies, false_implies, not_true_eq_false, not_false_eq_true, and_true, true_and, implies_true, and_self, gi_fli_ne, hW.2.1]) hi ?_
      simp (disch := omega) only [fa_lit0, xI_le_T, xI_le_F, xI_lt_T, xI_lt_F, xI_eq_T, xI_eq_F, xN_a, xN_b, xN_c, xN_d, xN_e, xN_f, xN_g, xN_h, xI_add, xI_mul, xI_sub, xI_tn, xI_in, xI_ofNat, gi_si_eq, gi_n1, gi_n2, gl_sl_eq, gl_n1, gl_n2, gi_sl, gl_si, forall_eq, true_implies, false_implies, not_true_eq_false, not_false_eq_true, and_true, true_and, implies_true, and_self, wp_M_in, gi_fli_ne, m3]
      obtain ⟨h1, h2, h3, h4, h5, h6, -⟩ := h
      obtain ⟨⟨a1, a2, a3, a4⟩, b2, b3, b4, b5, b6⟩ := hd
      have g' : ∀ k j, k ≠ 23 → k ≠ 27 → k ≠ 321 → gi (si (fli (si M 23 i (nI w)) 27 32 (-nI 1)) 321 i (nI w)) k j = gi M k j := fun k j q1 q2 q3 => by simp (disch := omega) only [fa_lit0, xI_le_T, xI_le_F, xI_lt_T, xI_lt_F, xI_eq_T, xI_eq_F, xN_a, xN_b, xN_c, xN_d, xN_e, xN_f, xN_g, xN_h, xI_add, xI_mul, xI_sub, xI_tn, xI_in, xI_ofNat, gi_si_eq, gi_n1, gi_n2, gl_sl_eq, gl_n1, gl_n2, gi_sl, gl_si, forall_eq, true_implies, false_implies, not_true_eq_false, not_false_eq_true, and_true, true_and, implies_true, and_self, gi_fli_ne]
      have gl' : ∀ k j, gl (si (fli (si M 23 i (nI w)) 27 32 (-nI 1)) 321 i (nI w)) k j = gl M k j := fun k j => rfl
      refine ⟨h1.keep (fun k j q => g' k j (by omega) (by omega) (by omega)), h2.keep (fun k j q => g' k j (by omega) (by omega) (by omega)), h3.keep (fun k q => g' k 0 (by omega) (by omega) (by omega)) (gl' _ _), h4.keep (fun k j q => g' k j (by omega) (by omega) (by omega)), h5.keep (g' _ _ (by omega) (by omega) (by omega)) (g' _ _ (by omega) (by omega) (by omega)), h6.keep (fun k j _ => gl' k j), upC C 3 i w, F, D, L, T, N, V, KL, ⟨?_, ?_, ?_, ?_⟩, b2.keep (fun k j q => g' k j (by omega) (by omega) (by omega)) (gl' _ _), b3, b4.keep (fun k j q => g' k j (by omega) (by omega) (by omega)) (fun k j _ _ => gl' k j), b5.keep (fun k j q => g' k j (by omega) (by omega) (by omega)) (fun k j _ _ => gl' k j), b6⟩
      · refine ⟨a1.1, a1.2.1, fun j hj => ?_⟩
        have := a1.2.2 j hj
        rw [upC_ne (a := 1) (by omega), upC_ne (a := 2) (by omega), upC_ne (a := 4) (by omega), upC_ne (a := 5) (by omega), upC_ne (a := 6) (by omega), upC_ne (a := 0) (by omega)]
        refine ⟨this.1, this.2.1, ?_, this.2.2.2⟩
        unfold upC
        split <;> omega
      · refine ⟨(g' _ _ (by omega) (by omega) (by omega)).trans a2.1, (g' _ _ (by omega) (by omega) (by omega)).trans a2.2.1, fun j hj => ?_⟩
        have := a2.2.2 j hj
        rw [g' 21 j (by omega) (by omega) (by omega), g' 22 j (by omega) (by omega) (by omega), g' 24 j (by omega) (by omega) (by omega), g' 25 j (by omega) (by omega) (by omega), g' 26 j (by omega) (by omega) (by omega)]
        refine ⟨this.1, this.2.1, ?_, this.2.2.2⟩
        by_cases e : j = i
        · subst e; simp (disch := omega) only [fa_lit0, xI_le_T, xI_le_F, xI_lt_T, xI_lt_F, xI_eq_T, xI_eq_F, xN_a, xN_b, xN_c, xN_d, xN_e, xN_f, xN_g, xN_h, xI_add, xI_mul, xI_sub, xI_tn, xI_in, xI_ofNat, gi_si_eq, gi_n1, gi_n2, gl_sl_eq, gl_n1, gl_n2, gi_sl, gl_si, forall_eq, true_implies, false_implies, not_true_eq_false, not_false_eq_true, and_true, true_and, implies_true, and_self, gi_fli_ne, upC_eq]
        · simp (disch := omega) only [fa_lit0, xI_le_T, xI_le_F, xI_lt_T, xI_lt_F, xI_eq_T, xI_eq_F, xN_a, xN_b, xN_c, xN_d, xN_e, xN_f, xN_g, xN_h, xI_add, xI_mul, xI_sub, xI_tn, xI_in, xI_ofNat, gi_si_eq, gi_n1, gi_n2, gl_sl_eq, gl_n1, gl_n2, gi_sl, gl_si, forall_eq, true_implies, false_implies, not_true_eq_false, not_false_eq_true, and_true, true_and, implies_true, and_self, gi_fli_ne, upC_ne, this.2.2.1]
      · refine ⟨(g' _ _ (by omega) (by omega) (by omega)).trans a3.1, (g' _ _ (by omega) (by omega) (by omega)).trans a3.2.1, fun j hj => ?_⟩
        have := a3.2.2 j hj
        rw [g' 319 j (by omega) (by omega) (by omega), g' 320 j (by omega) (by omega) (by omega), g' 322 j (by omega) (by omega) (by omega), g' 323 j (by omega) (by omega) (by omega), g' 324 j (by omega) (by omega) (by omega)]
        refine ⟨this.1, this.2.1, ?_, this.2.2.2⟩
        by_cases e : j = i
        · subst e; simp (disch := omega) only [fa_lit0, xI_le_T, xI_le_F, xI_lt_T, xI_lt_F, xI_eq_T, xI_eq_F, xN_a, xN_b, xN_c, xN_d, xN_e, xN_f, xN_g, xN_h, xI_add, xI_mul, xI_sub, xI_tn, xI_in, xI_ofNat, gi_si_eq, gi_n1, gi_n2, gl_sl_eq, gl_n1, gl_n2, gi_sl, gl_si, forall_eq, true_implies, false_implies, not_true_eq_false, not_false_eq_true, and_true, true_and, implies_true, and_self, upC_eq]
        · simp (disch := omega) only [fa_lit0, xI_le_T, xI_le_F, xI_lt_T, xI_lt_F, xI_eq_T, xI_eq_F, xN_a, xN_b, xN_c, xN_d, xN_e, xN_f, xN_g, xN_h, xI_add, xI_mul, xI_sub, xI_tn, xI_in, xI_ofNat, gi_si_eq, gi_n1, gi_n2, gl_sl_eq, gl_n1, gl_n2, gi_sl, gl_si, forall_eq, true_implies, false_implies, not_true_eq_false, not_false_eq_true, and_true, true_and, implies_true, and_self, gi_fli_ne, upC_ne, this.2.2.1]
      · intro _ s hs
        refine Or.inl ?_
        simp (disch := omega) only [fa_lit0, xI_le_T, xI_le_F, xI_lt_T, xI_lt_F, xI_eq_T, xI_eq_F, xN_a, xN_b, xN_c, xN_d, xN_e, xN_f, xN_g, xN_h, xI_add, xI_mul, xI_sub, xI_tn, xI_in, xI_ofNat, gi_si_eq, gi_n1, gi_n2, gl_sl_eq, gl_n1, gl_n2, gi_sl, gl_si, forall_eq, true_implies, false_implies, not_true_eq_false, not_false_eq_true, and_true, true_and, implies_true, and_self, gi_fli_in]
theorem wsum_cg {C C' : Nat → Nat → Nat} (e : ∀ r j, r ≤ 3 → C' r j = C r j) (s : Nat) : ∀ m, wsum C' s m = wsum C s m := by
  intro m
  induction m with
  | zero => rfl
  | succ m ih => show wsum C' s m + s / 2 ^ m % 2 * C' 2 m = wsum C s m + s / 2 ^ m % 2 * C 2 m; rw [ih, e 2 m (by omega)]
theorem shr_cg {C C' : Nat → Nat → Nat} (e : ∀ r j, r ≤ 3 → C' r j = C r j) (s w : Nat) : ∀ m, shr C' s w m = shr C s w m := by
  intro m
  induction m with
  | zero => rfl
  | succ m ih => show shr C' s w m + (if s / 2 ^ m % 2 = 0 then 0 else C' 0 1 * C' 2 m / w) = shr C s w m + (if s / 2 ^ m % 2 = 0 then 0 else C 0 1 * C 2 m / w); rw [ih, e 2 m (by omega), e 0 1 (by omega)]
theorem wat_cg {C C' : Nat → Nat → Nat} (e : ∀ r j, r ≤ 3 → C' r j = C r j) (s i : Nat) : wat C' s i = wat C s i := by
  unfold wat
  rw [e 1 i (by omega), e 0 1 (by omega), e 2 i (by omega), e 0 0 (by omega), wsum_cg e, shr_cg e]
theorem srv_cg {C C' : Nat → Nat → Nat} (e : ∀ r j, r ≤ 3 → C' r j = C r j) (s : Nat) : ∀ m, srv C' s m = srv C s m := by
  intro m
  induction m with
  | zero => rfl
  | succ m ih => show srv C' s m + (if wat C' s m < C' 3 m then 0 else 2 ^ m) = srv C s m + (if wat C s m < C 3 m then 0 else 2 ^ m); rw [ih, wat_cg e, e 3 m (by omega)]
theorem bset_n : ∀ n, n ≤ 5 → ∀ s, s < 2 ^ n → ∀ j, j < n → ∀ x, x < 2 → bset s j x < 2 ^ n := by decide +kernel
theorem op_awaits {a1 a2 a3 : Int32} {M : Mm} (h : Rel RDel M) : wp_B_awaits a1 a2 a3 M (fun r M1 => wp_M_awaits a1 a2 a3 M1 (fun r2 M2 => r = r2 ∧ Rel RDel M2)) := by
  obtain ⟨C, F, D, L, T, N, V, KL, hd⟩ := h.2.2.2.2.2.2.out
  obtain ⟨hC, hB, hW, hO, hF, hG, -⟩ := hd.parts
  have hn := hC.1
  unfold wp_B_awaits
  rcases arm_cases a1 hC.1 with g | ⟨i, hi, rfl⟩
  · refine B_noArm hC.1 hB.1 g ?_
    simp (disch := omega) only [fa_lit0, xI_le_T, xI_le_F, xI_lt_T, xI_lt_F, xI_eq_T, xI_eq_F, xN_a, xN_b, xN_c, xN_d, xN_e, xN_f, xN_g, xN_h, xI_add, xI_mul, xI_sub, xI_tn, xI_in, xI_ofNat, gi_si_eq, gi_n1, gi_n2, gl_sl_eq, gl_n1, gl_n2, gi_sl, gl_si, forall_eq, true_implies, false_implies, not_true_eq_false, not_false_eq_true, and_true, true_and, implies_true, and_self, wp_M_awaits]
    refine M_noArm hC.1 hW.2.1 g ?_
    simp (disch := omega) only [fa_lit0, xI_le_T, xI_le_F, xI_lt_T, xI_lt_F, xI_eq_T, xI_eq_F, xN_a, xN_b, xN_c, xN_d, xN_e, xN_f, xN_g, xN_h, xI_add, xI_mul, xI_sub, xI_tn, xI_in, xI_ofNat, gi_si_eq, gi_n1, gi_n2, gl_sl_eq, gl_n1, gl_n2, gi_sl, gl_si, forall_eq, true_implies, false_implies, not_true_eq_false, not_false_eq_true, and_true, true_and, implies_true, and_self]
    exact h
  · refine B_anArm hC.1 hB.1 hi ?_
    simp (disch := omega) only [fa_lit0, xI_le_T, xI_le_F, xI_lt_T, xI_lt_F, xI_eq_T, xI_eq_F, xN_a, xN_b, xN_c, xN_d, xN_e, xN_f, xN_g, xN_h, xI_add, xI_mul, xI_sub, xI_tn, xI_in, xI_ofNat, gi_si_eq, gi_n1, gi_n2, gl_sl_eq, gl_n1, gl_n2, gi_sl, gl_si, forall_eq, true_implies, false_implies, not_true_eq_false, not_false_eq_true, and_true, true_and, implies_true, and_self]
    rcases arm_cases a2 hC.1 with g | ⟨j, hj, rfl⟩
    · refine B_noArm hC.1 hB.1 g ?_
      simp (disch := omega) only [fa_lit0, xI_le_T, xI_le_F, xI_lt_T, xI_lt_F, xI_eq_T, xI_eq_F, xN_a, xN_b, xN_c, xN_d, xN_e, xN_f, xN_g, xN_h, xI_add, xI_mul, xI_sub, xI_tn, xI_in, xI_ofNat, gi_si_eq, gi_n1, gi_n2, gl_sl_eq, gl_n1, gl_n2, gi_sl, gl_si, forall_eq, true_implies, false_implies, not_true_eq_false, not_false_eq_true, and_true, true_and, implies_true, and_self, wp_M_awaits]
      refine M_anArm hC.1 hW.2.1 hi ?_
      simp (disch := omega) only [fa_lit0, xI_le_T, xI_le_F, xI_lt_T, xI_lt_F, xI_eq_T, xI_eq_F, xN_a, xN_b, xN_c, xN_d, xN_e, xN_f, xN_g, xN_h, xI_add, xI_mul, xI_sub, xI_tn, xI_in, xI_ofNat, gi_si_eq, gi_n1, gi_n2, gl_sl_eq, gl_n1, gl_n2, gi_sl, gl_si, forall_eq, true_implies, false_implies, not_true_eq_false, not_false_eq_true, and_true, true_and, implies_true, and_self]
      refine M_noArm hC.1 hW.2.1 g ?_
      simp (disch := omega) only [fa_lit0, xI_le_T, xI_le_F, xI_lt_T, xI_lt_F, xI_eq_T, xI_eq_F, xN_a, xN_b, xN_c, xN_d, xN_e, xN_f, xN_g, xN_h, xI_add, xI_mul, xI_sub, xI_tn, xI_in, xI_ofNat, gi_si_eq, gi_n1, gi_n2, gl_sl_eq, gl_n1, gl_n2, gi_sl, gl_si, forall_eq, true_implies, false_implies, not_true_eq_false, not_false_eq_true, and_true, true_and, implies_true, and_self]
      exact h
    · refine B_anArm hC.1 hB.1 hj ?_
      by_cases e : i = j
      · subst e
        simp (disch := omega) only [fa_lit0, xI_le_T, xI_le_F, xI_lt_T, xI_lt_F, xI_eq_T, xI_eq_F, xN_a, xN_b, xN_c, xN_d, xN_e, xN_f, xN_g, xN_h, xI_add, xI_mul, xI_sub, xI_tn, xI_in, xI_ofNat, gi_si_eq, gi_n1, gi_n2, gl_sl_eq, gl_n1, gl_n2, gi_sl, gl_si, forall_eq, true_implies, false_implies, not_true_eq_false, not_false_eq_true, and_true, true_and, implies_true, and_self, wp_M_awaits]
        refine M_anArm hC.1 hW.2.1 hi ?_
        simp (disch := omega) only [fa_lit0, xI_le_T, xI_le_F, xI_lt_T, xI_lt_F, xI_eq_T, xI_eq_F, xN_a, xN_b, xN_c, xN_d, xN_e, xN_f, xN_g, xN_h, xI_add, xI_mul, xI_sub, xI_tn, xI_in, xI_ofNat, gi_si_eq, gi_n1, gi_n2, gl_sl_eq, gl_n1, gl_n2, gi_sl, gl_si, forall_eq, true_implies, false_implies, not_true_eq_false, not_false_eq_true, and_true, true_and, implies_true, and_self]
        refine M_anArm hC.1 hW.2.1 hi ?_
        simp (disch := omega) only [fa_lit0, xI_le_T, xI_le_F, xI_lt_T, xI_lt_F, xI_eq_T, xI_eq_F, xN_a, xN_b, xN_c, xN_d, xN_e, xN_f, xN_g, xN_h, xI_add, xI_mul, xI_sub, xI_tn, xI_in, xI_ofNat, gi_si_eq, gi_n1, gi_n2, gl_sl_eq, gl_n1, gl_n2, gi_sl, gl_si, forall_eq, true_implies, false_implies, not_true_eq_false, not_false_eq_true, and_true, true_and, implies_true, and_self]
        exact h
      · rcases pk_ix a3 (n := 2) (by omega) with g | g | ⟨w, hw, rfl⟩
        · simp (disch := omega) only [fa_lit0, xI_le_T, xI_le_F, xI_lt_T, xI_lt_F, xI_eq_T, xI_eq_F, xN_a, xN_b, xN_c, xN_d, xN_e, xN_f, xN_g, xN_h, xI_add, xI_mul, xI_sub, xI_tn, xI_in, xI_ofNat, gi_si_eq, gi_n1, gi_n2, gl_sl_eq, gl_n1, gl_n2, gi_sl, gl_si, forall_eq, true_implies, false_implies, not_true_eq_false, not_false_eq_true, and_true, true_and, implies_true, and_self, ng_a g, wp_M_awaits]
          refine M_anArm hC.1 hW.2.1 hi ?_
          simp (disch := omega) only [fa_lit0, xI_le_T, xI_le_F, xI_lt_T, xI_lt_F, xI_eq_T, xI_eq_F, xN_a, xN_b, xN_c, xN_d, xN_e, xN_f, xN_g, xN_h, xI_add, xI_mul, xI_sub, xI_tn, xI_in, xI_ofNat, gi_si_eq, gi_n1, gi_n2, gl_sl_eq, gl_n1, gl_n2, gi_sl, gl_si, forall_eq, true_implies, false_implies, not_true_eq_false, not_false_eq_true, and_true, true_and, implies_true, and_self]
          refine M_anArm hC.1 hW.2.1 hj ?_
          simp (disch := omega) only [fa_lit0, xI_le_T, xI_le_F, xI_lt_T, xI_lt_F, xI_eq_T, xI_eq_F, xN_a, xN_b, xN_c, xN_d, xN_e, xN_f, xN_g, xN_h, xI_add, xI_mul, xI_sub, xI_tn, xI_in, xI_ofNat, gi_si_eq, gi_n1, gi_n2, gl_sl_eq, gl_n1, gl_n2, gi_sl, gl_si, forall_eq, true_implies, false_implies, not_true_eq_false, not_false_eq_true, and_true, true_and, implies_true, and_self, wp_M_in, ng_a g]
          exact h
        · simp (disch := omega) only [fa_lit0, xI_le_T, xI_le_F, xI_lt_T, xI_lt_F, xI_eq_T, xI_eq_F, xN_a, xN_b, xN_c, xN_d, xN_e, xN_f, xN_g, xN_h, xI_add, xI_mul, xI_sub, xI_tn, xI_in, xI_ofNat, gi_si_eq, gi_n1, gi_n2, gl_sl_eq, gl_n1, gl_n2, gi_sl, gl_si, forall_eq, true_implies, false_implies, not_true_eq_false, not_false_eq_true, and_true, true_and, implies_true, and_self, bg_a g, bg_b g, bg_c g, bg_d g, wp_M_awaits]
          refine M_anArm hC.1 hW.2.1 hi ?_
          simp (disch := omega) only [fa_lit0, xI_le_T, xI_le_F, xI_lt_T, xI_lt_F, xI_eq_T, xI_eq_F, xN_a, xN_b, xN_c, xN_d, xN_e, xN_f, xN_g, xN_h, xI_add, xI_mul, xI_sub, xI_tn, xI_in, xI_ofNat, gi_si_eq, gi_n1, gi_n2, gl_sl_eq, gl_n1, gl_n2, gi_sl, gl_si, forall_eq, true_implies, false_implies, not_true_eq_false, not_false_eq_true, and_true, true_and, implies_true, and_self]
          refine M_anArm hC.1 hW.2.1 hj ?_
          simp (disch := omega) only [fa_lit0, xI_le_T, xI_le_F, xI_lt_T, xI_lt_F, xI_eq_T, xI_eq_F, xN_a, xN_b, xN_c, xN_d, xN_e, xN_f, xN_g, xN_h, xI_add, xI_mul, xI_sub, xI_tn, xI_in, xI_ofNat, gi_si_eq, gi_n1, gi_n2, gl_sl_eq, gl_n1, gl_n2, gi_sl, gl_si, forall_eq, true_implies, false_implies, not_true_eq_false, not_false_eq_true, and_true, true_and, implies_true, and_self, wp_M_in, bg_a g, bg_b g, bg_c g]
          exact h
        · have k6 := (hB.2.2 i hi).2.2.2.2.2
          have m6 := (hW.2.2.2 i hi).2.2.2.2.2
          have o6 := (hC.2.2 i hi).2.2.2.2.2.1
          have l6 := lt_32 o6 hn
          have go : ∀ (Q : Int32 → Mm → Prop), Q (nI (C 6 i / 2 ^ j % 2)) (si (si M 26 i (nI (bset (C 6 i) j w))) 324 i (nI (bset (C 6 i) j w))) → wp_M_awaits (nI i) (nI j) (nI w) (si M 26 i (nI (bset (C 6 i) j w))) Q := by
            intro Q hQ
            have hW1 : MW C (si M 26 i (nI (bset (C 6 i) j w))) := hW.sm (S := fun a _ => a = 26) ((Sm.refl _ M).wi rfl) (by omega)
            have m6' := (hW1.2.2.2 i hi).2.2.2.2.2
            unfold wp_M_awaits
            refine M_anArm hC.1 hW1.2.1 hi ?_
            simp (disch := omega) only [fa_lit0, xI_le_T, xI_le_F, xI_lt_T, xI_lt_F, xI_eq_T, xI_eq_F, xN_a, xN_b, xN_c, xN_d, xN_e, xN_f, xN_g, xN_h, xI_add, xI_mul, xI_sub, xI_tn, xI_in, xI_ofNat, gi_si_eq, gi_n1, gi_n2, gl_sl_eq, gl_n1, gl_n2, gi_sl, gl_si, forall_eq, true_implies, false_implies, not_true_eq_false, not_false_eq_true, and_true, true_and, implies_true, and_self]
            refine M_anArm hC.1 hW1.2.1 hj ?_
            simp (disch := omega) only [fa_lit0, xI_le_T, xI_le_F, xI_lt_T, xI_lt_F, xI_eq_T, xI_eq_F, xN_a, xN_b, xN_c, xN_d, xN_e, xN_f, xN_g, xN_h, xI_add, xI_mul, xI_sub, xI_tn, xI_in, xI_ofNat, gi_si_eq, gi_n1, gi_n2, gl_sl_eq, gl_n1, gl_n2, gi_sl, gl_si, forall_eq, true_implies, false_implies, not_true_eq_false, not_false_eq_true, and_true, true_and, implies_true, and_self, wp_M_in, m6]
            refine M_has l6 (by omega) ?_
            have fin : ∀ x, x = nI (C 6 i / 2 ^ j % 2) → k_M_awaits_50 (nI i) (nI j) (nI w) Q x (si M 26 i (nI (bset (C 6 i) j w))) := by
              intro x hx
              subst hx
              unfold k_M_awaits_50
              rcases (show w = 0 ∨ w = 1 by omega) with e | e
              · subst e
                simp (disch := omega) only [fa_lit0, xI_le_T, xI_le_F, xI_lt_T, xI_lt_F, xI_eq_T, xI_eq_F, xN_a, xN_b, xN_c, xN_d, xN_e, xN_f, xN_g, xN_h, xI_add, xI_mul, xI_sub, xI_tn, xI_in, xI_ofNat, gi_si_eq, gi_n1, gi_n2, gl_sl_eq, gl_n1, gl_n2, gi_sl, gl_si, forall_eq, true_implies, false_implies, not_true_eq_false, not_false_eq_true, and_true, true_and, implies_true, and_self, m6, k_M_awaits_87]
                rw [bset_an _ l6 j (by omega)]
                exact hQ
              · subst e
                simp (disch := omega) only [fa_lit0, xI_le_T, xI_le_F, xI_lt_T, xI_lt_F, xI_eq_T, xI_eq_F, xN_a, xN_b, xN_c, xN_d, xN_e, xN_f, xN_g, xN_h, xI_add, xI_mul, xI_sub, xI_tn, xI_in, xI_ofNat, gi_si_eq, gi_n1, gi_n2, gl_sl_eq, gl_n1, gl_n2, gi_sl, gl_si, forall_eq, true_implies, false_implies, not_true_eq_false, not_false_eq_true, and_true, true_and, implies_true, and_self, m6, k_M_awaits_87]
                rw [bset_or _ l6 j (by omega)]
                exact hQ
            rcases (show C 6 i / 2 ^ j % 2 = 0 ∨ C 6 i / 2 ^ j % 2 = 1 by omega) with v | v
            · rw [v] at fin
              simp (disch := omega) only [fa_lit0, xI_le_T, xI_le_F, xI_lt_T, xI_lt_F, xI_eq_T, xI_eq_F, xN_a, xN_b, xN_c, xN_d, xN_e, xN_f, xN_g, xN_h, xI_add, xI_mul, xI_sub, xI_tn, xI_in, xI_ofNat, gi_si_eq, gi_n1, gi_n2, gl_sl_eq, gl_n1, gl_n2, gi_sl, gl_si, forall_eq, true_implies, false_implies, not_true_eq_false, not_false_eq_true, and_true, true_and, implies_true, and_self, v]
              exact fin _ rfl
            · rw [v] at fin
              simp (disch := omega) only [fa_lit0, xI_le_T, xI_le_F, xI_lt_T, xI_lt_F, xI_eq_T, xI_eq_F, xN_a, xN_b, xN_c, xN_d, xN_e, xN_f, xN_g, xN_h, xI_add, xI_mul, xI_sub, xI_tn, xI_in, xI_ofNat, gi_si_eq, gi_n1, gi_n2, gl_sl_eq, gl_n1, gl_n2, gi_sl, gl_si, forall_eq, true_implies, false_implies, not_true_eq_false, not_false_eq_true, and_true, true_and, implies_true, and_self, v]
              exact fin _ rfl
          have key : k_B_awaits_81 (nI i) (nI j) (nI w) (fun r M1 => wp_M_awaits (nI i) (nI j) (nI w) M1 (fun r2 M2 => r = r2 ∧ Rel RDel M2)) (nI (C 6 i / 2 ^ j % 2)) (nI w) (nI j) (nI (C 6 i)) (nI i) M := by
            unfold k_B_awaits_81
            refine B_with l6 (by omega) (by omega) ?_
            simp (disch := omega) only [fa_lit0, xI_le_T, xI_le_F, xI_lt_T, xI_lt_F, xI_eq_T, xI_eq_F, xN_a, xN_b, xN_c, xN_d, xN_e, xN_f, xN_g, xN_h, xI_add, xI_mul, xI_sub, xI_tn, xI_in, xI_ofNat, gi_si_eq, gi_n1, gi_n2, gl_sl_eq, gl_n1, gl_n2, gi_sl, gl_si, forall_eq, true_implies, false_implies, not_true_eq_false, not_false_eq_true, and_true, true_and, implies_true, and_self]
            refine go _ ⟨rfl, ?_⟩
            obtain ⟨h1, h2, h3, h4, h5, h6, -⟩ := h
            obtain ⟨⟨a1, a2, a3, a4⟩, b2, b3, b4, b5, b6⟩ := hd
            have g' : ∀ k q, k ≠ 26 → k ≠ 324 → gi (si (si M 26 i (nI (bset (C 6 i) j w))) 324 i (nI (bset (C 6 i) j w))) k q = gi M k q := fun k q q1 q2 => by simp (disch := omega) only [fa_lit0, xI_le_T, xI_le_F, xI_lt_T, xI_lt_F, xI_eq_T, xI_eq_F, xN_a, xN_b, xN_c, xN_d, xN_e, xN_f, xN_g, xN_h, xI_add, xI_mul, xI_sub, xI_tn, xI_in, xI_ofNat, gi_si_eq, gi_n1, gi_n2, gl_sl_eq, gl_n1, gl_n2, gi_sl, gl_si, forall_eq, true_implies, false_implies, not_true_eq_false, not_false_eq_true, and_true, true_and, implies_true, and_self]
            have gl' : ∀ k q, gl (si (si M 26 i (nI (bset (C 6 i) j w))) 324 i (nI (bset (C 6 i) j w))) k q = gl M k q := fun k q => rfl
            have eC : ∀ r q, r ≤ 3 → upC C 6 i (bset (C 6 i) j w) r q = C r q := fun r q hr => upC_ne (by omega)
            refine ⟨h1.keep (fun k j q => g' k j (by omega) (by omega)), h2.keep (fun k j q => g' k j (by omega) (by omega)), h3.keep (fun k q => g' k 0 (by omega) (by omega)) (gl' _ _), h4.keep (fun k j q => g' k j (by omega) (by omega)), h5.keep (g' _ _ (by omega) (by omega)) (g' _ _ (by omega) (by omega)), h6.keep (fun k j _ => gl' k j), upC C 6 i (bset (C 6 i) j w), F, D, L, T, N, V, KL, ⟨?_, ?_, ?_, ?_⟩, b2.keep (fun k j q => g' k j (by omega) (by omega)) (gl' _ _), b3, b4.keep (fun k j q => g' k j (by omega) (by omega)) (fun k j _ _ => gl' k j), b5.keep (fun k j q => g' k j (by omega) (by omega)) (fun k j _ _ => gl' k j), b6⟩
            · refine ⟨a1.1, a1.2.1, fun q hq => ?_⟩
              have := a1.2.2 q hq
              rw [upC_ne (a := 1) (by omega), upC_ne (a := 2) (by omega), upC_ne (a := 3) (by omega), upC_ne (a := 4) (by omega), upC_ne (a := 5) (by omega), upC_ne (a := 0) (by omega)]
              refine ⟨this.1, this.2.1, this.2.2.1, this.2.2.2.1, this.2.2.2.2.1, ?_⟩
              by_cases e2 : q = i
              · subst e2
                rw [upC_eq]
                refine ⟨bset_n _ hn _ o6 j hj w hw, ?_⟩
                rw [bset_bit _ l6 j (by omega) w hw q (by omega), if_neg e]
                exact this.2.2.2.2.2.2
              · rw [upC_ne (by omega)]; exact this.2.2.2.2.2
            · refine ⟨(g' _ _ (by omega) (by omega)).trans a2.1, (g' _ _ (by omega) (by omega)).trans a2.2.1, fun q hq => ?_⟩
              have := a2.2.2 q hq
              rw [g' 21 q (by omega) (by omega), g' 22 q (by omega) (by omega), g' 23 q (by omega) (by omega), g' 24 q (by omega) (by omega), g' 25 q (by omega) (by omega)]
              refine ⟨this.1, this.2.1, this.2.2.1, this.2.2.2.1, this.2.2.2.2.1, ?_⟩
              by_cases e2 : q = i
              · subst e2; simp (disch := omega) only [fa_lit0, xI_le_T, xI_le_F, xI_lt_T, xI_lt_F, xI_eq_T, xI_eq_F, xN_a, xN_b, xN_c, xN_d, xN_e, xN_f, xN_g, xN_h, xI_add, xI_mul, xI_sub, xI_tn, xI_in, xI_ofNat, gi_si_eq, gi_n1, gi_n2, gl_sl_eq, gl_n1, gl_n2, gi_sl, gl_si, forall_eq, true_implies, false_implies, not_true_eq_false, not_false_eq_true, and_true, true_and, implies_true, and_self, upC_eq]
              · simp (disch := omega) only [fa_lit0, xI_le_T, xI_le_F, xI_lt_T, xI_lt_F, xI_eq_T, xI_eq_F, xN_a, xN_b, xN_c, xN_d, xN_e, xN_f, xN_g, xN_h, xI_add, xI_mul, xI_sub, xI_tn, xI_in, xI_ofNat, gi_si_eq, gi_n1, gi_n2, gl_sl_eq, gl_n1, gl_n2, gi_sl, gl_si, forall_eq, true_implies, false_implies, not_true_eq_false, not_false_eq_true, and_true, true_and, implies_true, and_self, upC_ne, this.2.2.2.2.2]
            · refine ⟨(g' _ _ (by omega) (by omega)).trans a3.1, (g' _ _ (by omega) (by omega)).trans a3.2.1, fun q hq => ?_⟩
              have := a3.2.2 q hq
              rw [g' 319 q (by omega) (by omega), g' 320 q (by omega) (by omega), g' 321 q (by omega) (by omega), g' 322 q (by omega) (by omega), g' 323 q (by omega) (by omega)]
              refine ⟨this.1, this.2.1, this.2.2.1, this.2.2.2.1, this.2.2.2.2.1, ?_⟩
              by_cases e2 : q = i
              · subst e2; simp (disch := omega) only [fa_lit0, xI_le_T, xI_le_F, xI_lt_T, xI_lt_F, xI_eq_T, xI_eq_F, xN_a, xN_b, xN_c, xN_d, xN_e, xN_f, xN_g, xN_h, xI_add, xI_mul, xI_sub, xI_tn, xI_in, xI_ofNat, gi_si_eq, gi_n1, gi_n2, gl_sl_eq, gl_n1, gl_n2, gi_sl, gl_si, forall_eq, true_implies, false_implies, not_true_eq_false, not_false_eq_true, and_true, true_and, implies_true, and_self, upC_eq]
              · simp (disch := omega) only [fa_lit0, xI_le_T, xI_le_F, xI_lt_T, xI_lt_F, xI_eq_T, xI_eq_F, xN_a, xN_b, xN_c, xN_d, xN_e, xN_f, xN_g, xN_h, xI_add, xI_mul, xI_sub, xI_tn, xI_in, xI_ofNat, gi_si_eq, gi_n1, gi_n2, gl_sl_eq, gl_n1, gl_n2, gi_sl, gl_si, forall_eq, true_implies, false_implies, not_true_eq_false, not_false_eq_true, and_true, true_and, implies_true, and_self, upC_ne, this.2.2.2.2.2]
            · intro hp s hs
              rw [g' 27 s (by omega) (by omega), srv_cg eC, eC 0 0 (by omega)]
              exact a4 hp s hs
          rcases (show w = 0 ∨ w = 1 by omega) with v | v
          · subst v
            simp (disch := omega) only [fa_lit0, xI_le_T, xI_le_F, xI_lt_T, xI_lt_F, xI_eq_T, xI_eq_F, xN_a, xN_b, xN_c, xN_d, xN_e, xN_f, xN_g, xN_h, xI_add, xI_mul, xI_sub, xI_tn, xI_in, xI_ofNat, gi_si_eq, gi_n1, gi_n2, gl_sl_eq, gl_n1, gl_n2, gi_sl, gl_si, forall_eq, true_implies, false_implies, not_true_eq_false, not_false_eq_true, and_true, true_and, implies_true, and_self, k6, bs_r]
            exact key
          · subst v
            simp (disch := omega) only [fa_lit0, xI_le_T, xI_le_F, xI_lt_T, xI_lt_F, xI_eq_T, xI_eq_F, xN_a, xN_b, xN_c, xN_d, xN_e, xN_f, xN_g, xN_h, xI_add, xI_mul, xI_sub, xI_tn, xI_in, xI_ofNat, gi_si_eq, gi_n1, gi_n2, gl_sl_eq, gl_n1, gl_n2, gi_sl, gl_si, forall_eq, true_implies, false_implies, not_true_eq_false, not_false_eq_true, and_true, true_and, implies_true, and_self, k6, bs_r]
            exact key
