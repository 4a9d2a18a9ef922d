def sumL (f : Nat → Int32) : Nat → Int64
  | 0 => 0
  | n + 1 => sumL f n + (f n).toInt64
theorem sumL_congr {f g : Nat → Int32} {n : Nat} (h : ∀ i, i < n → f i = g i) : sumL f n = sumL g n := by
  induction n with
  | zero => rfl
  | succ n ih =>
    show sumL f n + (f n).toInt64 = sumL g n + (g n).toInt64
    rw [ih (fun i hi => h i (by omega)), h n (by omega)]
theorem Sh_sum_ok {r m : Nat} (hr : r < 6) (hm : m ≤ 40) {M : Mm} {Q : Int64 → Mm → Prop} (e5 : gi M 5 r = nI m) (h : Q (sumL (gi M (7 + r)) m) M) : wp_Sh_sumOf 4 (nI r) M Q := by
  unfold wp_Sh_sumOf
  have key : ∀ (d i : Nat), i + d = m → lp_Sh_sumOf_5 4 (nI r) Q (d + 1) (sumL (gi M (7 + r)) i) (nI i) M := by
    intro d
    induction d with
    | zero =>
      intro i hi
      have hi : i = m := by omega
      subst hi
      show k_Sh_sumOf_5 4 (nI r) Q _ _ (nI i) M
      unfold k_Sh_sumOf_5
      simp (disch := omega) only [fa_lit0, xI_le_T, xI_le_F, xI_lt_T, xI_lt_F, xI_eq_T, xI_eq_F, xN_a, xN_b, xN_c, xN_d, xN_e, xN_f, xN_g, xN_h, xI_add, xI_mul, xI_sub, xI_tn, xI_in, xI_ofNat, gi_si_eq, gi_n1, gi_n2, gl_sl_eq, gl_n1, gl_n2, gi_sl, gl_si, forall_eq, true_implies, false_implies, not_true_eq_false, not_false_eq_true, and_true, true_and, implies_true, and_self, wp_Sh_sizeOf, wp_Sh_knows, shN_4, e5]
      exact h
    | succ d ih =>
      intro i hi
      show k_Sh_sumOf_5 4 (nI r) Q _ _ (nI i) M
      unfold k_Sh_sumOf_5
      simp (disch := omega) only [fa_lit0, xI_le_T, xI_le_F, xI_lt_T, xI_lt_F, xI_eq_T, xI_eq_F, xN_a, xN_b, xN_c, xN_d, xN_e, xN_f, xN_g, xN_h, xI_add, xI_mul, xI_sub, xI_tn, xI_in, xI_ofNat, gi_si_eq, gi_n1, gi_n2, gl_sl_eq, gl_n1, gl_n2, gi_sl, gl_si, forall_eq, true_implies, false_implies, not_true_eq_false, not_false_eq_true, and_true, true_and, implies_true, and_self, wp_Sh_sizeOf, wp_Sh_knows, shN_4, shR_4, e5]
      exact ih (i + 1) (by omega)
  exact ⟨m + 1, key m 0 (by omega)⟩
theorem M_mean_lp {r m : Nat} (hr : r < 6) (hm : m ≤ 40) {M : Mm} {Q : Int32 → Mm → Prop} {K : Int64 → Mm → Prop} (e5 : gi M 314 r = nI m) (h : K (sumL (fun i => gi M 315 (40 * r + i)) m) M) : ∃ n, lp_M_mean_44 (nI r) Q K n 0 (nI 0) M := by
  have key : ∀ (d i : Nat), i + d = m → lp_M_mean_44 (nI r) Q K (d + 1) (sumL (fun i => gi M 315 (40 * r + i)) i) (nI i) M := by
    intro d
    induction d with
    | zero =>
      intro i hi
      have hi : i = m := by omega
      subst hi
      show k_M_mean_44 (nI r) Q _ K _ (nI i) M
      unfold k_M_mean_44
      simp (disch := omega) only [fa_lit0, xI_le_T, xI_le_F, xI_lt_T, xI_lt_F, xI_eq_T, xI_eq_F, xN_a, xN_b, xN_c, xN_d, xN_e, xN_f, xN_g, xN_h, xI_add, xI_mul, xI_sub, xI_tn, xI_in, xI_ofNat, gi_si_eq, gi_n1, gi_n2, gl_sl_eq, gl_n1, gl_n2, gi_sl, gl_si, forall_eq, true_implies, false_implies, not_true_eq_false, not_false_eq_true, and_true, true_and, implies_true, and_self, e5]
      exact h
    | succ d ih =>
      intro i hi
      show k_M_mean_44 (nI r) Q _ K _ (nI i) M
      unfold k_M_mean_44
      simp (disch := omega) only [fa_lit0, xI_le_T, xI_le_F, xI_lt_T, xI_lt_F, xI_eq_T, xI_eq_F, xN_a, xN_b, xN_c, xN_d, xN_e, xN_f, xN_g, xN_h, xI_add, xI_mul, xI_sub, xI_tn, xI_in, xI_ofNat, gi_si_eq, gi_n1, gi_n2, gl_sl_eq, gl_n1, gl_n2, gi_sl, gl_si, forall_eq, true_implies, false_implies, not_true_eq_false, not_false_eq_true, and_true, true_and, implies_true, and_self, e5, wp_M_rowAt]
      exact ih (i + 1) (by omega)
  exact ⟨m + 1, key m 0 (by omega)⟩
theorem lN_ne0 {m : Nat} (h : 0 < m) (hm : m < 2 ^ 31) : ((nI m).toInt64 = 0) = False := eq_false (fun q => by
  rw [nI_l hm] at q
  have := (lN_eq (a := m) (b := 0) hm (by omega)).mp q
  omega)
theorem op_mean {RD : Mm → Prop} (hRD : Mono RD) {a1 : Int32} {M : Mm} (h : Rel RD M) : wp_B_mean a1 M (fun r M1 => wp_M_mean a1 M1 (fun r2 M2 => r = r2 ∧ Rel RD M2)) := by
  rcases pk_ix a1 (n := 6) (by omega) with g | g | ⟨r, hr, rfl⟩
  · simp (disch := omega) only [fa_lit0, xI_le_T, xI_le_F, xI_lt_T, xI_lt_F, xI_eq_T, xI_eq_F, xN_a, xN_b, xN_c, xN_d, xN_e, xN_f, xN_g, xN_h, xI_add, xI_mul, xI_sub, xI_tn, xI_in, xI_ofNat, gi_si_eq, gi_n1, gi_n2, gl_sl_eq, gl_n1, gl_n2, gi_sl, gl_si, forall_eq, true_implies, false_implies, not_true_eq_false, not_false_eq_true, and_true, true_and, implies_true, and_self, wp_B_mean, wp_B_shelfRefusal, wp_Sh_knows, wp_M_mean, wp_M_isRow, wp_M_in, ng_a g, zb_0]; exact h
  · simp (disch := omega) only [fa_lit0, xI_le_T, xI_le_F, xI_lt_T, xI_lt_F, xI_eq_T, xI_eq_F, xN_a, xN_b, xN_c, xN_d, xN_e, xN_f, xN_g, xN_h, xI_add, xI_mul, xI_sub, xI_tn, xI_in, xI_ofNat, gi_si_eq, gi_n1, gi_n2, gl_sl_eq, gl_n1, gl_n2, gi_sl, gl_si, forall_eq, true_implies, false_implies, not_true_eq_false, not_false_eq_true, and_true, true_and, implies_true, and_self, wp_B_mean, wp_B_shelfRefusal, wp_Sh_knows, wp_M_mean, wp_M_isRow, wp_M_in, bg_a g, bg_b g, bg_c g, zb_0, shN_4]; exact h
  · obtain ⟨g1, g2, g3⟩ := h.1 r hr
    rcases g2 with e | ⟨m, hm, e⟩
    · rw [e] at g1
      simp (disch := omega) only [fa_lit0, xI_le_T, xI_le_F, xI_lt_T, xI_lt_F, xI_eq_T, xI_eq_F, xN_a, xN_b, xN_c, xN_d, xN_e, xN_f, xN_g, xN_h, xI_add, xI_mul, xI_sub, xI_tn, xI_in, xI_ofNat, gi_si_eq, gi_n1, gi_n2, gl_sl_eq, gl_n1, gl_n2, gi_sl, gl_si, forall_eq, true_implies, false_implies, not_true_eq_false, not_false_eq_true, and_true, true_and, implies_true, and_self, wp_B_mean, wp_B_shelfRefusal, wp_Sh_knows, wp_Sh_isThere, wp_M_mean, wp_M_isRow, wp_M_in, zb_1, shN_4, g1, e, wp_B_answerFinding, wp_M_meets]
      exact find_pair hRD h (by omega)
    · rw [e] at g1
      by_cases h0 : m = 0
      · subst h0
        simp (disch := omega) only [fa_lit0, xI_le_T, xI_le_F, xI_lt_T, xI_lt_F, xI_eq_T, xI_eq_F, xN_a, xN_b, xN_c, xN_d, xN_e, xN_f, xN_g, xN_h, xI_add, xI_mul, xI_sub, xI_tn, xI_in, xI_ofNat, gi_si_eq, gi_n1, gi_n2, gl_sl_eq, gl_n1, gl_n2, gi_sl, gl_si, forall_eq, true_implies, false_implies, not_true_eq_false, not_false_eq_true, and_true, true_and, implies_true, and_self, wp_B_mean, wp_B_shelfRefusal, wp_Sh_knows, wp_Sh_isThere, wp_Sh_sizeOf, wp_M_mean, wp_M_isRow, wp_M_in, zb_1, shN_4, g1, e, wp_B_answerFinding, wp_M_meets]
        exact find_pair hRD h (by omega)
      · simp (disch := omega) only [fa_lit0, xI_le_T, xI_le_F, xI_lt_T, xI_lt_F, xI_eq_T, xI_eq_F, xN_a, xN_b, xN_c, xN_d, xN_e, xN_f, xN_g, xN_h, xI_add, xI_mul, xI_sub, xI_tn, xI_in, xI_ofNat, gi_si_eq, gi_n1, gi_n2, gl_sl_eq, gl_n1, gl_n2, gi_sl, gl_si, forall_eq, true_implies, false_implies, not_true_eq_false, not_false_eq_true, and_true, true_and, implies_true, and_self, wp_B_mean, wp_B_shelfRefusal, wp_Sh_knows, wp_Sh_isThere, wp_Sh_sizeOf, shN_4, g1]
        refine Sh_sum_ok hr hm g1 ?_
        simp (disch := omega) only [fa_lit0, xI_le_T, xI_le_F, xI_lt_T, xI_lt_F, xI_eq_T, xI_eq_F, xN_a, xN_b, xN_c, xN_d, xN_e, xN_f, xN_g, xN_h, xI_add, xI_mul, xI_sub, xI_tn, xI_in, xI_ofNat, gi_si_eq, gi_n1, gi_n2, gl_sl_eq, gl_n1, gl_n2, gi_sl, gl_si, forall_eq, true_implies, false_implies, not_true_eq_false, not_false_eq_true, and_true, true_and, implies_true, and_self, lN_ne0, wp_M_mean, wp_M_isRow, wp_M_in, zb_1, e]
        refine M_mean_lp hr hm (by simp (disch := omega) only [fa_lit0, xI_le_T, xI_le_F, xI_lt_T, xI_lt_F, xI_eq_T, xI_eq_F, xN_a, xN_b, xN_c, xN_d, xN_e, xN_f, xN_g, xN_h, xI_add, xI_mul, xI_sub, xI_tn, xI_in, xI_ofNat, gi_si_eq, gi_n1, gi_n2, gl_sl_eq, gl_n1, gl_n2, gi_sl, gl_si, forall_eq, true_implies, false_implies, not_true_eq_false, not_false_eq_true, and_true, true_and, implies_true, and_self, e]) ?_
        simp (disch := omega) only [fa_lit0, xI_le_T, xI_le_F, xI_lt_T, xI_lt_F, xI_eq_T, xI_eq_F, xN_a, xN_b, xN_c, xN_d, xN_e, xN_f, xN_g, xN_h, xI_add, xI_mul, xI_sub, xI_tn, xI_in, xI_ofNat, gi_si_eq, gi_n1, gi_n2, gl_sl_eq, gl_n1, gl_n2, gi_sl, gl_si, forall_eq, true_implies, false_implies, not_true_eq_false, not_false_eq_true, and_true, true_and, implies_true, and_self, lN_ne0, e, wp_M_tells]
        rw [sumL_congr (f := fun i => gi M 315 (40 * r + i)) (g := gi M (7 + r)) (n := m) (fun i hi => (g3 i m e hm hi).symm)]
        exact told_pair hRD h
