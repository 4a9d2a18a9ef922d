/-- places s .. s + n - 1 of a cell are x -/
def fls (M : Mm) (k s n : Nat) (x : Int32) : Mm := (fun a b => if a = k ∧ s ≤ b ∧ b < s + n then x else M.1 a b, M.2)
theorem gi_fls (M : Mm) (k s n : Nat) (x : Int32) (a b : Nat) : gi (fls M k s n x) a b = if a = k ∧ s ≤ b ∧ b < s + n then x else gi M a b := rfl
theorem gl_fls (M : Mm) (k s n : Nat) (x : Int32) (a b : Nat) : gl (fls M k s n x) a b = gl M a b := rfl
theorem gi_fls_ne {M : Mm} {k s n a b : Nat} {x : Int32} (h : a ≠ k) : gi (fls M k s n x) a b = gi M a b := by rw [gi_fls, if_neg (fun q => h q.1)]
theorem gi_fls_in {M : Mm} {k s n b : Nat} {x : Int32} (h : s ≤ b) (h2 : b < s + n) : gi (fls M k s n x) k b = x := by rw [gi_fls, if_pos ⟨rfl, h, h2⟩]
theorem gi_fls_out {M : Mm} {k s n a b : Nat} {x : Int32} (h : b < s ∨ s + n ≤ b) : gi (fls M k s n x) a b = gi M a b := by rw [gi_fls, if_neg (fun q => by omega)]
theorem fls_step (M : Mm) (k s i : Nat) (x : Int32) : si (fls M k s i x) k (s + i) x = fls M k s (i + 1) x := by
  apply Prod.ext
  · funext a b
    show (if a = k ∧ b = s + i then x else if a = k ∧ s ≤ b ∧ b < s + i then x else M.1 a b) = if a = k ∧ s ≤ b ∧ b < s + (i + 1) then x else M.1 a b
    by_cases h1 : a = k ∧ b = s + i
    · rw [if_pos h1, if_pos (by omega)]
    · by_cases h3 : a = k ∧ s ≤ b ∧ b < s + i
      · rw [if_neg h1, if_pos h3, if_pos (by omega)]
      · rw [if_neg h1, if_neg h3, if_neg (by omega)]
  · rfl
theorem fls_0 (M : Mm) (k s : Nat) (x : Int32) : fls M k s 0 x = M := by
  apply Prod.ext
  · funext a b
    show (if a = k ∧ s ≤ b ∧ b < s + 0 then x else M.1 a b) = M.1 a b
    rw [if_neg (by omega)]
  · rfl
theorem M_row_lp {r : Nat} (hr : r < 6) {a2 : Int32} {Q : Int32 → Mm → Prop} {M : Mm} (h : Q a2 (fls M 315 (40 * r) 40 (nI 0))) : ∃ n, lp_M_row_34 (nI r) a2 Q n (nI 0) M := by
  have key : ∀ (m i : Nat), i + m = 40 → lp_M_row_34 (nI r) a2 Q (m + 1) (nI i) (fls M 315 (40 * r) i (nI 0)) := by
    intro m
    induction m with
    | zero =>
      intro i hi
      have hi : i = 40 := by omega
      subst hi
      show k_M_row_34 (nI r) a2 Q _ (nI 40) _
      unfold k_M_row_34
      simp (disch := omega) only [fa_lit0, xI_le_T, xI_le_F, xI_lt_T, xI_lt_F, xI_eq_T, xI_eq_F, xN_a, xN_b, xN_c, xN_d, xN_e, xN_f, xN_g, xN_h, xI_add, xI_mul, xI_sub, xI_tn, xI_in, xI_ofNat, gi_si_eq, gi_n1, gi_n2, gl_sl_eq, gl_n1, gl_n2, gi_sl, gl_si, forall_eq, true_implies, false_implies, not_true_eq_false, not_false_eq_true, and_true, true_and, implies_true, and_self]
      exact h
    | succ m ih =>
      intro i hi
      show k_M_row_34 (nI r) a2 Q _ (nI i) _
      unfold k_M_row_34
      simp (disch := omega) only [fa_lit0, xI_le_T, xI_le_F, xI_lt_T, xI_lt_F, xI_eq_T, xI_eq_F, xN_a, xN_b, xN_c, xN_d, xN_e, xN_f, xN_g, xN_h, xI_add, xI_mul, xI_sub, xI_tn, xI_in, xI_ofNat, gi_si_eq, gi_n1, gi_n2, gl_sl_eq, gl_n1, gl_n2, gi_sl, gl_si, forall_eq, true_implies, false_implies, not_true_eq_false, not_false_eq_true, and_true, true_and, implies_true, and_self, fls_step]
      exact ih (i + 1) (by omega)
  have := key 40 0 (by omega)
  rw [fls_0] at this
  exact ⟨41, this⟩
theorem M_text_lp {r : Nat} (hr : r < 4) {a2 : Int32} {Q : Int32 → Mm → Prop} {M : Mm} (h : Q a2 (fls M 318 (60 * r) 60 (nI 32))) : ∃ n, lp_M_text_34 (nI r) a2 Q n (nI 0) M := by
  have e32 : vp_nar .byte (nI 32) = nI 32 := by decide
  have key : ∀ (m i : Nat), i + m = 60 → lp_M_text_34 (nI r) a2 Q (m + 1) (nI i) (fls M 318 (60 * r) i (nI 32)) := by
    intro m
    induction m with
    | zero =>
      intro i hi
      have hi : i = 60 := by omega
      subst hi
      show k_M_text_34 (nI r) a2 Q _ (nI 60) _
      unfold k_M_text_34
      simp (disch := omega) only [fa_lit0, xI_le_T, xI_le_F, xI_lt_T, xI_lt_F, xI_eq_T, xI_eq_F, xN_a, xN_b, xN_c, xN_d, xN_e, xN_f, xN_g, xN_h, xI_add, xI_mul, xI_sub, xI_tn, xI_in, xI_ofNat, gi_si_eq, gi_n1, gi_n2, gl_sl_eq, gl_n1, gl_n2, gi_sl, gl_si, forall_eq, true_implies, false_implies, not_true_eq_false, not_false_eq_true, and_true, true_and, implies_true, and_self]
      exact h
    | succ m ih =>
      intro i hi
      show k_M_text_34 (nI r) a2 Q _ (nI i) _
      unfold k_M_text_34
      simp (disch := omega) only [fa_lit0, xI_le_T, xI_le_F, xI_lt_T, xI_lt_F, xI_eq_T, xI_eq_F, xN_a, xN_b, xN_c, xN_d, xN_e, xN_f, xN_g, xN_h, xI_add, xI_mul, xI_sub, xI_tn, xI_in, xI_ofNat, gi_si_eq, gi_n1, gi_n2, gl_sl_eq, gl_n1, gl_n2, gi_sl, gl_si, forall_eq, true_implies, false_implies, not_true_eq_false, not_false_eq_true, and_true, true_and, implies_true, and_self, e32, fls_step]
      exact ih (i + 1) (by omega)
  have := key 60 0 (by omega)
  rw [fls_0] at this
  exact ⟨61, this⟩
/-- a new row of n noughts on both sides -/
theorem row_pair {RD : Mm → Prop} (hRD : Mono RD) {M : Mm} (h : Rel RD M) {r n : Nat} (hr : r < 6) (hn : n ≤ 40) :
    Rel RD (fls (si (si (fli M (7 + r) 40 (nI 0)) 5 r (nI n)) 314 r (nI n)) 315 (40 * r) 40 (nI 0)) := by
  obtain ⟨h1, h2, h3, h4, h5, h6, h7⟩ := h
  refine ⟨?_, h2.keep ?_, h3.keep ?_ rfl, h4.keep ?_, h5.keep ?_ ?_, h6.keep ?_, hRD _ _ ?_ h7⟩
  · intro q hq
    obtain ⟨g1, g2, g3⟩ := h1 q hq
    by_cases e : q = r
    · subst e
      refine ⟨?_, Or.inr ⟨n, hn, ?_⟩, fun i m hm h4 h5 => ?_⟩
      · simp (disch := omega) only [fa_lit0, xI_le_T, xI_le_F, xI_lt_T, xI_lt_F, xI_eq_T, xI_eq_F, xN_a, xN_b, xN_c, xN_d, xN_e, xN_f, xN_g, xN_h, xI_add, xI_mul, xI_sub, xI_tn, xI_in, xI_ofNat, gi_si_eq, gi_n1, gi_n2, gl_sl_eq, gl_n1, gl_n2, gi_sl, gl_si, forall_eq, true_implies, false_implies, not_true_eq_false, not_false_eq_true, and_true, true_and, implies_true, and_self, gi_fls_ne, gi_fli_ne]
      · simp (disch := omega) only [fa_lit0, xI_le_T, xI_le_F, xI_lt_T, xI_lt_F, xI_eq_T, xI_eq_F, xN_a, xN_b, xN_c, xN_d, xN_e, xN_f, xN_g, xN_h, xI_add, xI_mul, xI_sub, xI_tn, xI_in, xI_ofNat, gi_si_eq, gi_n1, gi_n2, gl_sl_eq, gl_n1, gl_n2, gi_sl, gl_si, forall_eq, true_implies, false_implies, not_true_eq_false, not_false_eq_true, and_true, true_and, implies_true, and_self, gi_fls_ne, gi_fli_ne]
      · simp (disch := omega) only [fa_lit0, xI_le_T, xI_le_F, xI_lt_T, xI_lt_F, xI_eq_T, xI_eq_F, xN_a, xN_b, xN_c, xN_d, xN_e, xN_f, xN_g, xN_h, xI_add, xI_mul, xI_sub, xI_tn, xI_in, xI_ofNat, gi_si_eq, gi_n1, gi_n2, gl_sl_eq, gl_n1, gl_n2, gi_sl, gl_si, forall_eq, true_implies, false_implies, not_true_eq_false, not_false_eq_true, and_true, true_and, implies_true, and_self, gi_fls_ne, gi_fli_in, gi_fls_in]
    · refine ⟨?_, ?_, fun i m hm h4 h5 => ?_⟩
      · simp (disch := omega) only [fa_lit0, xI_le_T, xI_le_F, xI_lt_T, xI_lt_F, xI_eq_T, xI_eq_F, xN_a, xN_b, xN_c, xN_d, xN_e, xN_f, xN_g, xN_h, xI_add, xI_mul, xI_sub, xI_tn, xI_in, xI_ofNat, gi_si_eq, gi_n1, gi_n2, gl_sl_eq, gl_n1, gl_n2, gi_sl, gl_si, forall_eq, true_implies, false_implies, not_true_eq_false, not_false_eq_true, and_true, true_and, implies_true, and_self, gi_fls_ne, gi_fli_ne]; exact g1
      · simp (disch := omega) only [fa_lit0, xI_le_T, xI_le_F, xI_lt_T, xI_lt_F, xI_eq_T, xI_eq_F, xN_a, xN_b, xN_c, xN_d, xN_e, xN_f, xN_g, xN_h, xI_add, xI_mul, xI_sub, xI_tn, xI_in, xI_ofNat, gi_si_eq, gi_n1, gi_n2, gl_sl_eq, gl_n1, gl_n2, gi_sl, gl_si, forall_eq, true_implies, false_implies, not_true_eq_false, not_false_eq_true, and_true, true_and, implies_true, and_self, gi_fls_ne, gi_fli_ne]; exact g2
      · simp (disch := omega) only [fa_lit0, xI_le_T, xI_le_F, xI_lt_T, xI_lt_F, xI_eq_T, xI_eq_F, xN_a, xN_b, xN_c, xN_d, xN_e, xN_f, xN_g, xN_h, xI_add, xI_mul, xI_sub, xI_tn, xI_in, xI_ofNat, gi_si_eq, gi_n1, gi_n2, gl_sl_eq, gl_n1, gl_n2, gi_sl, gl_si, forall_eq, true_implies, false_implies, not_true_eq_false, not_false_eq_true, and_true, true_and, implies_true, and_self, gi_fls_ne, gi_fli_ne, gi_fls_out]
        refine g3 i m ?_ h4 h5
        revert hm
        simp (disch := omega) only [fa_lit0, xI_le_T, xI_le_F, xI_lt_T, xI_lt_F, xI_eq_T, xI_eq_F, xN_a, xN_b, xN_c, xN_d, xN_e, xN_f, xN_g, xN_h, xI_add, xI_mul, xI_sub, xI_tn, xI_in, xI_ofNat, gi_si_eq, gi_n1, gi_n2, gl_sl_eq, gl_n1, gl_n2, gi_sl, gl_si, forall_eq, true_implies, false_implies, not_true_eq_false, not_false_eq_true, and_true, true_and, implies_true, and_self, gi_fls_ne, gi_fli_ne]
        exact id
  · intro k j hk; simp (disch := omega) only [fa_lit0, xI_le_T, xI_le_F, xI_lt_T, xI_lt_F, xI_eq_T, xI_eq_F, xN_a, xN_b, xN_c, xN_d, xN_e, xN_f, xN_g, xN_h, xI_add, xI_mul, xI_sub, xI_tn, xI_in, xI_ofNat, gi_si_eq, gi_n1, gi_n2, gl_sl_eq, gl_n1, gl_n2, gi_sl, gl_si, forall_eq, true_implies, false_implies, not_true_eq_false, not_false_eq_true, and_true, true_and, implies_true, and_self, gi_fls_ne, gi_fli_ne]
  · intro k hk; simp (disch := omega) only [fa_lit0, xI_le_T, xI_le_F, xI_lt_T, xI_lt_F, xI_eq_T, xI_eq_F, xN_a, xN_b, xN_c, xN_d, xN_e, xN_f, xN_g, xN_h, xI_add, xI_mul, xI_sub, xI_tn, xI_in, xI_ofNat, gi_si_eq, gi_n1, gi_n2, gl_sl_eq, gl_n1, gl_n2, gi_sl, gl_si, forall_eq, true_implies, false_implies, not_true_eq_false, not_false_eq_true, and_true, true_and, implies_true, and_self, gi_fls_ne, gi_fli_ne]
  · intro k j hk; simp (disch := omega) only [fa_lit0, xI_le_T, xI_le_F, xI_lt_T, xI_lt_F, xI_eq_T, xI_eq_F, xN_a, xN_b, xN_c, xN_d, xN_e, xN_f, xN_g, xN_h, xI_add, xI_mul, xI_sub, xI_tn, xI_in, xI_ofNat, gi_si_eq, gi_n1, gi_n2, gl_sl_eq, gl_n1, gl_n2, gi_sl, gl_si, forall_eq, true_implies, false_implies, not_true_eq_false, not_false_eq_true, and_true, true_and, implies_true, and_self, gi_fls_ne, gi_fli_ne]
  · simp (disch := omega) only [fa_lit0, xI_le_T, xI_le_F, xI_lt_T, xI_lt_F, xI_eq_T, xI_eq_F, xN_a, xN_b, xN_c, xN_d, xN_e, xN_f, xN_g, xN_h, xI_add, xI_mul, xI_sub, xI_tn, xI_in, xI_ofNat, gi_si_eq, gi_n1, gi_n2, gl_sl_eq, gl_n1, gl_n2, gi_sl, gl_si, forall_eq, true_implies, false_implies, not_true_eq_false, not_false_eq_true, and_true, true_and, implies_true, and_self, gi_fls_ne, gi_fli_ne]
  · simp (disch := omega) only [fa_lit0, xI_le_T, xI_le_F, xI_lt_T, xI_lt_F, xI_eq_T, xI_eq_F, xN_a, xN_b, xN_c, xN_d, xN_e, xN_f, xN_g, xN_h, xI_add, xI_mul, xI_sub, xI_tn, xI_in, xI_ofNat, gi_si_eq, gi_n1, gi_n2, gl_sl_eq, gl_n1, gl_n2, gi_sl, gl_si, forall_eq, true_implies, false_implies, not_true_eq_false, not_false_eq_true, and_true, true_and, implies_true, and_self, gi_fls_ne, gi_fli_ne]
  · intro k j hk; simp (disch := omega) only [fa_lit0, xI_le_T, xI_le_F, xI_lt_T, xI_lt_F, xI_eq_T, xI_eq_F, xN_a, xN_b, xN_c, xN_d, xN_e, xN_f, xN_g, xN_h, xI_add, xI_mul, xI_sub, xI_tn, xI_in, xI_ofNat, gi_si_eq, gi_n1, gi_n2, gl_sl_eq, gl_n1, gl_n2, gi_sl, gl_si, forall_eq, true_implies, false_implies, not_true_eq_false, not_false_eq_true, and_true, true_and, implies_true, and_self, gl_fls, gl_fli]
  · intro k j hk
    unfold Dset at hk
    exact ⟨by simp (disch := omega) only [fa_lit0, xI_le_T, xI_le_F, xI_lt_T, xI_lt_F, xI_eq_T, xI_eq_F, xN_a, xN_b, xN_c, xN_d, xN_e, xN_f, xN_g, xN_h, xI_add, xI_mul, xI_sub, xI_tn, xI_in, xI_ofNat, gi_si_eq, gi_n1, gi_n2, gl_sl_eq, gl_n1, gl_n2, gi_sl, gl_si, forall_eq, true_implies, false_implies, not_true_eq_false, not_false_eq_true, and_true, true_and, implies_true, and_self, gi_fls_ne, gi_fli_ne], by simp (disch := omega) only [fa_lit0, xI_le_T, xI_le_F, xI_lt_T, xI_lt_F, xI_eq_T, xI_eq_F, xN_a, xN_b, xN_c, xN_d, xN_e, xN_f, xN_g, xN_h, xI_add, xI_mul, xI_sub, xI_tn, xI_in, xI_ofNat, gi_si_eq, gi_n1, gi_n2, gl_sl_eq, gl_n1, gl_n2, gi_sl, gl_si, forall_eq, true_implies, false_implies, not_true_eq_false, not_false_eq_true, and_true, true_and, implies_true, and_self, gl_fls, gl_fli]⟩
theorem op_row {RD : Mm → Prop} (hRD : Mono RD) {a1 a2 : Int32} {M : Mm} (h : Rel RD M) : wp_B_row a1 a2 M (fun r M1 => wp_M_row a1 a2 M1 (fun r2 M2 => r = r2 ∧ Rel RD M2)) := by
  have hc := h.2.2.1.1
  rcases pk_ix a1 (n := 6) (by omega) with g | g | ⟨r, hr, rfl⟩
  · simp (disch := omega) only [fa_lit0, xI_le_T, xI_le_F, xI_lt_T, xI_lt_F, xI_eq_T, xI_eq_F, xN_a, xN_b, xN_c, xN_d, xN_e, xN_f, xN_g, xN_h, xI_add, xI_mul, xI_sub, xI_tn, xI_in, xI_ofNat, gi_si_eq, gi_n1, gi_n2, gl_sl_eq, gl_n1, gl_n2, gi_sl, gl_si, forall_eq, true_implies, false_implies, not_true_eq_false, not_false_eq_true, and_true, true_and, implies_true, and_self, wp_B_row, wp_B_makeIn, wp_Sh_knows, wp_M_row, wp_M_isRow, wp_M_in, ng_a g, zb_0]; exact h
  · simp (disch := omega) only [fa_lit0, xI_le_T, xI_le_F, xI_lt_T, xI_lt_F, xI_eq_T, xI_eq_F, xN_a, xN_b, xN_c, xN_d, xN_e, xN_f, xN_g, xN_h, xI_add, xI_mul, xI_sub, xI_tn, xI_in, xI_ofNat, gi_si_eq, gi_n1, gi_n2, gl_sl_eq, gl_n1, gl_n2, gi_sl, gl_si, forall_eq, true_implies, false_implies, not_true_eq_false, not_false_eq_true, and_true, true_and, implies_true, and_self, wp_B_row, wp_B_makeIn, wp_Sh_knows, wp_M_row, wp_M_isRow, wp_M_in, bg_a g, bg_b g, bg_c g, zb_0, shN_4]; exact h
  · rcases pk_ix a2 (n := 41) (by omega) with g | g | ⟨n, hn, rfl⟩
    · simp (disch := omega) only [fa_lit0, xI_le_T, xI_le_F, xI_lt_T, xI_lt_F, xI_eq_T, xI_eq_F, xN_a, xN_b, xN_c, xN_d, xN_e, xN_f, xN_g, xN_h, xI_add, xI_mul, xI_sub, xI_tn, xI_in, xI_ofNat, gi_si_eq, gi_n1, gi_n2, gl_sl_eq, gl_n1, gl_n2, gi_sl, gl_si, forall_eq, true_implies, false_implies, not_true_eq_false, not_false_eq_true, and_true, true_and, implies_true, and_self, wp_B_row, wp_B_makeIn, wp_Sh_knows, wp_M_row, wp_M_isRow, wp_M_in, zb_1, shN_4, hc, ng_a g, ng_b g, ng_c g, wp_B_answerFinding, wp_M_meets]
      exact find_pair hRD h (by omega)
    · simp (disch := omega) only [fa_lit0, xI_le_T, xI_le_F, xI_lt_T, xI_lt_F, xI_eq_T, xI_eq_F, xN_a, xN_b, xN_c, xN_d, xN_e, xN_f, xN_g, xN_h, xI_add, xI_mul, xI_sub, xI_tn, xI_in, xI_ofNat, gi_si_eq, gi_n1, gi_n2, gl_sl_eq, gl_n1, gl_n2, gi_sl, gl_si, forall_eq, true_implies, false_implies, not_true_eq_false, not_false_eq_true, and_true, true_and, implies_true, and_self, wp_B_row, wp_B_makeIn, wp_Sh_knows, wp_M_row, wp_M_isRow, wp_M_in, zb_1, shN_4, hc, bg_a g, bg_b g, bg_c g, bg_d g]; exact h
    · simp (disch := omega) only [fa_lit0, xI_le_T, xI_le_F, xI_lt_T, xI_lt_F, xI_eq_T, xI_eq_F, xN_a, xN_b, xN_c, xN_d, xN_e, xN_f, xN_g, xN_h, xI_add, xI_mul, xI_sub, xI_tn, xI_in, xI_ofNat, gi_si_eq, gi_n1, gi_n2, gl_sl_eq, gl_n1, gl_n2, gi_sl, gl_si, forall_eq, true_implies, false_implies, not_true_eq_false, not_false_eq_true, and_true, true_and, implies_true, and_self, wp_B_row, wp_B_makeIn, wp_Sh_knows, wp_Sh_make, shN_4, shR_4, hc]
      refine J_fill_ok (by omega) ?_
      simp (disch := omega) only [fa_lit0, xI_le_T, xI_le_F, xI_lt_T, xI_lt_F, xI_eq_T, xI_eq_F, xN_a, xN_b, xN_c, xN_d, xN_e, xN_f, xN_g, xN_h, xI_add, xI_mul, xI_sub, xI_tn, xI_in, xI_ofNat, gi_si_eq, gi_n1, gi_n2, gl_sl_eq, gl_n1, gl_n2, gi_sl, gl_si, forall_eq, true_implies, false_implies, not_true_eq_false, not_false_eq_true, and_true, true_and, implies_true, and_self, wp_M_row, wp_M_isRow, wp_M_in, zb_1]
      refine M_row_lp hr ?_
      exact ⟨rfl, row_pair hRD h hr (by omega)⟩
