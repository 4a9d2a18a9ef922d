/-! rows that a call asks for -/
theorem m_size {n m : Nat} (hn : n ≤ 5) (hm : m ≤ 40) (h : m ≠ n) : True := trivial
theorem armRow {C : Nat → Nat → Nat} {F : Nat → Nat} {D : Nat} {L T N V : Nat → Nat → Nat} {KL : Nat → Nat → Nat → Nat} {M : Mm} (h : Rel RDel M) (hd : Sta C F D L T N V KL M) (a1 : Int32) :
    (∃ (e : Int32) (M1 M2 : Mm), (0 ≤ e) = False ∧ (e = 0) = False ∧ (∀ Q, Q e M1 → wp_B_armRowRefusal a1 M Q) ∧ (∀ Q, Q e M2 → wp_M_needArms a1 M1 Q) ∧ Rel RDel M2) ∨
    (∃ r, r < 6 ∧ a1 = nI r ∧ 0 < C 0 0 ∧ gi M 5 r = nI (C 0 0) ∧ gi M 314 r = nI (C 0 0) ∧ (∀ i, i < C 0 0 → gi M (7 + r) i = gi M 315 (40 * r + i)) ∧ (∀ Q, Q (nI 0) M → wp_B_armRowRefusal a1 M Q) ∧ (∀ M1, gi M1 312 10 = nI (C 0 0) → gi M1 314 r = nI (C 0 0) → ∀ Q, Q (nI 0) M1 → wp_M_needArms a1 M1 Q)) := by
  obtain ⟨hC, hB, hW, hO, hF, hG, -⟩ := hd.parts
  have hn := hC.1
  have b1 := hB.1
  have m1 := hW.2.1
  have f1 : (0 ≤ (-1 : Int32)) = False := eq_false (by decide)
  have f1' : ((-1 : Int32) = 0) = False := eq_false (by decide)
  have f3 : (0 ≤ (-nI 3 : Int32)) = False := eq_false (by decide)
  have f3' : ((-nI 3 : Int32) = 0) = False := eq_false (by decide)
  have f4 : (0 ≤ (-nI 4 : Int32)) = False := eq_false (by decide)
  have f4' : ((-nI 4 : Int32) = 0) = False := eq_false (by decide)
  rcases pk_ix a1 (n := 6) (by omega) with g | g | ⟨r, hr, rfl⟩
  · refine Or.inl ⟨-1, M, M, f1, f1', fun Q q => ?_, fun Q q => ?_, h⟩
    · simp (disch := omega) only [fa_lit0, xI_le_T, xI_le_F, xI_lt_T, xI_lt_F, xI_eq_T, xI_eq_F, xN_a, xN_b, xN_c, xN_d, xN_e, xN_f, xN_g, xN_h, xI_add, xI_mul, xI_sub, xI_tn, xI_in, xI_ofNat, gi_si_eq, gi_n1, gi_n2, gl_sl_eq, gl_n1, gl_n2, gi_sl, gl_si, forall_eq, true_implies, false_implies, not_true_eq_false, not_false_eq_true, and_true, true_and, implies_true, and_self, wp_B_armRowRefusal, wp_B_deltaRowRefusal, wp_Sh_knows, ng_a g]; exact q
    · simp (disch := omega) only [fa_lit0, xI_le_T, xI_le_F, xI_lt_T, xI_lt_F, xI_eq_T, xI_eq_F, xN_a, xN_b, xN_c, xN_d, xN_e, xN_f, xN_g, xN_h, xI_add, xI_mul, xI_sub, xI_tn, xI_in, xI_ofNat, gi_si_eq, gi_n1, gi_n2, gl_sl_eq, gl_n1, gl_n2, gi_sl, gl_si, forall_eq, true_implies, false_implies, not_true_eq_false, not_false_eq_true, and_true, true_and, implies_true, and_self, wp_M_needArms, wp_M_isRow, wp_M_in, ng_a g, zb_0]; exact q
  · refine Or.inl ⟨-1, M, M, f1, f1', fun Q q => ?_, fun Q q => ?_, h⟩
    · simp (disch := omega) only [fa_lit0, xI_le_T, xI_le_F, xI_lt_T, xI_lt_F, xI_eq_T, xI_eq_F, xN_a, xN_b, xN_c, xN_d, xN_e, xN_f, xN_g, xN_h, xI_add, xI_mul, xI_sub, xI_tn, xI_in, xI_ofNat, gi_si_eq, gi_n1, gi_n2, gl_sl_eq, gl_n1, gl_n2, gi_sl, gl_si, forall_eq, true_implies, false_implies, not_true_eq_false, not_false_eq_true, and_true, true_and, implies_true, and_self, wp_B_armRowRefusal, wp_B_deltaRowRefusal, wp_Sh_knows, bg_a g, bg_b g, shN_4]; exact q
    · simp (disch := omega) only [fa_lit0, xI_le_T, xI_le_F, xI_lt_T, xI_lt_F, xI_eq_T, xI_eq_F, xN_a, xN_b, xN_c, xN_d, xN_e, xN_f, xN_g, xN_h, xI_add, xI_mul, xI_sub, xI_tn, xI_in, xI_ofNat, gi_si_eq, gi_n1, gi_n2, gl_sl_eq, gl_n1, gl_n2, gi_sl, gl_si, forall_eq, true_implies, false_implies, not_true_eq_false, not_false_eq_true, and_true, true_and, implies_true, and_self, wp_M_needArms, wp_M_isRow, wp_M_in, bg_a g, bg_c g, zb_0]; exact q
  · by_cases c : C 0 0 = 0
    · refine Or.inl ⟨-nI 4, M, M, f4, f4', fun Q q => ?_, fun Q q => ?_, h⟩
      · simp (disch := omega) only [fa_lit0, xI_le_T, xI_le_F, xI_lt_T, xI_lt_F, xI_eq_T, xI_eq_F, xN_a, xN_b, xN_c, xN_d, xN_e, xN_f, xN_g, xN_h, xI_add, xI_mul, xI_sub, xI_tn, xI_in, xI_ofNat, gi_si_eq, gi_n1, gi_n2, gl_sl_eq, gl_n1, gl_n2, gi_sl, gl_si, forall_eq, true_implies, false_implies, not_true_eq_false, not_false_eq_true, and_true, true_and, implies_true, and_self, wp_B_armRowRefusal, wp_B_deltaRowRefusal, wp_Sh_knows, shN_4, b1, c]; exact q
      · simp (disch := omega) only [fa_lit0, xI_le_T, xI_le_F, xI_lt_T, xI_lt_F, xI_eq_T, xI_eq_F, xN_a, xN_b, xN_c, xN_d, xN_e, xN_f, xN_g, xN_h, xI_add, xI_mul, xI_sub, xI_tn, xI_in, xI_ofNat, gi_si_eq, gi_n1, gi_n2, gl_sl_eq, gl_n1, gl_n2, gi_sl, gl_si, forall_eq, true_implies, false_implies, not_true_eq_false, not_false_eq_true, and_true, true_and, implies_true, and_self, wp_M_needArms, wp_M_isRow, wp_M_in, zb_1, m1, c]; exact q
    · obtain ⟨g1, g2, g3⟩ := h.1 r hr
      rcases g2 with e | ⟨m, hm, e⟩
      · rw [e] at g1
        refine Or.inl ⟨-nI 3, si (si M 0 12 (nI 1)) 1 1 (gi M 1 1 + nI 1), _, f3, f3', fun Q q => ?_, fun Q q => ?_, find_pair RDel_mono h (f := 1) (by omega)⟩
        · simp (disch := omega) only [fa_lit0, xI_le_T, xI_le_F, xI_lt_T, xI_lt_F, xI_eq_T, xI_eq_F, xN_a, xN_b, xN_c, xN_d, xN_e, xN_f, xN_g, xN_h, xI_add, xI_mul, xI_sub, xI_tn, xI_in, xI_ofNat, gi_si_eq, gi_n1, gi_n2, gl_sl_eq, gl_n1, gl_n2, gi_sl, gl_si, forall_eq, true_implies, false_implies, not_true_eq_false, not_false_eq_true, and_true, true_and, implies_true, and_self, wp_B_armRowRefusal, wp_B_deltaRowRefusal, wp_B_shelfRefusal, wp_Sh_isThere, wp_Sh_knows, shN_4, b1, g1, wp_B_answerFinding]; exact q
        · simp (disch := omega) only [fa_lit0, xI_le_T, xI_le_F, xI_lt_T, xI_lt_F, xI_eq_T, xI_eq_F, xN_a, xN_b, xN_c, xN_d, xN_e, xN_f, xN_g, xN_h, xI_add, xI_mul, xI_sub, xI_tn, xI_in, xI_ofNat, gi_si_eq, gi_n1, gi_n2, gl_sl_eq, gl_n1, gl_n2, gi_sl, gl_si, forall_eq, true_implies, false_implies, not_true_eq_false, not_false_eq_true, and_true, true_and, implies_true, and_self, wp_M_needArms, wp_M_isRow, wp_M_in, zb_1, m1, e, wp_M_meets]; exact q
      · rw [e] at g1
        by_cases c2 : m = C 0 0
        · subst c2
          refine Or.inr ⟨r, hr, rfl, by omega, g1, e, fun i hi => g3 i _ e hm hi, fun Q q => ?_, fun M1 m1 e Q q => ?_⟩
          · simp (disch := omega) only [fa_lit0, xI_le_T, xI_le_F, xI_lt_T, xI_lt_F, xI_eq_T, xI_eq_F, xN_a, xN_b, xN_c, xN_d, xN_e, xN_f, xN_g, xN_h, xI_add, xI_mul, xI_sub, xI_tn, xI_in, xI_ofNat, gi_si_eq, gi_n1, gi_n2, gl_sl_eq, gl_n1, gl_n2, gi_sl, gl_si, forall_eq, true_implies, false_implies, not_true_eq_false, not_false_eq_true, and_true, true_and, implies_true, and_self, wp_B_armRowRefusal, wp_B_deltaRowRefusal, wp_B_shelfRefusal, wp_Sh_isThere, wp_Sh_sizeOf, wp_Sh_knows, shN_4, b1, g1]; exact q
          · simp (disch := omega) only [fa_lit0, xI_le_T, xI_le_F, xI_lt_T, xI_lt_F, xI_eq_T, xI_eq_F, xN_a, xN_b, xN_c, xN_d, xN_e, xN_f, xN_g, xN_h, xI_add, xI_mul, xI_sub, xI_tn, xI_in, xI_ofNat, gi_si_eq, gi_n1, gi_n2, gl_sl_eq, gl_n1, gl_n2, gi_sl, gl_si, forall_eq, true_implies, false_implies, not_true_eq_false, not_false_eq_true, and_true, true_and, implies_true, and_self, wp_M_needArms, wp_M_isRow, wp_M_in, zb_1, m1, e]; exact q
        · refine Or.inl ⟨-nI 3, si (si M 0 12 (nI 5)) 1 5 (gi M 1 5 + nI 1), _, f3, f3', fun Q q => ?_, fun Q q => ?_, find_pair RDel_mono h (f := 5) (by omega)⟩
          · simp (disch := omega) only [fa_lit0, xI_le_T, xI_le_F, xI_lt_T, xI_lt_F, xI_eq_T, xI_eq_F, xN_a, xN_b, xN_c, xN_d, xN_e, xN_f, xN_g, xN_h, xI_add, xI_mul, xI_sub, xI_tn, xI_in, xI_ofNat, gi_si_eq, gi_n1, gi_n2, gl_sl_eq, gl_n1, gl_n2, gi_sl, gl_si, forall_eq, true_implies, false_implies, not_true_eq_false, not_false_eq_true, and_true, true_and, implies_true, and_self, wp_B_armRowRefusal, wp_B_deltaRowRefusal, wp_B_shelfRefusal, wp_Sh_isThere, wp_Sh_sizeOf, wp_Sh_knows, shN_4, b1, g1, wp_B_answerFinding]; exact q
          · simp (disch := omega) only [fa_lit0, xI_le_T, xI_le_F, xI_lt_T, xI_lt_F, xI_eq_T, xI_eq_F, xN_a, xN_b, xN_c, xN_d, xN_e, xN_f, xN_g, xN_h, xI_add, xI_mul, xI_sub, xI_tn, xI_in, xI_ofNat, gi_si_eq, gi_n1, gi_n2, gl_sl_eq, gl_n1, gl_n2, gi_sl, gl_si, forall_eq, true_implies, false_implies, not_true_eq_false, not_false_eq_true, and_true, true_and, implies_true, and_self, wp_M_needArms, wp_M_isRow, wp_M_in, zb_1, m1, e, wp_M_meets]; exact q
theorem B_sets {C : Nat → Nat → Nat} {M : Mm} (hC : OkC C) (hB : ChB C M) {Q : Int32 → Mm → Prop} (h : Q (nI (2 ^ C 0 0)) M) : wp_Ch_sets 20 M Q := by
  have hn := hC.1
  simp (disch := omega) only [fa_lit0, xI_le_T, xI_le_F, xI_lt_T, xI_lt_F, xI_eq_T, xI_eq_F, xN_a, xN_b, xN_c, xN_d, xN_e, xN_f, xN_g, xN_h, xI_add, xI_mul, xI_sub, xI_tn, xI_in, xI_ofNat, gi_si_eq, gi_n1, gi_n2, gl_sl_eq, gl_n1, gl_n2, gi_sl, gl_si, forall_eq, true_implies, false_implies, not_true_eq_false, not_false_eq_true, and_true, true_and, implies_true, and_self, wp_Ch_sets, hB.1, bs_l]
  exact h
theorem M_sets {C : Nat → Nat → Nat} {M : Mm} (hW : MW C M) {Q : Int32 → Mm → Prop} (h : Q (nI (2 ^ C 0 0)) M) : wp_M_setMany M Q := by
  have hn := hW.1.1
  simp (disch := omega) only [fa_lit0, xI_le_T, xI_le_F, xI_lt_T, xI_lt_F, xI_eq_T, xI_eq_F, xN_a, xN_b, xN_c, xN_d, xN_e, xN_f, xN_g, xN_h, xI_add, xI_mul, xI_sub, xI_tn, xI_in, xI_ofNat, gi_si_eq, gi_n1, gi_n2, gl_sl_eq, gl_n1, gl_n2, gi_sl, gl_si, forall_eq, true_implies, false_implies, not_true_eq_false, not_false_eq_true, and_true, true_and, implies_true, and_self, wp_M_setMany, hW.2.1, bs_l]
  exact h
theorem B_val {M : Mm} {r n i : Nat} (hr : r < 6) (hn : n ≤ 40) (hi : i < n) (e : gi M 5 r = nI n) {Q : Int32 → Mm → Prop} (h : Q (gi M (7 + r) i) M) : wp_Sh_valueAt 4 (nI r) (nI i) M Q := by
  simp (disch := omega) only [fa_lit0, xI_le_T, xI_le_F, xI_lt_T, xI_lt_F, xI_eq_T, xI_eq_F, xN_a, xN_b, xN_c, xN_d, xN_e, xN_f, xN_g, xN_h, xI_add, xI_mul, xI_sub, xI_tn, xI_in, xI_ofNat, gi_si_eq, gi_n1, gi_n2, gl_sl_eq, gl_n1, gl_n2, gi_sl, gl_si, forall_eq, true_implies, false_implies, not_true_eq_false, not_false_eq_true, and_true, true_and, implies_true, and_self, wp_Sh_valueAt, wp_Sh_hasStretch, wp_Sh_knows, shN_4, shR_4, e]
  exact h
theorem p5 {n : Nat} (h : n ≤ 5) : 2 ^ n ≤ 32 := Nat.pow_le_pow_right (n := 2) (by omega) (show n ≤ 5 from h)
/-! what fits -/
abbrev ft (C : Nat → Nat → Nat) (F : Nat → Nat) (R : Nat → Int32) (s : Nat) : Prop := ∀ i, i < C 0 0 → nI (gob C (ssF C s F (C 0 0)) (5 + i)) = R i
theorem B_fit {C : Nat → Nat → Nat} {F : Nat → Nat} {M : Mm} {r s : Nat} {R : Nat → Int32} (hW : CW C M) (hO : OkF (C 0 0) F) (h30 : F 30 ≤ 60) (hF : FlB F M 61) (hr : r < 6) (e5 : gi M 5 r = nI (C 0 0)) (hR : ∀ i, i < C 0 0 → gi M (7 + r) i = R i) (hs : s < 32) {Q : Int32 → Mm → Prop} (h1 : ft C F R s → ∀ M', Sm (SB 3) M M' → CW C M' → Q (nI (ssD C s F (C 0 0))) M') (h2 : ¬ ft C F R s → ∀ M', Sm (SB 3) M M' → CW C M' → Q (-nI 9) M') : wp_B_stampedToFit (nI s) (nI r) M Q := by
  have hC := hW.1
  have hn := hC.1
  unfold wp_B_stampedToFit
  refine B_copy hF (by omega) fun M1 s1 f1 => ?_
  have w1 : CW C M1 := hW.sm s1 (by omega)
  have hO1 := hO.ss (s := s) hC (C 0 0) (Nat.le_refl _)
  refine B_stampSet w1 hO f1 (by omega) hs fun M2 s2 w2 f2 => ?_
  refine B_goBy w2 hO1.1 f2 (by omega) fun M3 s3 w3 f3 => ?_
  have hO2 := hO1.1.go hC (by rw [hO1.2]; omega)
  have s13 : Sm (SB 3) M M3 := ((s1.mono (fun a b w => Or.inl w)).trans s2).trans s3
  have e5' : gi M3 5 r = nI (C 0 0) := (s13.g (by unfold SB; omega)).trans e5
  have b1 := w3.2.1.1
  have key : ∀ (d m : Nat), m + d = C 0 0 → (∀ i, i < m → nI (gob C (ssF C s F (C 0 0)) (5 + i)) = R i) → lp_B_stampedToFit_42 (nI s) (nI r) Q (d + 1) (nI (ssD C s F (C 0 0))) (nI m) M3 := by
    intro d
    induction d with
    | zero =>
      intro m hm hj
      have hm : m = C 0 0 := by omega
      subst hm
      show k_B_stampedToFit_42 (nI s) (nI r) Q _ _ _ M3
      unfold k_B_stampedToFit_42
      simp (disch := omega) only [fa_lit0, xI_le_T, xI_le_F, xI_lt_T, xI_lt_F, xI_eq_T, xI_eq_F, xN_a, xN_b, xN_c, xN_d, xN_e, xN_f, xN_g, xN_h, xI_add, xI_mul, xI_sub, xI_tn, xI_in, xI_ofNat, gi_si_eq, gi_n1, gi_n2, gl_sl_eq, gl_n1, gl_n2, gi_sl, gl_si, forall_eq, true_implies, false_implies, not_true_eq_false, not_false_eq_true, and_true, true_and, implies_true, and_self, b1]
      exact h1 hj M3 s13 w3
    | succ d ih =>
      intro m hm hj
      show k_B_stampedToFit_42 (nI s) (nI r) Q _ _ _ M3
      unfold k_B_stampedToFit_42
      simp (disch := omega) only [fa_lit0, xI_le_T, xI_le_F, xI_lt_T, xI_lt_F, xI_eq_T, xI_eq_F, xN_a, xN_b, xN_c, xN_d, xN_e, xN_f, xN_g, xN_h, xI_add, xI_mul, xI_sub, xI_tn, xI_in, xI_ofNat, gi_si_eq, gi_n1, gi_n2, gl_sl_eq, gl_n1, gl_n2, gi_sl, gl_si, forall_eq, true_implies, false_implies, not_true_eq_false, not_false_eq_true, and_true, true_and, implies_true, and_self, b1]
      refine B_salt hO2.s f3 (by omega) ?_
      refine B_val (n := C 0 0) hr (by omega) (by omega) e5' ?_
      rw [s13.g (by unfold SB; omega), hR m (by omega)]
      by_cases c : nI (gob C (ssF C s F (C 0 0)) (5 + m)) = R m
      · simp (disch := omega) only [fa_lit0, xI_le_T, xI_le_F, xI_lt_T, xI_lt_F, xI_eq_T, xI_eq_F, xN_a, xN_b, xN_c, xN_d, xN_e, xN_f, xN_g, xN_h, xI_add, xI_mul, xI_sub, xI_tn, xI_in, xI_ofNat, gi_si_eq, gi_n1, gi_n2, gl_sl_eq, gl_n1, gl_n2, gi_sl, gl_si, forall_eq, true_implies, false_implies, not_true_eq_false, not_false_eq_true, and_true, true_and, implies_true, and_self, c]
        refine ih (m + 1) (by omega) fun i hi => ?_
        by_cases e : i = m
        · rw [e]; exact c
        · exact hj i (by omega)
      · simp (disch := omega) only [fa_lit0, xI_le_T, xI_le_F, xI_lt_T, xI_lt_F, xI_eq_T, xI_eq_F, xN_a, xN_b, xN_c, xN_d, xN_e, xN_f, xN_g, xN_h, xI_add, xI_mul, xI_sub, xI_tn, xI_in, xI_ofNat, gi_si_eq, gi_n1, gi_n2, gl_sl_eq, gl_n1, gl_n2, gi_sl, gl_si, forall_eq, true_implies, false_implies, not_true_eq_false, not_false_eq_true, and_true, true_and, implies_true, and_self, c]
        exact h2 (fun w => c (w m (by omega))) M3 s13 w3
  exact ⟨_, key (C 0 0) 0 (by omega) (fun i hi => absurd hi (by omega))⟩
theorem M_fit {C : Nat → Nat → Nat} {F : Nat → Nat} {M : Mm} {r s : Nat} {R : Nat → Int32} (hW : MW C M) (hO : OkF (C 0 0) F) (h30 : F 30 ≤ 60) (hF : FM F M 0) (hr : r < 6) (hR : ∀ i, i < C 0 0 → gi M 315 (40 * r + i) = R i) (hs : s < 32) {Q : Int32 → Mm → Prop} (h1 : ft C F R s → ∀ M', Sm (SM 1) M M' → MW C M' → Q (nI (ssD C s F (C 0 0))) M') (h2 : ¬ ft C F R s → ∀ M', Sm (SM 1) M M' → MW C M' → Q (-nI 9) M') : wp_M_saltBy (nI r) (nI s) M Q := by
  have hC := hW.1
  have hn := hC.1
  unfold wp_M_saltBy
  simp (disch := omega) only [fa_lit0, xI_le_T, xI_le_F, xI_lt_T, xI_lt_F, xI_eq_T, xI_eq_F, xN_a, xN_b, xN_c, xN_d, xN_e, xN_f, xN_g, xN_h, xI_add, xI_mul, xI_sub, xI_tn, xI_in, xI_ofNat, gi_si_eq, gi_n1, gi_n2, gl_sl_eq, gl_n1, gl_n2, gi_sl, gl_si, forall_eq, true_implies, false_implies, not_true_eq_false, not_false_eq_true, and_true, true_and, implies_true, and_self]
  refine M_copyTo hF (by omega) (by omega) (by omega) fun M1 s1 f1 => ?_
  have w1 : MW C M1 := hW.sm s1 (by omega)
  have hO1 := hO.ss (s := s) hC (C 0 0) (Nat.le_refl _)
  refine M_stampsOf w1 hO f1 (by omega) hs fun M2 s2 w2 f2 => ?_
  refine M_passes w2 hO1.1 f2 (by omega) fun M3 s3 w3 f3 i3 => ?_
  have s13 : Sm (SM 1) M M3 := ((s1.mono (fun a b w => Or.inl w)).trans s2).trans s3
  have m1 := w3.2.1
  have key : ∀ (K : Int32 → Int32 → Mm → Prop), (ft C F R s → K (nI (ssD C s F (C 0 0))) (nI 1) M3) → (¬ ft C F R s → K (nI (ssD C s F (C 0 0))) (nI 0) M3) → ∀ (d m x : Nat), m + d = C 0 0 → ((x = 1 ∧ ∀ i, i < m → nI (gob C (ssF C s F (C 0 0)) (5 + i)) = R i) ∨ (x = 0 ∧ ¬ ft C F R s)) → lp_M_saltBy_25 (nI r) (nI s) Q K (d + 1) (nI (ssD C s F (C 0 0))) (nI x) (nI m) M3 := by
    intro K k1 k2 d
    induction d with
    | zero =>
      intro m x hm hx
      have hm : m = C 0 0 := by omega
      subst hm
      show k_M_saltBy_25 (nI r) (nI s) Q _ K _ _ _ M3
      unfold k_M_saltBy_25
      simp (disch := omega) only [fa_lit0, xI_le_T, xI_le_F, xI_lt_T, xI_lt_F, xI_eq_T, xI_eq_F, xN_a, xN_b, xN_c, xN_d, xN_e, xN_f, xN_g, xN_h, xI_add, xI_mul, xI_sub, xI_tn, xI_in, xI_ofNat, gi_si_eq, gi_n1, gi_n2, gl_sl_eq, gl_n1, gl_n2, gi_sl, gl_si, forall_eq, true_implies, false_implies, not_true_eq_false, not_false_eq_true, and_true, true_and, implies_true, and_self, m1]
      rcases hx with ⟨e, q⟩ | ⟨e, q⟩
      · rw [e]; exact k1 q
      · rw [e]; exact k2 q
    | succ d ih =>
      intro m x hm hx
      have ih0 := ih (m + 1) 0 (by omega)
      have ih1 := ih (m + 1) 1 (by omega)
      show k_M_saltBy_25 (nI r) (nI s) Q _ K _ _ _ M3
      unfold k_M_saltBy_25
      rcases hx with ⟨e, q⟩ | ⟨e, q⟩
      · subst e
        have r36 : gi M3 327 (36 + m) = nI (gob C (ssF C s F (C 0 0)) (5 + m)) := by
          have := f3 (5 + m) (by omega)
          dsimp only at this
          rwa [show 31 * 1 + (5 + m) = 36 + m by omega] at this
        have rr : gi M3 315 (40 * r + m) = R m := (s13.g (by unfold SM; omega)).trans (hR m (by omega))
        simp (disch := omega) only [fa_lit0, xI_le_T, xI_le_F, xI_lt_T, xI_lt_F, xI_eq_T, xI_eq_F, xN_a, xN_b, xN_c, xN_d, xN_e, xN_f, xN_g, xN_h, xI_add, xI_mul, xI_sub, xI_tn, xI_in, xI_ofNat, gi_si_eq, gi_n1, gi_n2, gl_sl_eq, gl_n1, gl_n2, gi_sl, gl_si, forall_eq, true_implies, false_implies, not_true_eq_false, not_false_eq_true, and_true, true_and, implies_true, and_self, m1, wp_M_rowAt, r36, rr]
        by_cases c : nI (gob C (ssF C s F (C 0 0)) (5 + m)) = R m
        · simp (disch := omega) only [fa_lit0, xI_le_T, xI_le_F, xI_lt_T, xI_lt_F, xI_eq_T, xI_eq_F, xN_a, xN_b, xN_c, xN_d, xN_e, xN_f, xN_g, xN_h, xI_add, xI_mul, xI_sub, xI_tn, xI_in, xI_ofNat, gi_si_eq, gi_n1, gi_n2, gl_sl_eq, gl_n1, gl_n2, gi_sl, gl_si, forall_eq, true_implies, false_implies, not_true_eq_false, not_false_eq_true, and_true, true_and, implies_true, and_self, c, k_M_saltBy_64]
          refine ih1 (Or.inl ⟨rfl, fun i hi => ?_⟩)
          by_cases e : i = m
          · rw [e]; exact c
          · exact q i (by omega)
        · simp (disch := omega) only [fa_lit0, xI_le_T, xI_le_F, xI_lt_T, xI_lt_F, xI_eq_T, xI_eq_F, xN_a, xN_b, xN_c, xN_d, xN_e, xN_f, xN_g, xN_h, xI_add, xI_mul, xI_sub, xI_tn, xI_in, xI_ofNat, gi_si_eq, gi_n1, gi_n2, gl_sl_eq, gl_n1, gl_n2, gi_sl, gl_si, forall_eq, true_implies, false_implies, not_true_eq_false, not_false_eq_true, and_true, true_and, implies_true, and_self, c, k_M_saltBy_63, k_M_saltBy_64]
          exact ih0 (Or.inr ⟨rfl, fun w => c (w m (by omega))⟩)
      · subst e
        simp (disch := omega) only [fa_lit0, xI_le_T, xI_le_F, xI_lt_T, xI_lt_F, xI_eq_T, xI_eq_F, xN_a, xN_b, xN_c, xN_d, xN_e, xN_f, xN_g, xN_h, xI_add, xI_mul, xI_sub, xI_tn, xI_in, xI_ofNat, gi_si_eq, gi_n1, gi_n2, gl_sl_eq, gl_n1, gl_n2, gi_sl, gl_si, forall_eq, true_implies, false_implies, not_true_eq_false, not_false_eq_true, and_true, true_and, implies_true, and_self, m1, k_M_saltBy_63, k_M_saltBy_64]
        exact ih0 (Or.inr ⟨rfl, q⟩)
  refine ⟨_, key _ ?_ ?_ (C 0 0) 0 1 (by omega) (Or.inl ⟨rfl, fun i hi => absurd hi (by omega)⟩)⟩
  · intro q
    simp (disch := omega) only [fa_lit0, xI_le_T, xI_le_F, xI_lt_T, xI_lt_F, xI_eq_T, xI_eq_F, xN_a, xN_b, xN_c, xN_d, xN_e, xN_f, xN_g, xN_h, xI_add, xI_mul, xI_sub, xI_tn, xI_in, xI_ofNat, gi_si_eq, gi_n1, gi_n2, gl_sl_eq, gl_n1, gl_n2, gi_sl, gl_si, forall_eq, true_implies, false_implies, not_true_eq_false, not_false_eq_true, and_true, true_and, implies_true, and_self]
    exact h1 q M3 s13 w3
  · intro q
    simp (disch := omega) only [fa_lit0, xI_le_T, xI_le_F, xI_lt_T, xI_lt_F, xI_eq_T, xI_eq_F, xN_a, xN_b, xN_c, xN_d, xN_e, xN_f, xN_g, xN_h, xI_add, xI_mul, xI_sub, xI_tn, xI_in, xI_ofNat, gi_si_eq, gi_n1, gi_n2, gl_sl_eq, gl_n1, gl_n2, gi_sl, gl_si, forall_eq, true_implies, false_implies, not_true_eq_false, not_false_eq_true, and_true, true_and, implies_true, and_self]
    exact h2 q M3 s13 w3
/-- a class's way through sets, kept between rounds -/
def EB (C : Nat → Nat → Nat) (F : Nat → Nat) (M M' : Mm) : Prop := Sm (SB 3) M M' ∧ CW C M' ∧ FlB F M' 61
def EM (C : Nat → Nat → Nat) (F : Nat → Nat) (M M' : Mm) : Prop := Sm (SM 1) M M' ∧ MW C M' ∧ FM F M' 0
theorem EB.next {C : Nat → Nat → Nat} {F : Nat → Nat} {M M1 M2 : Mm} (h : EB C F M M1) (s : Sm (SB 3) M1 M2) (w : CW C M2) : EB C F M M2 := ⟨h.1.trans s, w, h.2.2.sm s (fun b => by unfold SB; omega)⟩
theorem EM.next {C : Nat → Nat → Nat} {F : Nat → Nat} {M M1 M2 : Mm} (h : EM C F M M1) (s : Sm (SM 1) M1 M2) (w : MW C M2) : EM C F M M2 := ⟨h.1.trans s, w, h.2.2.sm s (fun b q1 q2 => by unfold SM; omega)⟩
/-- told, and else nothing that stays -/
theorem told_fin {C : Nat → Nat → Nat} {F : Nat → Nat} {D : Nat} {L T N V : Nat → Nat → Nat} {KL : Nat → Nat → Nat → Nat} {M M1 M2 : Mm} {x : Int32} (h : Rel RDel M) (hd : Sta C F D L T N V KL M) (b : EB C F M M1) (m : EM C F (si M1 0 13 x) M2) : Rel RDel (si M2 312 2 x) := by
  have s1 : Sm (fun a b => SB 3 a b ∨ (a = 0 ∧ b = 13)) M (si M1 0 13 x) := (b.1.mono (fun a b w => Or.inl w)).wi (Or.inr ⟨rfl, rfl⟩)
  have s2 : Sm (fun a b => SM 1 a b ∨ (a = 312 ∧ b = 2)) (si M1 0 13 x) (si M2 312 2 x) := (m.1.mono (fun a b w => Or.inl w)).wi (Or.inr ⟨rfl, rfl⟩)
  have s3 : Sm (fun a b => SB 3 a b ∨ (a = 0 ∧ b = 13) ∨ SM 1 a b ∨ (a = 312 ∧ b = 2)) M (si M2 312 2 x) := (s1.mono (fun a b w => by rcases w with w | w; exact Or.inl w; exact Or.inr (Or.inl w))).trans (s2.mono (fun a b w => Or.inr (Or.inr w)))
  refine Rel.fin h hd (s3.mono (fun a b w => ?_)) (fun _ => ?_) ?_ (tld2 ?_) ?_
  · unfold SB SM at w; unfold Asw; omega
  · exact (b.2.1.2.2.sm (S := fun a _ => a = 0) ((Sm.refl _ M1).wi rfl) (fun b => by omega)).sm s2 (fun b => by unfold SM; omega)
  · exact h.1.sm s3 (fun a b w => by unfold SB SM; omega)
  · rw [m.1.g (by unfold SM; omega)]; exact gi_si_eq _ _ _ _
  · exact h.2.2.2.2.2.1.sm s3 (fun a b w => by unfold SB SM; omega)
theorem aside_fin {C : Nat → Nat → Nat} {F : Nat → Nat} {D : Nat} {L T N V : Nat → Nat → Nat} {KL : Nat → Nat → Nat → Nat} {M M1 M2 : Mm} (h : Rel RDel M) (hd : Sta C F D L T N V KL M) (b : EB C F M M1) (m : EM C F M1 M2) : Rel RDel M2 := by
  have s3 : Sm (fun a b => SB 3 a b ∨ SM 1 a b) M M2 := (b.1.mono (fun a b w => Or.inl w)).trans (m.1.mono (fun a b w => Or.inr w))
  refine Rel.fin h hd (s3.mono (fun a b w => ?_)) (fun _ => ?_) ?_ ?_ ?_
  · unfold SB SM at w; unfold Asw; omega
  · exact b.2.1.2.2.sm m.1 (fun b => by unfold SM; omega)
  · exact h.1.sm s3 (fun a b w => by unfold SB SM; omega)
  · exact h.2.2.2.2.1.sm s3 (by unfold SB SM; omega) (by unfold SB SM; omega)
  · exact h.2.2.2.2.2.1.sm s3 (fun a b w => by unfold SB SM; omega)
theorem EM_t {C : Nat → Nat → Nat} {F : Nat → Nat} {M1 : Mm} {x : Int32} (w : MW C M1) (f : FM F M1 0) : EM C F (si M1 0 13 x) (si M1 0 13 x) := ⟨Sm.refl _ _, w0 w, f0 f⟩
def fN (C : Nat → Nat → Nat) (F : Nat → Nat) (R : Nat → Int32) : Nat → Nat
  | 0 => 0
  | s + 1 => fN C F R s + (if ft C F R s then 1 else 0)
def fF (C : Nat → Nat → Nat) (F : Nat → Nat) (R : Nat → Int32) : Nat → Int32
  | 0 => -nI 9
  | s + 1 => if ft C F R s ∧ fN C F R s = 0 then nI s else fF C F R s
theorem fF_inv (C : Nat → Nat → Nat) (F : Nat → Nat) (R : Nat → Int32) : ∀ s, s ≤ 32 → fN C F R s ≤ s ∧ ((fN C F R s = 0 ∧ fF C F R s = -nI 9) ∨ (0 < fN C F R s ∧ ∃ t, t < 32 ∧ fF C F R s = nI t)) := by
  intro s
  induction s with
  | zero => intro _; exact ⟨Nat.le_refl _, Or.inl ⟨rfl, rfl⟩⟩
  | succ s ih =>
    intro hs
    obtain ⟨q1, q2⟩ := ih (by omega)
    unfold fN fF
    by_cases c : ft C F R s
    · rw [if_pos c]
      rcases q2 with ⟨v1, v2⟩ | ⟨v1, v2⟩
      · rw [if_pos ⟨c, v1⟩]
        exact ⟨by omega, Or.inr ⟨by omega, s, by omega, rfl⟩⟩
      · rw [if_neg (fun w => by omega)]
        exact ⟨by omega, Or.inr ⟨by omega, v2⟩⟩
    · rw [if_neg c, if_neg (fun w => c w.1)]
      exact ⟨by omega, q2⟩
theorem op_fits {a1 : Int32} {M : Mm} (h : Rel RDel M) : wp_B_fits a1 M (fun r M1 => wp_M_fits a1 M1 (fun r2 M2 => r = r2 ∧ Rel RDel M2)) := by
  obtain ⟨C, F, D, L, T, N, V, KL, hd⟩ := h.2.2.2.2.2.2.out
  obtain ⟨hC, hB, hW, hO, hF, hG, hcw⟩ := hd.parts
  have hn := hC.1
  have h2n := p5 hn
  have h60 : F 30 ≤ 60 := Nat.le_trans hd.2.2.1 hd.2.2.2.1.1
  unfold wp_B_fits
  rcases armRow h hd a1 with ⟨e, M1, M2, e1, e2, q1, q2, hr⟩ | ⟨r, hr, rfl, hp, e5, e314, hR, q1, q2⟩
  · refine q1 _ ?_
    simp only [e2, not_false_eq_true, true_implies, false_implies, true_and]
    unfold wp_M_fits
    refine q2 _ ?_
    simp only [e1, not_false_eq_true, true_implies, false_implies, true_and]
    exact hr
  · refine q1 _ ?_
    simp (disch := omega) only [fa_lit0, xI_le_T, xI_le_F, xI_lt_T, xI_lt_F, xI_eq_T, xI_eq_F, xN_a, xN_b, xN_c, xN_d, xN_e, xN_f, xN_g, xN_h, xI_add, xI_mul, xI_sub, xI_tn, xI_in, xI_ofNat, gi_si_eq, gi_n1, gi_n2, gl_sl_eq, gl_n1, gl_n2, gi_sl, gl_si, forall_eq, true_implies, false_implies, not_true_eq_false, not_false_eq_true, and_true, true_and, implies_true, and_self]
    have key : ∀ (Q : Int32 → Mm → Prop), (∀ M', EB C F M M' → Q (nI (fN C F (fun i => gi M (7 + r) i) (2 ^ C 0 0))) (si M' 0 13 (fF C F (fun i => gi M (7 + r) i) (2 ^ C 0 0)))) → ∀ (d m : Nat), m + d = 2 ^ C 0 0 → ∀ M1, EB C F M M1 → lp_B_fits_21 (nI r) Q (d + 1) (nI (fN C F (fun i => gi M (7 + r) i) m)) (fF C F (fun i => gi M (7 + r) i) m) (nI m) M1 := by
      intro Q hQ d
      induction d with
      | zero =>
        intro m hm M1 b1
        have hm : m = 2 ^ C 0 0 := by omega
        subst hm
        show k_B_fits_21 (nI r) Q _ _ _ _ M1
        unfold k_B_fits_21
        refine B_sets hC b1.2.1.2.1 ?_
        simp (disch := omega) only [fa_lit0, xI_le_T, xI_le_F, xI_lt_T, xI_lt_F, xI_eq_T, xI_eq_F, xN_a, xN_b, xN_c, xN_d, xN_e, xN_f, xN_g, xN_h, xI_add, xI_mul, xI_sub, xI_tn, xI_in, xI_ofNat, gi_si_eq, gi_n1, gi_n2, gl_sl_eq, gl_n1, gl_n2, gi_sl, gl_si, forall_eq, true_implies, false_implies, not_true_eq_false, not_false_eq_true, and_true, true_and, implies_true, and_self]
        exact hQ M1 b1
      | succ d ih =>
        intro m hm M1 b1
        obtain ⟨i1, i2⟩ := fF_inv C F (fun i => gi M (7 + r) i) m (by omega)
        have ih1 := ih (m + 1) (by omega)
        rw [show fN C F (fun i => gi M (7 + r) i) (m + 1) = fN C F (fun i => gi M (7 + r) i) m + (if ft C F (fun i => gi M (7 + r) i) m then 1 else 0) from rfl, show fF C F (fun i => gi M (7 + r) i) (m + 1) = (if ft C F (fun i => gi M (7 + r) i) m ∧ fN C F (fun i => gi M (7 + r) i) m = 0 then nI m else fF C F (fun i => gi M (7 + r) i) m) from rfl] at ih1
        show k_B_fits_21 (nI r) Q _ _ _ _ M1
        unfold k_B_fits_21
        refine B_sets hC b1.2.1.2.1 ?_
        simp (disch := omega) only [fa_lit0, xI_le_T, xI_le_F, xI_lt_T, xI_lt_F, xI_eq_T, xI_eq_F, xN_a, xN_b, xN_c, xN_d, xN_e, xN_f, xN_g, xN_h, xI_add, xI_mul, xI_sub, xI_tn, xI_in, xI_ofNat, gi_si_eq, gi_n1, gi_n2, gl_sl_eq, gl_n1, gl_n2, gi_sl, gl_si, forall_eq, true_implies, false_implies, not_true_eq_false, not_false_eq_true, and_true, true_and, implies_true, and_self]
        refine B_fit b1.2.1 hO h60 b1.2.2 hr ((b1.1.g (by unfold SB; omega)).trans e5) (R := fun i => gi M (7 + r) i) (fun i hi => b1.1.g (by unfold SB; omega)) (by omega) ?_ ?_
        · intro c M2 s2 w2
          have hD := lt_32 (ssD_lt (C := C) (s := m) (F := F) (C 0 0) hn) hn
          rw [if_pos c] at ih1
          rcases i2 with ⟨v1, v2⟩ | ⟨v1, t, ht, v2⟩
          · rw [if_pos ⟨c, v1⟩] at ih1
            simp (disch := omega) only [fa_lit0, xI_le_T, xI_le_F, xI_lt_T, xI_lt_F, xI_eq_T, xI_eq_F, xN_a, xN_b, xN_c, xN_d, xN_e, xN_f, xN_g, xN_h, xI_add, xI_mul, xI_sub, xI_tn, xI_in, xI_ofNat, gi_si_eq, gi_n1, gi_n2, gl_sl_eq, gl_n1, gl_n2, gi_sl, gl_si, forall_eq, true_implies, false_implies, not_true_eq_false, not_false_eq_true, and_true, true_and, implies_true, and_self, v2, k_B_fits_62, k_B_fits_64]
            exact ih1 M2 (b1.next s2 w2)
          · rw [if_neg (fun w => by omega), v2] at ih1
            simp (disch := omega) only [fa_lit0, xI_le_T, xI_le_F, xI_lt_T, xI_lt_F, xI_eq_T, xI_eq_F, xN_a, xN_b, xN_c, xN_d, xN_e, xN_f, xN_g, xN_h, xI_add, xI_mul, xI_sub, xI_tn, xI_in, xI_ofNat, gi_si_eq, gi_n1, gi_n2, gl_sl_eq, gl_n1, gl_n2, gi_sl, gl_si, forall_eq, true_implies, false_implies, not_true_eq_false, not_false_eq_true, and_true, true_and, implies_true, and_self, v2, k_B_fits_62, k_B_fits_64]
            exact ih1 M2 (b1.next s2 w2)
        · intro c M2 s2 w2
          rw [if_neg c, if_neg (fun w => c w.1), Nat.add_zero] at ih1
          simp (disch := omega) only [fa_lit0, xI_le_T, xI_le_F, xI_lt_T, xI_lt_F, xI_eq_T, xI_eq_F, xN_a, xN_b, xN_c, xN_d, xN_e, xN_f, xN_g, xN_h, xI_add, xI_mul, xI_sub, xI_tn, xI_in, xI_ofNat, gi_si_eq, gi_n1, gi_n2, gl_sl_eq, gl_n1, gl_n2, gi_sl, gl_si, forall_eq, true_implies, false_implies, not_true_eq_false, not_false_eq_true, and_true, true_and, implies_true, and_self, k_B_fits_64]
          exact ih1 M2 (b1.next s2 w2)
    refine ⟨_, key _ ?_ (2 ^ C 0 0) 0 (by omega) M ⟨Sm.refl _ M, hcw hp, hF⟩⟩
    intro M1 b1
    have s0 : Sm (fun a b => SB 3 a b ∨ (a = 0 ∧ b = 13)) M (si M1 0 13 (fF C F (fun i => gi M (7 + r) i) (2 ^ C 0 0))) := (b1.1.mono (fun a b w => Or.inl w)).wi (Or.inr ⟨rfl, rfl⟩)
    have m1 : EM C F (si M1 0 13 (fF C F (fun i => gi M (7 + r) i) (2 ^ C 0 0))) (si M1 0 13 (fF C F (fun i => gi M (7 + r) i) (2 ^ C 0 0))) := EM_t (hW.sm b1.1 (fun a b w => by unfold SB; omega)) (hG.sm b1.1 (fun b w1 w2 => by unfold SB; omega))
    have hR' : ∀ i, i < C 0 0 → gi (si M1 0 13 (fF C F (fun i => gi M (7 + r) i) (2 ^ C 0 0))) 315 (40 * r + i) = gi M (7 + r) i := fun i hi => (s0.g (by unfold SB; omega)).trans (hR i hi).symm
    have e314' := (s0.g (a := 314) (b := r) (by unfold SB; omega)).trans e314
    unfold wp_M_fits
    refine q2 _ m1.2.1.2.1 e314' _ ?_
    simp (disch := omega) only [fa_lit0, xI_le_T, xI_le_F, xI_lt_T, xI_lt_F, xI_eq_T, xI_eq_F, xN_a, xN_b, xN_c, xN_d, xN_e, xN_f, xN_g, xN_h, xI_add, xI_mul, xI_sub, xI_tn, xI_in, xI_ofNat, gi_si_eq, gi_n1, gi_n2, gl_sl_eq, gl_n1, gl_n2, gi_sl, gl_si, forall_eq, true_implies, false_implies, not_true_eq_false, not_false_eq_true, and_true, true_and, implies_true, and_self]
    have keyM : ∀ (Q : Int32 → Mm → Prop) (K : Int32 → Int32 → Mm → Prop) (M0 : Mm), (∀ i, i < C 0 0 → gi M0 315 (40 * r + i) = gi M (7 + r) i) → (∀ M', EM C F M0 M' → K (nI (fN C F (fun i => gi M (7 + r) i) (2 ^ C 0 0))) (fF C F (fun i => gi M (7 + r) i) (2 ^ C 0 0)) M') → ∀ (d m : Nat), m + d = 2 ^ C 0 0 → ∀ M1, EM C F M0 M1 → lp_M_fits_21 (nI r) Q K (d + 1) (nI (fN C F (fun i => gi M (7 + r) i) m)) (fF C F (fun i => gi M (7 + r) i) m) (nI m) M1 := by
      intro Q K M0 hr0 hQ d
      induction d with
      | zero =>
        intro m hm M1 b1
        have hm : m = 2 ^ C 0 0 := by omega
        subst hm
        show k_M_fits_21 (nI r) Q _ K _ _ _ M1
        unfold k_M_fits_21
        refine M_sets b1.2.1 ?_
        simp (disch := omega) only [fa_lit0, xI_le_T, xI_le_F, xI_lt_T, xI_lt_F, xI_eq_T, xI_eq_F, xN_a, xN_b, xN_c, xN_d, xN_e, xN_f, xN_g, xN_h, xI_add, xI_mul, xI_sub, xI_tn, xI_in, xI_ofNat, gi_si_eq, gi_n1, gi_n2, gl_sl_eq, gl_n1, gl_n2, gi_sl, gl_si, forall_eq, true_implies, false_implies, not_true_eq_false, not_false_eq_true, and_true, true_and, implies_true, and_self]
        exact hQ M1 b1
      | succ d ih =>
        intro m hm M1 b1
        obtain ⟨i1, i2⟩ := fF_inv C F (fun i => gi M (7 + r) i) m (by omega)
        have ih1 := ih (m + 1) (by omega)
        rw [show fN C F (fun i => gi M (7 + r) i) (m + 1) = fN C F (fun i => gi M (7 + r) i) m + (if ft C F (fun i => gi M (7 + r) i) m then 1 else 0) from rfl, show fF C F (fun i => gi M (7 + r) i) (m + 1) = (if ft C F (fun i => gi M (7 + r) i) m ∧ fN C F (fun i => gi M (7 + r) i) m = 0 then nI m else fF C F (fun i => gi M (7 + r) i) m) from rfl] at ih1
        show k_M_fits_21 (nI r) Q _ K _ _ _ M1
        unfold k_M_fits_21
        refine M_sets b1.2.1 ?_
        simp (disch := omega) only [fa_lit0, xI_le_T, xI_le_F, xI_lt_T, xI_lt_F, xI_eq_T, xI_eq_F, xN_a, xN_b, xN_c, xN_d, xN_e, xN_f, xN_g, xN_h, xI_add, xI_mul, xI_sub, xI_tn, xI_in, xI_ofNat, gi_si_eq, gi_n1, gi_n2, gl_sl_eq, gl_n1, gl_n2, gi_sl, gl_si, forall_eq, true_implies, false_implies, not_true_eq_false, not_false_eq_true, and_true, true_and, implies_true, and_self]
        refine M_fit b1.2.1 hO h60 b1.2.2 hr (R := fun i => gi M (7 + r) i) (fun i hi => (b1.1.g (by unfold SM; omega)).trans (hr0 i hi)) (by omega) ?_ ?_
        · intro c M2 s2 w2
          have hD := lt_32 (ssD_lt (C := C) (s := m) (F := F) (C 0 0) hn) hn
          rw [if_pos c] at ih1
          rcases i2 with ⟨v1, v2⟩ | ⟨v1, t, ht, v2⟩
          · rw [if_pos ⟨c, v1⟩] at ih1
            rw [v1] at ih1
            simp (disch := omega) only [fa_lit0, xI_le_T, xI_le_F, xI_lt_T, xI_lt_F, xI_eq_T, xI_eq_F, xN_a, xN_b, xN_c, xN_d, xN_e, xN_f, xN_g, xN_h, xI_add, xI_mul, xI_sub, xI_tn, xI_in, xI_ofNat, gi_si_eq, gi_n1, gi_n2, gl_sl_eq, gl_n1, gl_n2, gi_sl, gl_si, forall_eq, true_implies, false_implies, not_true_eq_false, not_false_eq_true, and_true, true_and, implies_true, and_self, v1, k_M_fits_47, k_M_fits_65, k_M_fits_78]
            exact ih1 M2 (b1.next s2 w2)
          · rw [if_neg (fun w => by omega)] at ih1
            simp (disch := omega) only [fa_lit0, xI_le_T, xI_le_F, xI_lt_T, xI_lt_F, xI_eq_T, xI_eq_F, xN_a, xN_b, xN_c, xN_d, xN_e, xN_f, xN_g, xN_h, xI_add, xI_mul, xI_sub, xI_tn, xI_in, xI_ofNat, gi_si_eq, gi_n1, gi_n2, gl_sl_eq, gl_n1, gl_n2, gi_sl, gl_si, forall_eq, true_implies, false_implies, not_true_eq_false, not_false_eq_true, and_true, true_and, implies_true, and_self, k_M_fits_47, k_M_fits_63, k_M_fits_65, k_M_fits_78]
            exact ih1 M2 (b1.next s2 w2)
        · intro c M2 s2 w2
          rw [if_neg c, if_neg (fun w => c w.1)] at ih1
          simp (disch := omega) only [fa_lit0, xI_le_T, xI_le_F, xI_lt_T, xI_lt_F, xI_eq_T, xI_eq_F, xN_a, xN_b, xN_c, xN_d, xN_e, xN_f, xN_g, xN_h, xI_add, xI_mul, xI_sub, xI_tn, xI_in, xI_ofNat, gi_si_eq, gi_n1, gi_n2, gl_sl_eq, gl_n1, gl_n2, gi_sl, gl_si, forall_eq, true_implies, false_implies, not_true_eq_false, not_false_eq_true, and_true, true_and, implies_true, and_self, k_M_fits_47, k_M_fits_63, k_M_fits_65, k_M_fits_78]
          exact ih1 M2 (b1.next s2 w2)
    refine ⟨_, keyM _ _ _ hR' ?_ (2 ^ C 0 0) 0 (by omega) _ m1⟩
    intro M2 m2
    simp (disch := omega) only [fa_lit0, xI_le_T, xI_le_F, xI_lt_T, xI_lt_F, xI_eq_T, xI_eq_F, xN_a, xN_b, xN_c, xN_d, xN_e, xN_f, xN_g, xN_h, xI_add, xI_mul, xI_sub, xI_tn, xI_in, xI_ofNat, gi_si_eq, gi_n1, gi_n2, gl_sl_eq, gl_n1, gl_n2, gi_sl, gl_si, forall_eq, true_implies, false_implies, not_true_eq_false, not_false_eq_true, and_true, true_and, implies_true, and_self, wp_M_tells]
    exact told_fin h hd b1 m2
