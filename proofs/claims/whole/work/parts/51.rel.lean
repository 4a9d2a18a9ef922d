/-! how class (cells 0 .. 311) and reference (312 ..) belong together; RD: deltas, deeds, kept ones -/
def szOk (x : Int32) (n : Nat) : Prop := x = -nI 1 ∨ ∃ m, m ≤ n ∧ x = nI m
def Rrow (M : Mm) : Prop := ∀ r, r < 6 → gi M 5 r = gi M 314 r ∧ szOk (gi M 314 r) 40 ∧ ∀ i m, gi M 314 r = nI m → m ≤ 40 → i < m → gi M (7 + r) i = gi M 315 (40 * r + i)
def Rtxt (M : Mm) : Prop := ∀ t, t < 4 → gi M 14 t = gi M 317 t ∧ szOk (gi M 317 t) 60 ∧ ∀ i m, gi M 317 t = nI m → m ≤ 60 → i < m → gi M (16 + t) i = gi M 318 (60 * t + i)
def Rcst (M : Mm) : Prop := gi M 4 0 = nI 40 ∧ gi M 13 0 = nI 60 ∧ gi M 50 0 = nI 0 ∧ gl M 49 0 = 0
def Rfnd (M : Mm) : Prop := gi M 0 12 = gi M 312 0 ∧ ∀ f, f < 6 → gi M 1 f = gi M 313 f
def Rtld (M : Mm) : Prop := gi M 0 13 = gi M 312 2
def Rchn (M : Mm) : Prop := gl M 0 14 = gl M 312 3 ∧ gl M 0 15 = gl M 312 4
/-- the places that the delta's own relation looks at -/
def Dset (k j : Nat) : Prop := (k = 20 ∧ (j = 7 ∨ j = 8)) ∨ (21 ≤ k ∧ k ≤ 27) ∨ (54 ≤ k ∧ k < 312) ∨ (k = 312 ∧ (j = 10 ∨ j = 11 ∨ j = 28)) ∨ (319 ≤ k ∧ k ≤ 324) ∨ (k = 327 ∧ j < 31) ∨ (329 ≤ k ∧ k ≤ 334)
def Mono (RD : Mm → Prop) : Prop := ∀ M M' : Mm, (∀ k j, Dset k j → gi M' k j = gi M k j ∧ gl M' k j = gl M k j) → RD M → RD M'
def Rel (RD : Mm → Prop) (M : Mm) : Prop := Rrow M ∧ Rtxt M ∧ Rcst M ∧ Rfnd M ∧ Rtld M ∧ Rchn M ∧ RD M
/-- a change at places that nothing of the relation but (perhaps) some parts looks at -/
theorem Rrow.keep {M M' : Mm} (h : Rrow M) (e : ∀ k j, (k = 5 ∨ k = 314 ∨ k = 315 ∨ (7 ≤ k ∧ k ≤ 12)) → gi M' k j = gi M k j) : Rrow M' := by
  intro r hr
  obtain ⟨h1, h2, h3⟩ := h r hr
  rw [e 5 r (by omega), e 314 r (by omega)]
  refine ⟨h1, h2, fun i m hm h4 h5 => ?_⟩
  rw [e (7 + r) i (by omega), e 315 _ (by omega)]
  exact h3 i m hm h4 h5
theorem Rtxt.keep {M M' : Mm} (h : Rtxt M) (e : ∀ k j, (k = 14 ∨ k = 317 ∨ k = 318 ∨ (16 ≤ k ∧ k ≤ 19)) → gi M' k j = gi M k j) : Rtxt M' := by
  intro r hr
  obtain ⟨h1, h2, h3⟩ := h r hr
  rw [e 14 r (by omega), e 317 r (by omega)]
  refine ⟨h1, h2, fun i m hm h4 h5 => ?_⟩
  rw [e (16 + r) i (by omega), e 318 _ (by omega)]
  exact h3 i m hm h4 h5
theorem Rcst.keep {M M' : Mm} (h : Rcst M) (e : ∀ k, (k = 4 ∨ k = 13 ∨ k = 50) → gi M' k 0 = gi M k 0) (e2 : gl M' 49 0 = gl M 49 0) : Rcst M' := by
  unfold Rcst
  rw [e 4 (by omega), e 13 (by omega), e 50 (by omega), e2]
  exact h
theorem Rfnd.keep {M M' : Mm} (h : Rfnd M) (e : ∀ k j, ((k = 0 ∧ j = 12) ∨ (k = 312 ∧ j = 0) ∨ k = 1 ∨ k = 313) → gi M' k j = gi M k j) : Rfnd M' := by
  refine ⟨?_, fun f hf => ?_⟩
  · rw [e 0 12 (by omega), e 312 0 (by omega)]; exact h.1
  · rw [e 1 f (by omega), e 313 f (by omega)]; exact h.2 f hf
theorem Rtld.keep {M M' : Mm} (h : Rtld M) (e1 : gi M' 0 13 = gi M 0 13) (e2 : gi M' 312 2 = gi M 312 2) : Rtld M' := by
  unfold Rtld
  rw [e1, e2]
  exact h
theorem Rchn.keep {M M' : Mm} (h : Rchn M) (e : ∀ k j, ((k = 0 ∧ (j = 14 ∨ j = 15)) ∨ (k = 312 ∧ (j = 3 ∨ j = 4))) → gl M' k j = gl M k j) : Rchn M' := by
  unfold Rchn
  rw [e 0 14 (by omega), e 0 15 (by omega), e 312 3 (by omega), e 312 4 (by omega)]
  exact h
/-- both have met finding f -/
theorem find_pair {RD : Mm → Prop} (hRD : Mono RD) {M : Mm} (h : Rel RD M) {f : Nat} (hf : f < 6) :
    Rel RD (si (si (si (si M 0 12 (nI f)) 1 f (gi M 1 f + nI 1)) 312 0 (nI f)) 313 f (gi M 313 f + nI 1)) := by
  obtain ⟨h1, h2, h3, h4, h5, h6, h7⟩ := h
  refine ⟨h1.keep ?_, h2.keep ?_, h3.keep ?_ rfl, ?_, h5.keep ?_ ?_, h6.keep ?_, hRD _ _ ?_ h7⟩
  · intro k j hk; simp (disch := omega) only [fa_lit0, xI_le_T, xI_le_F, xI_lt_T, xI_lt_F, xI_eq_T, xI_eq_F, xN_a, xN_b, xN_c, xN_d, xN_e, xN_f, xN_g, xN_h, xI_add, xI_mul, xI_sub, xI_tn, xI_in, xI_ofNat, gi_si_eq, gi_n1, gi_n2, gl_sl_eq, gl_n1, gl_n2, gi_sl, gl_si, forall_eq, true_implies, false_implies, not_true_eq_false, not_false_eq_true, and_true, true_and, implies_true, and_self]
  · intro k j hk; simp (disch := omega) only [fa_lit0, xI_le_T, xI_le_F, xI_lt_T, xI_lt_F, xI_eq_T, xI_eq_F, xN_a, xN_b, xN_c, xN_d, xN_e, xN_f, xN_g, xN_h, xI_add, xI_mul, xI_sub, xI_tn, xI_in, xI_ofNat, gi_si_eq, gi_n1, gi_n2, gl_sl_eq, gl_n1, gl_n2, gi_sl, gl_si, forall_eq, true_implies, false_implies, not_true_eq_false, not_false_eq_true, and_true, true_and, implies_true, and_self]
  · intro k hk; simp (disch := omega) only [fa_lit0, xI_le_T, xI_le_F, xI_lt_T, xI_lt_F, xI_eq_T, xI_eq_F, xN_a, xN_b, xN_c, xN_d, xN_e, xN_f, xN_g, xN_h, xI_add, xI_mul, xI_sub, xI_tn, xI_in, xI_ofNat, gi_si_eq, gi_n1, gi_n2, gl_sl_eq, gl_n1, gl_n2, gi_sl, gl_si, forall_eq, true_implies, false_implies, not_true_eq_false, not_false_eq_true, and_true, true_and, implies_true, and_self]
  · refine ⟨?_, fun g hg => ?_⟩
    · simp (disch := omega) only [fa_lit0, xI_le_T, xI_le_F, xI_lt_T, xI_lt_F, xI_eq_T, xI_eq_F, xN_a, xN_b, xN_c, xN_d, xN_e, xN_f, xN_g, xN_h, xI_add, xI_mul, xI_sub, xI_tn, xI_in, xI_ofNat, gi_si_eq, gi_n1, gi_n2, gl_sl_eq, gl_n1, gl_n2, gi_sl, gl_si, forall_eq, true_implies, false_implies, not_true_eq_false, not_false_eq_true, and_true, true_and, implies_true, and_self]
    · by_cases e : g = f
      · subst e; simp (disch := omega) only [fa_lit0, xI_le_T, xI_le_F, xI_lt_T, xI_lt_F, xI_eq_T, xI_eq_F, xN_a, xN_b, xN_c, xN_d, xN_e, xN_f, xN_g, xN_h, xI_add, xI_mul, xI_sub, xI_tn, xI_in, xI_ofNat, gi_si_eq, gi_n1, gi_n2, gl_sl_eq, gl_n1, gl_n2, gi_sl, gl_si, forall_eq, true_implies, false_implies, not_true_eq_false, not_false_eq_true, and_true, true_and, implies_true, and_self, h4.2 g hg]
      · simp (disch := omega) only [fa_lit0, xI_le_T, xI_le_F, xI_lt_T, xI_lt_F, xI_eq_T, xI_eq_F, xN_a, xN_b, xN_c, xN_d, xN_e, xN_f, xN_g, xN_h, xI_add, xI_mul, xI_sub, xI_tn, xI_in, xI_ofNat, gi_si_eq, gi_n1, gi_n2, gl_sl_eq, gl_n1, gl_n2, gi_sl, gl_si, forall_eq, true_implies, false_implies, not_true_eq_false, not_false_eq_true, and_true, true_and, implies_true, and_self, h4.2 g hg]
  · simp (disch := omega) only [fa_lit0, xI_le_T, xI_le_F, xI_lt_T, xI_lt_F, xI_eq_T, xI_eq_F, xN_a, xN_b, xN_c, xN_d, xN_e, xN_f, xN_g, xN_h, xI_add, xI_mul, xI_sub, xI_tn, xI_in, xI_ofNat, gi_si_eq, gi_n1, gi_n2, gl_sl_eq, gl_n1, gl_n2, gi_sl, gl_si, forall_eq, true_implies, false_implies, not_true_eq_false, not_false_eq_true, and_true, true_and, implies_true, and_self]
  · simp (disch := omega) only [fa_lit0, xI_le_T, xI_le_F, xI_lt_T, xI_lt_F, xI_eq_T, xI_eq_F, xN_a, xN_b, xN_c, xN_d, xN_e, xN_f, xN_g, xN_h, xI_add, xI_mul, xI_sub, xI_tn, xI_in, xI_ofNat, gi_si_eq, gi_n1, gi_n2, gl_sl_eq, gl_n1, gl_n2, gi_sl, gl_si, forall_eq, true_implies, false_implies, not_true_eq_false, not_false_eq_true, and_true, true_and, implies_true, and_self]
  · intro k j hk; simp (disch := omega) only [fa_lit0, xI_le_T, xI_le_F, xI_lt_T, xI_lt_F, xI_eq_T, xI_eq_F, xN_a, xN_b, xN_c, xN_d, xN_e, xN_f, xN_g, xN_h, xI_add, xI_mul, xI_sub, xI_tn, xI_in, xI_ofNat, gi_si_eq, gi_n1, gi_n2, gl_sl_eq, gl_n1, gl_n2, gi_sl, gl_si, forall_eq, true_implies, false_implies, not_true_eq_false, not_false_eq_true, and_true, true_and, implies_true, and_self]
  · intro k j hk
    unfold Dset at hk
    refine ⟨?_, ?_⟩
    · by_cases e : k = 312
      · subst e; simp (disch := omega) only [fa_lit0, xI_le_T, xI_le_F, xI_lt_T, xI_lt_F, xI_eq_T, xI_eq_F, xN_a, xN_b, xN_c, xN_d, xN_e, xN_f, xN_g, xN_h, xI_add, xI_mul, xI_sub, xI_tn, xI_in, xI_ofNat, gi_si_eq, gi_n1, gi_n2, gl_sl_eq, gl_n1, gl_n2, gi_sl, gl_si, forall_eq, true_implies, false_implies, not_true_eq_false, not_false_eq_true, and_true, true_and, implies_true, and_self]
      · simp (disch := omega) only [fa_lit0, xI_le_T, xI_le_F, xI_lt_T, xI_lt_F, xI_eq_T, xI_eq_F, xN_a, xN_b, xN_c, xN_d, xN_e, xN_f, xN_g, xN_h, xI_add, xI_mul, xI_sub, xI_tn, xI_in, xI_ofNat, gi_si_eq, gi_n1, gi_n2, gl_sl_eq, gl_n1, gl_n2, gi_sl, gl_si, forall_eq, true_implies, false_implies, not_true_eq_false, not_false_eq_true, and_true, true_and, implies_true, and_self]
    · simp (disch := omega) only [fa_lit0, xI_le_T, xI_le_F, xI_lt_T, xI_lt_F, xI_eq_T, xI_eq_F, xN_a, xN_b, xN_c, xN_d, xN_e, xN_f, xN_g, xN_h, xI_add, xI_mul, xI_sub, xI_tn, xI_in, xI_ofNat, gi_si_eq, gi_n1, gi_n2, gl_sl_eq, gl_n1, gl_n2, gi_sl, gl_si, forall_eq, true_implies, false_implies, not_true_eq_false, not_false_eq_true, and_true, true_and, implies_true, and_self]
