/-! the whole state, and its frame -/
def Sta (C : Nat → Nat → Nat) (F : Nat → Nat) (D : Nat) (L T N V : Nat → Nat → Nat) (KL : Nat → Nat → Nat → Nat) (M : Mm) : Prop := RC C M ∧ RF (C 0 0) F M ∧ F 30 ≤ D ∧ RLg (C 0 0) D L M ∧ RK (C 0 0) T N V KL M ∧ ∀ k, k < 3 → T k 0 = 1 → 0 < C 0 0
theorem RDel.out {M : Mm} (h : RDel M) : ∃ C F D L T N V KL, Sta C F D L T N V KL M := h
/-- places that answers in between may change -/
def Asw (a b : Nat) : Prop := (a = 0 ∧ (b = 13 ∨ b = 14 ∨ b = 15)) ∨ a = 3 ∨ a = 5 ∨ (7 ≤ a ∧ a ≤ 12) ∨ a = 27 ∨ (28 ≤ a ∧ a ≤ 53 ∧ ((a ≠ 49 ∧ a ≠ 50) ∨ b ≠ 0)) ∨ (a = 312 ∧ b ≠ 0 ∧ b ≠ 10 ∧ b ≠ 11 ∧ b ≠ 28) ∨ (314 ≤ a ∧ a ≤ 316) ∨ a = 325 ∨ a = 326 ∨ (a = 327 ∧ 31 ≤ b) ∨ a = 328 ∨ 335 ≤ a
theorem Rrow.sm {M M' : Mm} {S : Nat → Nat → Prop} (h : Rrow M) (s : Sm S M M') (q : ∀ a b, (a = 5 ∨ a = 314 ∨ a = 315 ∨ (7 ≤ a ∧ a ≤ 12)) → ¬ S a b) : Rrow M' := h.keep (fun k j hk => s.g (q k j hk))
theorem Rtld.sm {M M' : Mm} {S : Nat → Nat → Prop} (h : Rtld M) (s : Sm S M M') (q1 : ¬ S 0 13) (q2 : ¬ S 312 2) : Rtld M' := h.keep (s.g q1) (s.g q2)
theorem Rchn.sm {M M' : Mm} {S : Nat → Nat → Prop} (h : Rchn M) (s : Sm S M M') (q : ∀ a b, ((a = 0 ∧ (b = 14 ∨ b = 15)) ∨ (a = 312 ∧ (b = 3 ∨ b = 4))) → ¬ S a b) : Rchn M' := h.keep (fun k j hk => s.l (q k j hk))
theorem Sta.sm {C : Nat → Nat → Nat} {F : Nat → Nat} {D : Nat} {L T N V : Nat → Nat → Nat} {KL : Nat → Nat → Nat → Nat} {M M' : Mm} (h : Sta C F D L T N V KL M) (s : Sm Asw M M') (hs : 0 < C 0 0 → ChS C M') : Sta C F D L T N V KL M' := by
  obtain ⟨h1, h2, h3, h4, h5, h6⟩ := h
  refine ⟨?_, h2.keep (fun k j w => s.g (by unfold Asw; omega)) (s.l (by unfold Asw; omega)), h3, h4.keep (fun k j w => s.g (by unfold Asw; omega)) (fun k j _ _ => s.l (by unfold Asw; omega)), h5.keep (fun k j w => s.g (by unfold Asw; omega)) (fun k j _ _ => s.l (by unfold Asw; omega)), h6⟩
  obtain ⟨a1, a2, a3, a4⟩ := h1
  refine ⟨a1, a2.sm s (fun a b w => by unfold Asw; omega), ?_, hs⟩
  exact (MW.sm ⟨a1, a3⟩ s (fun a b w => by unfold Asw; omega)).2
theorem Rel.fin {C : Nat → Nat → Nat} {F : Nat → Nat} {D : Nat} {L T N V : Nat → Nat → Nat} {KL : Nat → Nat → Nat → Nat} {M M' : Mm} (h : Rel RDel M) (hd : Sta C F D L T N V KL M) (s : Sm Asw M M') (hs : 0 < C 0 0 → ChS C M') (hr : Rrow M') (ht : Rtld M') (hc : Rchn M') : Rel RDel M' := by
  obtain ⟨h1, h2, h3, h4, h5, h6, h7⟩ := h
  exact ⟨hr, h2.keep (fun k j w => s.g (by unfold Asw; omega)), h3.keep (fun k w => s.g (by unfold Asw; omega)) (s.l (by unfold Asw; omega)), h4.keep (fun k j w => s.g (by unfold Asw; omega)), ht, hc, C, F, D, L, T, N, V, KL, hd.sm s hs⟩
/-- what the two sides start from -/
theorem Sta.parts {C : Nat → Nat → Nat} {F : Nat → Nat} {D : Nat} {L T N V : Nat → Nat → Nat} {KL : Nat → Nat → Nat → Nat} {M : Mm} (h : Sta C F D L T N V KL M) : OkC C ∧ ChB C M ∧ MW C M ∧ OkF (C 0 0) F ∧ FlB F M 61 ∧ FM F M 0 ∧ (0 < C 0 0 → CW C M) := by
  obtain ⟨⟨a1, a2, a3, a4⟩, ⟨b1, b2, b3⟩, -⟩ := h
  refine ⟨a1, a2, ⟨a1, a3⟩, b1, b2, fun j hj => ?_, fun w => ⟨a1, a2, a4 w⟩⟩
  dsimp only
  rw [Nat.mul_zero, Nat.zero_add]
  exact b3 j hj
theorem arm_cases (a : Int32) {n : Nat} (hn : n ≤ 5) : (a < 0 ∨ nI n ≤ a) ∨ ∃ i, i < n ∧ a = nI i := by
  rcases pk_ix a (n := n) (by omega) with g | g | g
  · exact Or.inl (Or.inl g)
  · exact Or.inl (Or.inr g)
  · exact Or.inr g
theorem B_noArm {n : Nat} {M : Mm} {a : Int32} (hn : n ≤ 5) (e : gi M 20 7 = nI n) (g : a < 0 ∨ nI n ≤ a) {Q : Int32 → Mm → Prop} (h : Q (nI 0) M) : wp_Ch_hasArm 20 a M Q := by
  rcases g with g | g
  · simp (disch := omega) only [fa_lit0, xI_le_T, xI_le_F, xI_lt_T, xI_lt_F, xI_eq_T, xI_eq_F, xN_a, xN_b, xN_c, xN_d, xN_e, xN_f, xN_g, xN_h, xI_add, xI_mul, xI_sub, xI_tn, xI_in, xI_ofNat, gi_si_eq, gi_n1, gi_n2, gl_sl_eq, gl_n1, gl_n2, gi_sl, gl_si, forall_eq, true_implies, false_implies, not_true_eq_false, not_false_eq_true, and_true, true_and, implies_true, and_self, wp_Ch_hasArm, ng_a g]; exact h
  · simp (disch := omega) only [fa_lit0, xI_le_T, xI_le_F, xI_lt_T, xI_lt_F, xI_eq_T, xI_eq_F, xN_a, xN_b, xN_c, xN_d, xN_e, xN_f, xN_g, xN_h, xI_add, xI_mul, xI_sub, xI_tn, xI_in, xI_ofNat, gi_si_eq, gi_n1, gi_n2, gl_sl_eq, gl_n1, gl_n2, gi_sl, gl_si, forall_eq, true_implies, false_implies, not_true_eq_false, not_false_eq_true, and_true, true_and, implies_true, and_self, wp_Ch_hasArm, bg_a g, bg_b g, e]; exact h
theorem B_anArm {n i : Nat} {M : Mm} (hn : n ≤ 5) (e : gi M 20 7 = nI n) (hi : i < n) {Q : Int32 → Mm → Prop} (h : Q (nI 1) M) : wp_Ch_hasArm 20 (nI i) M Q := by
  simp (disch := omega) only [fa_lit0, xI_le_T, xI_le_F, xI_lt_T, xI_lt_F, xI_eq_T, xI_eq_F, xN_a, xN_b, xN_c, xN_d, xN_e, xN_f, xN_g, xN_h, xI_add, xI_mul, xI_sub, xI_tn, xI_in, xI_ofNat, gi_si_eq, gi_n1, gi_n2, gl_sl_eq, gl_n1, gl_n2, gi_sl, gl_si, forall_eq, true_implies, false_implies, not_true_eq_false, not_false_eq_true, and_true, true_and, implies_true, and_self, wp_Ch_hasArm, e]; exact h
theorem M_noArm {n : Nat} {M : Mm} {a : Int32} (hn : n ≤ 5) (e : gi M 312 10 = nI n) (g : a < 0 ∨ nI n ≤ a) {Q : Int32 → Mm → Prop} (h : Q (nI 0) M) : wp_M_isArm a M Q := by
  rcases g with g | g
  · simp (disch := omega) only [fa_lit0, xI_le_T, xI_le_F, xI_lt_T, xI_lt_F, xI_eq_T, xI_eq_F, xN_a, xN_b, xN_c, xN_d, xN_e, xN_f, xN_g, xN_h, xI_add, xI_mul, xI_sub, xI_tn, xI_in, xI_ofNat, gi_si_eq, gi_n1, gi_n2, gl_sl_eq, gl_n1, gl_n2, gi_sl, gl_si, forall_eq, true_implies, false_implies, not_true_eq_false, not_false_eq_true, and_true, true_and, implies_true, and_self, wp_M_isArm, wp_M_in, ng_a g, zb_0]; exact h
  · by_cases w : n = 0
    · subst w
      have e1 : nI 0 - nI 1 = -nI 1 := by decide
      have e2 : (-nI 1 < a) = True := eq_true (by
        rw [Int32.le_iff_toInt_le] at g
        rw [Int32.lt_iff_toInt_lt]
        have g1 : (nI 0).toInt = 0 := rfl
        have g2 : (-nI 1).toInt = -1 := rfl
        omega)
      simp (disch := omega) only [fa_lit0, xI_le_T, xI_le_F, xI_lt_T, xI_lt_F, xI_eq_T, xI_eq_F, xN_a, xN_b, xN_c, xN_d, xN_e, xN_f, xN_g, xN_h, xI_add, xI_mul, xI_sub, xI_tn, xI_in, xI_ofNat, gi_si_eq, gi_n1, gi_n2, gl_sl_eq, gl_n1, gl_n2, gi_sl, gl_si, forall_eq, true_implies, false_implies, not_true_eq_false, not_false_eq_true, and_true, true_and, implies_true, and_self, wp_M_isArm, wp_M_in, bg_a g, e, e1, e2, zb_0]; exact h
    · simp (disch := omega) only [fa_lit0, xI_le_T, xI_le_F, xI_lt_T, xI_lt_F, xI_eq_T, xI_eq_F, xN_a, xN_b, xN_c, xN_d, xN_e, xN_f, xN_g, xN_h, xI_add, xI_mul, xI_sub, xI_tn, xI_in, xI_ofNat, gi_si_eq, gi_n1, gi_n2, gl_sl_eq, gl_n1, gl_n2, gi_sl, gl_si, forall_eq, true_implies, false_implies, not_true_eq_false, not_false_eq_true, and_true, true_and, implies_true, and_self, wp_M_isArm, wp_M_in, bg_a g, bg_b g, bg_c g, e, zb_0]; exact h
theorem M_anArm {n i : Nat} {M : Mm} (hn : n ≤ 5) (e : gi M 312 10 = nI n) (hi : i < n) {Q : Int32 → Mm → Prop} (h : Q (nI 1) M) : wp_M_isArm (nI i) M Q := by
  simp (disch := omega) only [fa_lit0, xI_le_T, xI_le_F, xI_lt_T, xI_lt_F, xI_eq_T, xI_eq_F, xN_a, xN_b, xN_c, xN_d, xN_e, xN_f, xN_g, xN_h, xI_add, xI_mul, xI_sub, xI_tn, xI_in, xI_ofNat, gi_si_eq, gi_n1, gi_n2, gl_sl_eq, gl_n1, gl_n2, gi_sl, gl_si, forall_eq, true_implies, false_implies, not_true_eq_false, not_false_eq_true, and_true, true_and, implies_true, and_self, wp_M_isArm, wp_M_in, e, zb_1]; exact h
theorem sw7 : ∀ w, w < 8 → ((nI w).toInt < 0 ∨ 6 < (nI w).toInt ↔ 6 < w) := by decide +kernel
theorem sw7e {w : Nat} (h : w < 8) : ((nI w).toInt < 0 ∨ 6 < (nI w).toInt) = (6 < w) := propext (sw7 w h)
theorem sw5 : ∀ w, w < 6 → 1 ≤ w → ((nI w).toInt < 1 ∨ 4 < (nI w).toInt ↔ 4 < w) := by decide +kernel
theorem sw5e {w : Nat} (h : w < 6) (h1 : 1 ≤ w) : ((nI w).toInt < 1 ∨ 4 < (nI w).toInt) = (4 < w) := propext (sw5 w h h1)
/-- what arm tells -/
def av (C : Nat → Nat → Nat) (F : Nat → Nat) (i : Nat) : Nat → Nat
  | 0 => C 1 i
  | 1 => C 2 i
  | 2 => C 3 i
  | 3 => F i
  | 4 => F (5 + i)
  | 5 => F (10 + i)
  | 6 => F (15 + i)
  | _ => may C F i
theorem B_armTells {C : Nat → Nat → Nat} {F : Nat → Nat} {M : Mm} {i w : Nat} (hC : OkC C) (hB : ChB C M) (hO : OkF (C 0 0) F) (hF : FlB F M 61) (hi : i < C 0 0) (hw : w < 8) {Q : Int32 → Mm → Prop} (h : Q (nI (av C F i w)) M) : wp_B_armTells (nI i) (nI w) M Q := by
  have hn := hC.1
  obtain ⟨k1, k2, k3, -, -, -⟩ := hB.2.2 i hi
  have lo := mk_lt hO.o
  have e3 := bs_r (s := mk F 0) (j := i) lo (by omega)
  rw [hO.ob (by omega)] at e3
  unfold wp_B_armTells
  rw [sw7e hw]
  rcases (show w = 0 ∨ w = 1 ∨ w = 2 ∨ w = 3 ∨ w = 4 ∨ w = 5 ∨ w = 6 ∨ w = 7 by omega) with e | e | e | e | e | e | e | e <;> subst e
  · simp (disch := omega) only [fa_lit0, xI_le_T, xI_le_F, xI_lt_T, xI_lt_F, xI_eq_T, xI_eq_F, xN_a, xN_b, xN_c, xN_d, xN_e, xN_f, xN_g, xN_h, xI_add, xI_mul, xI_sub, xI_tn, xI_in, xI_ofNat, gi_si_eq, gi_n1, gi_n2, gl_sl_eq, gl_n1, gl_n2, gi_sl, gl_si, forall_eq, true_implies, false_implies, not_true_eq_false, not_false_eq_true, and_true, true_and, implies_true, and_self, k1, Nat.not_lt_zero]; exact h
  · simp (disch := omega) only [fa_lit0, xI_le_T, xI_le_F, xI_lt_T, xI_lt_F, xI_eq_T, xI_eq_F, xN_a, xN_b, xN_c, xN_d, xN_e, xN_f, xN_g, xN_h, xI_add, xI_mul, xI_sub, xI_tn, xI_in, xI_ofNat, gi_si_eq, gi_n1, gi_n2, gl_sl_eq, gl_n1, gl_n2, gi_sl, gl_si, forall_eq, true_implies, false_implies, not_true_eq_false, not_false_eq_true, and_true, true_and, implies_true, and_self, k2, show ¬ 6 < 1 by omega]; exact h
  · simp (disch := omega) only [fa_lit0, xI_le_T, xI_le_F, xI_lt_T, xI_lt_F, xI_eq_T, xI_eq_F, xN_a, xN_b, xN_c, xN_d, xN_e, xN_f, xN_g, xN_h, xI_add, xI_mul, xI_sub, xI_tn, xI_in, xI_ofNat, gi_si_eq, gi_n1, gi_n2, gl_sl_eq, gl_n1, gl_n2, gi_sl, gl_si, forall_eq, true_implies, false_implies, not_true_eq_false, not_false_eq_true, and_true, true_and, implies_true, and_self, k3, show ¬ 6 < 2 by omega]; exact h
  · simp (disch := omega) only [fa_lit0, xI_le_T, xI_le_F, xI_lt_T, xI_lt_F, xI_eq_T, xI_eq_F, xN_a, xN_b, xN_c, xN_d, xN_e, xN_f, xN_g, xN_h, xI_add, xI_mul, xI_sub, xI_tn, xI_in, xI_ofNat, gi_si_eq, gi_n1, gi_n2, gl_sl_eq, gl_n1, gl_n2, gi_sl, gl_si, forall_eq, true_implies, false_implies, not_true_eq_false, not_false_eq_true, and_true, true_and, implies_true, and_self, hF.2.1, e3, show ¬ 6 < 3 by omega]; exact h
  · simp (disch := omega) only [fa_lit0, xI_le_T, xI_le_F, xI_lt_T, xI_lt_F, xI_eq_T, xI_eq_F, xN_a, xN_b, xN_c, xN_d, xN_e, xN_f, xN_g, xN_h, xI_add, xI_mul, xI_sub, xI_tn, xI_in, xI_ofNat, gi_si_eq, gi_n1, gi_n2, gl_sl_eq, gl_n1, gl_n2, gi_sl, gl_si, forall_eq, true_implies, false_implies, not_true_eq_false, not_false_eq_true, and_true, true_and, implies_true, and_self, show ¬ 6 < 4 by omega]; exact B_salt hO.s hF (by omega) h
  · simp (disch := omega) only [fa_lit0, xI_le_T, xI_le_F, xI_lt_T, xI_lt_F, xI_eq_T, xI_eq_F, xN_a, xN_b, xN_c, xN_d, xN_e, xN_f, xN_g, xN_h, xI_add, xI_mul, xI_sub, xI_tn, xI_in, xI_ofNat, gi_si_eq, gi_n1, gi_n2, gl_sl_eq, gl_n1, gl_n2, gi_sl, gl_si, forall_eq, true_implies, false_implies, not_true_eq_false, not_false_eq_true, and_true, true_and, implies_true, and_self, show ¬ 6 < 5 by omega]; exact B_silt hO.t hF (by omega) h
  · simp (disch := omega) only [fa_lit0, xI_le_T, xI_le_F, xI_lt_T, xI_lt_F, xI_eq_T, xI_eq_F, xN_a, xN_b, xN_c, xN_d, xN_e, xN_f, xN_g, xN_h, xI_add, xI_mul, xI_sub, xI_tn, xI_in, xI_ofNat, gi_si_eq, gi_n1, gi_n2, gl_sl_eq, gl_n1, gl_n2, gi_sl, gl_si, forall_eq, true_implies, false_implies, not_true_eq_false, not_false_eq_true, and_true, true_and, implies_true, and_self, show ¬ 6 < 6 by omega]; exact B_harv hO hF (by omega) h
  · simp (disch := omega) only [fa_lit0, xI_le_T, xI_le_F, xI_lt_T, xI_lt_F, xI_eq_T, xI_eq_F, xN_a, xN_b, xN_c, xN_d, xN_e, xN_f, xN_g, xN_h, xI_add, xI_mul, xI_sub, xI_tn, xI_in, xI_ofNat, gi_si_eq, gi_n1, gi_n2, gl_sl_eq, gl_n1, gl_n2, gi_sl, gl_si, forall_eq, true_implies, false_implies, not_true_eq_false, not_false_eq_true, and_true, true_and, implies_true, and_self, show 6 < 7 by omega]
    refine B_may hC hB hO hF hi ?_
    have h : Q (nI (may C F i)) M := h
    rcases (show may C F i = 0 ∨ may C F i = 1 by have := may_le C F i; omega) with v | v
    · rw [v] at h; simp (disch := omega) only [fa_lit0, xI_le_T, xI_le_F, xI_lt_T, xI_lt_F, xI_eq_T, xI_eq_F, xN_a, xN_b, xN_c, xN_d, xN_e, xN_f, xN_g, xN_h, xI_add, xI_mul, xI_sub, xI_tn, xI_in, xI_ofNat, gi_si_eq, gi_n1, gi_n2, gl_sl_eq, gl_n1, gl_n2, gi_sl, gl_si, forall_eq, true_implies, false_implies, not_true_eq_false, not_false_eq_true, and_true, true_and, implies_true, and_self, v]; exact h
    · rw [v] at h; simp (disch := omega) only [fa_lit0, xI_le_T, xI_le_F, xI_lt_T, xI_lt_F, xI_eq_T, xI_eq_F, xN_a, xN_b, xN_c, xN_d, xN_e, xN_f, xN_g, xN_h, xI_add, xI_mul, xI_sub, xI_tn, xI_in, xI_ofNat, gi_si_eq, gi_n1, gi_n2, gl_sl_eq, gl_n1, gl_n2, gi_sl, gl_si, forall_eq, true_implies, false_implies, not_true_eq_false, not_false_eq_true, and_true, true_and, implies_true, and_self, v]; exact h
theorem M_armTells {C : Nat → Nat → Nat} {F : Nat → Nat} {M : Mm} {i w : Nat} (hW : MW C M) (hO : OkF (C 0 0) F) (hF : FM F M 0) (hi : i < C 0 0) (hw : w < 8) {Q : Int32 → Mm → Prop} (h : Q (nI (av C F i w)) M) : wp_M_armTells (nI i) (nI w) M Q := by
  have hn := hW.1.1
  obtain ⟨k1, k2, k3, -, -, -⟩ := hW.2.2.2 i hi
  have rd : ∀ j, j < 31 → gi M 327 j = nI (F j) := fun j hj => by
    have := hF j hj
    dsimp only at this
    rwa [Nat.mul_zero, Nat.zero_add] at this
  unfold wp_M_armTells
  rw [sw7e hw]
  rcases (show w = 0 ∨ w = 1 ∨ w = 2 ∨ w = 3 ∨ w = 4 ∨ w = 5 ∨ w = 6 ∨ w = 7 by omega) with e | e | e | e | e | e | e | e <;> subst e
  · simp (disch := omega) only [fa_lit0, xI_le_T, xI_le_F, xI_lt_T, xI_lt_F, xI_eq_T, xI_eq_F, xN_a, xN_b, xN_c, xN_d, xN_e, xN_f, xN_g, xN_h, xI_add, xI_mul, xI_sub, xI_tn, xI_in, xI_ofNat, gi_si_eq, gi_n1, gi_n2, gl_sl_eq, gl_n1, gl_n2, gi_sl, gl_si, forall_eq, true_implies, false_implies, not_true_eq_false, not_false_eq_true, and_true, true_and, implies_true, and_self, k1, Nat.not_lt_zero]; exact h
  · simp (disch := omega) only [fa_lit0, xI_le_T, xI_le_F, xI_lt_T, xI_lt_F, xI_eq_T, xI_eq_F, xN_a, xN_b, xN_c, xN_d, xN_e, xN_f, xN_g, xN_h, xI_add, xI_mul, xI_sub, xI_tn, xI_in, xI_ofNat, gi_si_eq, gi_n1, gi_n2, gl_sl_eq, gl_n1, gl_n2, gi_sl, gl_si, forall_eq, true_implies, false_implies, not_true_eq_false, not_false_eq_true, and_true, true_and, implies_true, and_self, k2, show ¬ 6 < 1 by omega]; exact h
  · simp (disch := omega) only [fa_lit0, xI_le_T, xI_le_F, xI_lt_T, xI_lt_F, xI_eq_T, xI_eq_F, xN_a, xN_b, xN_c, xN_d, xN_e, xN_f, xN_g, xN_h, xI_add, xI_mul, xI_sub, xI_tn, xI_in, xI_ofNat, gi_si_eq, gi_n1, gi_n2, gl_sl_eq, gl_n1, gl_n2, gi_sl, gl_si, forall_eq, true_implies, false_implies, not_true_eq_false, not_false_eq_true, and_true, true_and, implies_true, and_self, k3, show ¬ 6 < 2 by omega]; exact h
  · simp (disch := omega) only [fa_lit0, xI_le_T, xI_le_F, xI_lt_T, xI_lt_F, xI_eq_T, xI_eq_F, xN_a, xN_b, xN_c, xN_d, xN_e, xN_f, xN_g, xN_h, xI_add, xI_mul, xI_sub, xI_tn, xI_in, xI_ofNat, gi_si_eq, gi_n1, gi_n2, gl_sl_eq, gl_n1, gl_n2, gi_sl, gl_si, forall_eq, true_implies, false_implies, not_true_eq_false, not_false_eq_true, and_true, true_and, implies_true, and_self, rd, show ¬ 6 < 3 by omega]; exact h
  · simp (disch := omega) only [fa_lit0, xI_le_T, xI_le_F, xI_lt_T, xI_lt_F, xI_eq_T, xI_eq_F, xN_a, xN_b, xN_c, xN_d, xN_e, xN_f, xN_g, xN_h, xI_add, xI_mul, xI_sub, xI_tn, xI_in, xI_ofNat, gi_si_eq, gi_n1, gi_n2, gl_sl_eq, gl_n1, gl_n2, gi_sl, gl_si, forall_eq, true_implies, false_implies, not_true_eq_false, not_false_eq_true, and_true, true_and, implies_true, and_self, rd, show ¬ 6 < 4 by omega]; exact h
  · simp (disch := omega) only [fa_lit0, xI_le_T, xI_le_F, xI_lt_T, xI_lt_F, xI_eq_T, xI_eq_F, xN_a, xN_b, xN_c, xN_d, xN_e, xN_f, xN_g, xN_h, xI_add, xI_mul, xI_sub, xI_tn, xI_in, xI_ofNat, gi_si_eq, gi_n1, gi_n2, gl_sl_eq, gl_n1, gl_n2, gi_sl, gl_si, forall_eq, true_implies, false_implies, not_true_eq_false, not_false_eq_true, and_true, true_and, implies_true, and_self, rd, show ¬ 6 < 5 by omega]; exact h
  · simp (disch := omega) only [fa_lit0, xI_le_T, xI_le_F, xI_lt_T, xI_lt_F, xI_eq_T, xI_eq_F, xN_a, xN_b, xN_c, xN_d, xN_e, xN_f, xN_g, xN_h, xI_add, xI_mul, xI_sub, xI_tn, xI_in, xI_ofNat, gi_si_eq, gi_n1, gi_n2, gl_sl_eq, gl_n1, gl_n2, gi_sl, gl_si, forall_eq, true_implies, false_implies, not_true_eq_false, not_false_eq_true, and_true, true_and, implies_true, and_self, rd, show ¬ 6 < 6 by omega]; exact h
  · simp (disch := omega) only [fa_lit0, xI_le_T, xI_le_F, xI_lt_T, xI_lt_F, xI_eq_T, xI_eq_F, xN_a, xN_b, xN_c, xN_d, xN_e, xN_f, xN_g, xN_h, xI_add, xI_mul, xI_sub, xI_tn, xI_in, xI_ofNat, gi_si_eq, gi_n1, gi_n2, gl_sl_eq, gl_n1, gl_n2, gi_sl, gl_si, forall_eq, true_implies, false_implies, not_true_eq_false, not_false_eq_true, and_true, true_and, implies_true, and_self, show 6 < 7 by omega]
    refine M_may hW hO hF (by omega) hi ?_
    have h : Q (nI (may C F i)) M := h
    rcases (show may C F i = 0 ∨ may C F i = 1 by have := may_le C F i; omega) with v | v
    · rw [v] at h; simp (disch := omega) only [fa_lit0, xI_le_T, xI_le_F, xI_lt_T, xI_lt_F, xI_eq_T, xI_eq_F, xN_a, xN_b, xN_c, xN_d, xN_e, xN_f, xN_g, xN_h, xI_add, xI_mul, xI_sub, xI_tn, xI_in, xI_ofNat, gi_si_eq, gi_n1, gi_n2, gl_sl_eq, gl_n1, gl_n2, gi_sl, gl_si, forall_eq, true_implies, false_implies, not_true_eq_false, not_false_eq_true, and_true, true_and, implies_true, and_self, v]; exact h
    · rw [v] at h; simp (disch := omega) only [fa_lit0, xI_le_T, xI_le_F, xI_lt_T, xI_lt_F, xI_eq_T, xI_eq_F, xN_a, xN_b, xN_c, xN_d, xN_e, xN_f, xN_g, xN_h, xI_add, xI_mul, xI_sub, xI_tn, xI_in, xI_ofNat, gi_si_eq, gi_n1, gi_n2, gl_sl_eq, gl_n1, gl_n2, gi_sl, gl_si, forall_eq, true_implies, false_implies, not_true_eq_false, not_false_eq_true, and_true, true_and, implies_true, and_self, v]; exact h
theorem w0 {C : Nat → Nat → Nat} {M : Mm} {x : Int32} (h : MW C M) : MW C (si M 0 13 x) := h.sm (S := fun a _ => a = 0) ((Sm.refl _ M).wi rfl) (by omega)
theorem f0 {F : Nat → Nat} {M : Mm} {f : Nat} {x : Int32} (h : FM F M f) : FM F (si M 0 13 x) f := h.sm (S := fun a _ => a = 0) ((Sm.refl _ M).wi rfl) (by omega)
theorem op_arm {a1 a2 : Int32} {M : Mm} (h : Rel RDel M) : wp_B_arm a1 a2 M (fun r M1 => wp_M_arm a1 a2 M1 (fun r2 M2 => r = r2 ∧ Rel RDel M2)) := by
  obtain ⟨C, F, D, L, T, N, V, KL, hd⟩ := h.2.2.2.2.2.2.out
  obtain ⟨hC, hB, hW, hO, hF, hG, -⟩ := hd.parts
  unfold wp_B_arm wp_M_arm
  rcases arm_cases a1 hC.1 with g | ⟨i, hi, rfl⟩
  · refine B_noArm hC.1 hB.1 g ?_
    simp (disch := omega) only [fa_lit0, xI_le_T, xI_le_F, xI_lt_T, xI_lt_F, xI_eq_T, xI_eq_F, xN_a, xN_b, xN_c, xN_d, xN_e, xN_f, xN_g, xN_h, xI_add, xI_mul, xI_sub, xI_tn, xI_in, xI_ofNat, gi_si_eq, gi_n1, gi_n2, gl_sl_eq, gl_n1, gl_n2, gi_sl, gl_si, forall_eq, true_implies, false_implies, not_true_eq_false, not_false_eq_true, and_true, true_and, implies_true, and_self]
    refine M_noArm hC.1 hW.2.1 g ?_
    simp (disch := omega) only [fa_lit0, xI_le_T, xI_le_F, xI_lt_T, xI_lt_F, xI_eq_T, xI_eq_F, xN_a, xN_b, xN_c, xN_d, xN_e, xN_f, xN_g, xN_h, xI_add, xI_mul, xI_sub, xI_tn, xI_in, xI_ofNat, gi_si_eq, gi_n1, gi_n2, gl_sl_eq, gl_n1, gl_n2, gi_sl, gl_si, forall_eq, true_implies, false_implies, not_true_eq_false, not_false_eq_true, and_true, true_and, implies_true, and_self]
    exact h
  · refine B_anArm hC.1 hB.1 hi ?_
    rcases pk_ix a2 (n := 8) (by omega) with g | g | ⟨w, hw, rfl⟩
    · simp (disch := omega) only [fa_lit0, xI_le_T, xI_le_F, xI_lt_T, xI_lt_F, xI_eq_T, xI_eq_F, xN_a, xN_b, xN_c, xN_d, xN_e, xN_f, xN_g, xN_h, xI_add, xI_mul, xI_sub, xI_tn, xI_in, xI_ofNat, gi_si_eq, gi_n1, gi_n2, gl_sl_eq, gl_n1, gl_n2, gi_sl, gl_si, forall_eq, true_implies, false_implies, not_true_eq_false, not_false_eq_true, and_true, true_and, implies_true, and_self, ng_a g]
      refine M_anArm hC.1 hW.2.1 hi ?_
      simp (disch := omega) only [fa_lit0, xI_le_T, xI_le_F, xI_lt_T, xI_lt_F, xI_eq_T, xI_eq_F, xN_a, xN_b, xN_c, xN_d, xN_e, xN_f, xN_g, xN_h, xI_add, xI_mul, xI_sub, xI_tn, xI_in, xI_ofNat, gi_si_eq, gi_n1, gi_n2, gl_sl_eq, gl_n1, gl_n2, gi_sl, gl_si, forall_eq, true_implies, false_implies, not_true_eq_false, not_false_eq_true, and_true, true_and, implies_true, and_self, wp_M_in, ng_a g]
      exact h
    · simp (disch := omega) only [fa_lit0, xI_le_T, xI_le_F, xI_lt_T, xI_lt_F, xI_eq_T, xI_eq_F, xN_a, xN_b, xN_c, xN_d, xN_e, xN_f, xN_g, xN_h, xI_add, xI_mul, xI_sub, xI_tn, xI_in, xI_ofNat, gi_si_eq, gi_n1, gi_n2, gl_sl_eq, gl_n1, gl_n2, gi_sl, gl_si, forall_eq, true_implies, false_implies, not_true_eq_false, not_false_eq_true, and_true, true_and, implies_true, and_self, bg_a g, bg_b g, bg_c g, bg_d g]
      refine M_anArm hC.1 hW.2.1 hi ?_
      simp (disch := omega) only [fa_lit0, xI_le_T, xI_le_F, xI_lt_T, xI_lt_F, xI_eq_T, xI_eq_F, xN_a, xN_b, xN_c, xN_d, xN_e, xN_f, xN_g, xN_h, xI_add, xI_mul, xI_sub, xI_tn, xI_in, xI_ofNat, gi_si_eq, gi_n1, gi_n2, gl_sl_eq, gl_n1, gl_n2, gi_sl, gl_si, forall_eq, true_implies, false_implies, not_true_eq_false, not_false_eq_true, and_true, true_and, implies_true, and_self, wp_M_in, bg_a g, bg_b g, bg_c g]
      exact h
    · simp (disch := omega) only [fa_lit0, xI_le_T, xI_le_F, xI_lt_T, xI_lt_F, xI_eq_T, xI_eq_F, xN_a, xN_b, xN_c, xN_d, xN_e, xN_f, xN_g, xN_h, xI_add, xI_mul, xI_sub, xI_tn, xI_in, xI_ofNat, gi_si_eq, gi_n1, gi_n2, gl_sl_eq, gl_n1, gl_n2, gi_sl, gl_si, forall_eq, true_implies, false_implies, not_true_eq_false, not_false_eq_true, and_true, true_and, implies_true, and_self]
      refine B_armTells hC hB hO hF hi hw ?_
      refine M_anArm (n := C 0 0) hC.1 ((gi_n1 (by omega)).trans hW.2.1) hi ?_
      simp (disch := omega) only [fa_lit0, xI_le_T, xI_le_F, xI_lt_T, xI_lt_F, xI_eq_T, xI_eq_F, xN_a, xN_b, xN_c, xN_d, xN_e, xN_f, xN_g, xN_h, xI_add, xI_mul, xI_sub, xI_tn, xI_in, xI_ofNat, gi_si_eq, gi_n1, gi_n2, gl_sl_eq, gl_n1, gl_n2, gi_sl, gl_si, forall_eq, true_implies, false_implies, not_true_eq_false, not_false_eq_true, and_true, true_and, implies_true, and_self, wp_M_in]
      refine M_armTells (w0 hW) hO (f0 hG) hi hw ?_
      simp (disch := omega) only [fa_lit0, xI_le_T, xI_le_F, xI_lt_T, xI_lt_F, xI_eq_T, xI_eq_F, xN_a, xN_b, xN_c, xN_d, xN_e, xN_f, xN_g, xN_h, xI_add, xI_mul, xI_sub, xI_tn, xI_in, xI_ofNat, gi_si_eq, gi_n1, gi_n2, gl_sl_eq, gl_n1, gl_n2, gi_sl, gl_si, forall_eq, true_implies, false_implies, not_true_eq_false, not_false_eq_true, and_true, true_and, implies_true, and_self, wp_M_tells]
      exact told_pair RDel_mono h
theorem M_gr {a b : Int32} {M : Mm} {Q : Int32 → Mm → Prop} (h : Q (if a ≤ b then b else a) M) : wp_M_greater a b M Q := ⟨fun w => by rwa [if_pos w] at h, fun w => by rwa [if_neg w] at h⟩
theorem B_st {a : Int32} {M : Mm} {Q : Int32 → Mm → Prop} (h : Q (if 0 < a then (a + 1) / 2 else 0) M) : wp_B_stepsOfTwo a M Q := ⟨fun w => by rwa [if_pos w] at h, fun w => by rwa [if_neg w] at h⟩
theorem mk_1 : ∀ s, s < 10 → (if 0 < nI 5 - nI s then (nI 5 - nI s + 1) / 2 else 0) = (if nI 0 ≤ (nI 6 - nI s) / nI 2 then (nI 6 - nI s) / nI 2 else nI 0) := by decide +kernel
theorem mk_2 : ∀ s, s < 10 → (if nI 0 < nI (9 - s) then nI (9 - s + 1) / nI 2 else nI 0) = nI (10 - s) / nI 2 := by decide +kernel
theorem op_mark {a1 a2 : Int32} {M : Mm} (h : Rel RDel M) : wp_B_mark a1 a2 M (fun r M1 => wp_M_mark a1 a2 M1 (fun r2 M2 => r = r2 ∧ Rel RDel M2)) := by
  obtain ⟨C, F, D, L, T, N, V, KL, hd⟩ := h.2.2.2.2.2.2.out
  obtain ⟨hC, hB, hW, hO, hF, hG, -⟩ := hd.parts
  have hn := hC.1
  have rd : ∀ j, j < 31 → gi M 327 j = nI (F j) := fun j hj => by
    have := hG j hj
    dsimp only at this
    rwa [Nat.mul_zero, Nat.zero_add] at this
  unfold wp_B_mark
  rcases arm_cases a1 hC.1 with g | ⟨i, hi, rfl⟩
  · refine B_noArm hC.1 hB.1 g ?_
    simp (disch := omega) only [fa_lit0, xI_le_T, xI_le_F, xI_lt_T, xI_lt_F, xI_eq_T, xI_eq_F, xN_a, xN_b, xN_c, xN_d, xN_e, xN_f, xN_g, xN_h, xI_add, xI_mul, xI_sub, xI_tn, xI_in, xI_ofNat, gi_si_eq, gi_n1, gi_n2, gl_sl_eq, gl_n1, gl_n2, gi_sl, gl_si, forall_eq, true_implies, false_implies, not_true_eq_false, not_false_eq_true, and_true, true_and, implies_true, and_self, wp_M_mark]
    refine M_noArm hC.1 hW.2.1 g ?_
    simp (disch := omega) only [fa_lit0, xI_le_T, xI_le_F, xI_lt_T, xI_lt_F, xI_eq_T, xI_eq_F, xN_a, xN_b, xN_c, xN_d, xN_e, xN_f, xN_g, xN_h, xI_add, xI_mul, xI_sub, xI_tn, xI_in, xI_ofNat, gi_si_eq, gi_n1, gi_n2, gl_sl_eq, gl_n1, gl_n2, gi_sl, gl_si, forall_eq, true_implies, false_implies, not_true_eq_false, not_false_eq_true, and_true, true_and, implies_true, and_self]
    exact h
  · refine B_anArm hC.1 hB.1 hi ?_
    have k1 := (hW.2.2.2 i hi).1
    have o1 := (hC.2.2 i hi).1
    have lb := mk_lt hO.b
    have lo := mk_lt hO.o
    have e3 := bs_r (s := mk F 20) (j := i) lb (by omega)
    rw [hO.bb (by omega)] at e3
    rcases pk_ix a2 (n := 6) (by omega) with g | g | ⟨w, hw, rfl⟩
    · have g1 : (a2 < nI 1) = True := ng_e g (by omega)
      simp (disch := omega) only [fa_lit0, xI_le_T, xI_le_F, xI_lt_T, xI_lt_F, xI_eq_T, xI_eq_F, xN_a, xN_b, xN_c, xN_d, xN_e, xN_f, xN_g, xN_h, xI_add, xI_mul, xI_sub, xI_tn, xI_in, xI_ofNat, gi_si_eq, gi_n1, gi_n2, gl_sl_eq, gl_n1, gl_n2, gi_sl, gl_si, forall_eq, true_implies, false_implies, not_true_eq_false, not_false_eq_true, and_true, true_and, implies_true, and_self, g1, wp_M_mark]
      refine M_anArm hC.1 hW.2.1 hi ?_
      simp (disch := omega) only [fa_lit0, xI_le_T, xI_le_F, xI_lt_T, xI_lt_F, xI_eq_T, xI_eq_F, xN_a, xN_b, xN_c, xN_d, xN_e, xN_f, xN_g, xN_h, xI_add, xI_mul, xI_sub, xI_tn, xI_in, xI_ofNat, gi_si_eq, gi_n1, gi_n2, gl_sl_eq, gl_n1, gl_n2, gi_sl, gl_si, forall_eq, true_implies, false_implies, not_true_eq_false, not_false_eq_true, and_true, true_and, implies_true, and_self, wp_M_in, g1]
      exact h
    · simp (disch := omega) only [fa_lit0, xI_le_T, xI_le_F, xI_lt_T, xI_lt_F, xI_eq_T, xI_eq_F, xN_a, xN_b, xN_c, xN_d, xN_e, xN_f, xN_g, xN_h, xI_add, xI_mul, xI_sub, xI_tn, xI_in, xI_ofNat, gi_si_eq, gi_n1, gi_n2, gl_sl_eq, gl_n1, gl_n2, gi_sl, gl_si, forall_eq, true_implies, false_implies, not_true_eq_false, not_false_eq_true, and_true, true_and, implies_true, and_self, bg_a g, bg_b g, bg_c g, bg_d g, wp_M_mark]
      refine M_anArm hC.1 hW.2.1 hi ?_
      simp (disch := omega) only [fa_lit0, xI_le_T, xI_le_F, xI_lt_T, xI_lt_F, xI_eq_T, xI_eq_F, xN_a, xN_b, xN_c, xN_d, xN_e, xN_f, xN_g, xN_h, xI_add, xI_mul, xI_sub, xI_tn, xI_in, xI_ofNat, gi_si_eq, gi_n1, gi_n2, gl_sl_eq, gl_n1, gl_n2, gi_sl, gl_si, forall_eq, true_implies, false_implies, not_true_eq_false, not_false_eq_true, and_true, true_and, implies_true, and_self, wp_M_in, bg_a g, bg_b g, bg_c g]
      exact h
    · by_cases w0 : w = 0
      · subst w0
        simp (disch := omega) only [fa_lit0, xI_le_T, xI_le_F, xI_lt_T, xI_lt_F, xI_eq_T, xI_eq_F, xN_a, xN_b, xN_c, xN_d, xN_e, xN_f, xN_g, xN_h, xI_add, xI_mul, xI_sub, xI_tn, xI_in, xI_ofNat, gi_si_eq, gi_n1, gi_n2, gl_sl_eq, gl_n1, gl_n2, gi_sl, gl_si, forall_eq, true_implies, false_implies, not_true_eq_false, not_false_eq_true, and_true, true_and, implies_true, and_self]
        refine M_anArm hC.1 hW.2.1 hi ?_
        simp (disch := omega) only [fa_lit0, xI_le_T, xI_le_F, xI_lt_T, xI_lt_F, xI_eq_T, xI_eq_F, xN_a, xN_b, xN_c, xN_d, xN_e, xN_f, xN_g, xN_h, xI_add, xI_mul, xI_sub, xI_tn, xI_in, xI_ofNat, gi_si_eq, gi_n1, gi_n2, gl_sl_eq, gl_n1, gl_n2, gi_sl, gl_si, forall_eq, true_implies, false_implies, not_true_eq_false, not_false_eq_true, and_true, true_and, implies_true, and_self, wp_M_in]
        exact h
      · simp (disch := omega) only [fa_lit0, xI_le_T, xI_le_F, xI_lt_T, xI_lt_F, xI_eq_T, xI_eq_F, xN_a, xN_b, xN_c, xN_d, xN_e, xN_f, xN_g, xN_h, xI_add, xI_mul, xI_sub, xI_tn, xI_in, xI_ofNat, gi_si_eq, gi_n1, gi_n2, gl_sl_eq, gl_n1, gl_n2, gi_sl, gl_si, forall_eq, true_implies, false_implies, not_true_eq_false, not_false_eq_true, and_true, true_and, implies_true, and_self]
        refine B_isOf hC hB hi (by omega) (by omega) ?_
        by_cases c : isk (C 1 i) w = 0
        · have c' := c
          unfold isk at c'
          have c2 : ¬ (C 1 i = w ∨ (C 1 i = 4 ∧ w = 2) ∨ (C 1 i = 5 ∧ w = 3)) := fun v => by rw [if_pos v] at c'; omega
          simp (disch := omega) only [fa_lit0, xI_le_T, xI_le_F, xI_lt_T, xI_lt_F, xI_eq_T, xI_eq_F, xN_a, xN_b, xN_c, xN_d, xN_e, xN_f, xN_g, xN_h, xI_add, xI_mul, xI_sub, xI_tn, xI_in, xI_ofNat, gi_si_eq, gi_n1, gi_n2, gl_sl_eq, gl_n1, gl_n2, gi_sl, gl_si, forall_eq, true_implies, false_implies, not_true_eq_false, not_false_eq_true, and_true, true_and, implies_true, and_self, c, wp_B_answerFinding, wp_M_mark]
          refine M_anArm hC.1 (by simp (disch := omega) only [fa_lit0, xI_le_T, xI_le_F, xI_lt_T, xI_lt_F, xI_eq_T, xI_eq_F, xN_a, xN_b, xN_c, xN_d, xN_e, xN_f, xN_g, xN_h, xI_add, xI_mul, xI_sub, xI_tn, xI_in, xI_ofNat, gi_si_eq, gi_n1, gi_n2, gl_sl_eq, gl_n1, gl_n2, gi_sl, gl_si, forall_eq, true_implies, false_implies, not_true_eq_false, not_false_eq_true, and_true, true_and, implies_true, and_self, hW.2.1]) hi ?_
          simp (disch := omega) only [fa_lit0, xI_le_T, xI_le_F, xI_lt_T, xI_lt_F, xI_eq_T, xI_eq_F, xN_a, xN_b, xN_c, xN_d, xN_e, xN_f, xN_g, xN_h, xI_add, xI_mul, xI_sub, xI_tn, xI_in, xI_ofNat, gi_si_eq, gi_n1, gi_n2, gl_sl_eq, gl_n1, gl_n2, gi_sl, gl_si, forall_eq, true_implies, false_implies, not_true_eq_false, not_false_eq_true, and_true, true_and, implies_true, and_self, wp_M_in, k1]
          have fin : ∀ (Q : Int32 → Mm → Prop), Q (-nI 3) (si (si (si (si M 0 12 (nI 3)) 1 3 (gi M 1 3 + nI 1)) 312 0 (nI 3)) 313 3 (gi M 313 3 + nI 1)) → k_M_mark_51 (nI i) (nI w) Q (si (si M 0 12 (nI 3)) 1 3 (gi M 1 3 + nI 1)) := by
            intro Q hQ
            unfold k_M_mark_51
            simp (disch := omega) only [fa_lit0, xI_le_T, xI_le_F, xI_lt_T, xI_lt_F, xI_eq_T, xI_eq_F, xN_a, xN_b, xN_c, xN_d, xN_e, xN_f, xN_g, xN_h, xI_add, xI_mul, xI_sub, xI_tn, xI_in, xI_ofNat, gi_si_eq, gi_n1, gi_n2, gl_sl_eq, gl_n1, gl_n2, gi_sl, gl_si, forall_eq, true_implies, false_implies, not_true_eq_false, not_false_eq_true, and_true, true_and, implies_true, and_self, wp_M_meets]
            exact hQ
          have fr := find_pair RDel_mono h (f := 3) (by omega)
          by_cases v2 : w = 2
          · subst v2
            simp (disch := omega) only [fa_lit0, xI_le_T, xI_le_F, xI_lt_T, xI_lt_F, xI_eq_T, xI_eq_F, xN_a, xN_b, xN_c, xN_d, xN_e, xN_f, xN_g, xN_h, xI_add, xI_mul, xI_sub, xI_tn, xI_in, xI_ofNat, gi_si_eq, gi_n1, gi_n2, gl_sl_eq, gl_n1, gl_n2, gi_sl, gl_si, forall_eq, true_implies, false_implies, not_true_eq_false, not_false_eq_true, and_true, true_and, implies_true, and_self, k_M_mark_41]
            exact fin _ ⟨rfl, fr⟩
          · by_cases v3 : w = 3
            · subst v3
              simp (disch := omega) only [fa_lit0, xI_le_T, xI_le_F, xI_lt_T, xI_lt_F, xI_eq_T, xI_eq_F, xN_a, xN_b, xN_c, xN_d, xN_e, xN_f, xN_g, xN_h, xI_add, xI_mul, xI_sub, xI_tn, xI_in, xI_ofNat, gi_si_eq, gi_n1, gi_n2, gl_sl_eq, gl_n1, gl_n2, gi_sl, gl_si, forall_eq, true_implies, false_implies, not_true_eq_false, not_false_eq_true, and_true, true_and, implies_true, and_self, k_M_mark_41]
              exact fin _ ⟨rfl, fr⟩
            · simp (disch := omega) only [fa_lit0, xI_le_T, xI_le_F, xI_lt_T, xI_lt_F, xI_eq_T, xI_eq_F, xN_a, xN_b, xN_c, xN_d, xN_e, xN_f, xN_g, xN_h, xI_add, xI_mul, xI_sub, xI_tn, xI_in, xI_ofNat, gi_si_eq, gi_n1, gi_n2, gl_sl_eq, gl_n1, gl_n2, gi_sl, gl_si, forall_eq, true_implies, false_implies, not_true_eq_false, not_false_eq_true, and_true, true_and, implies_true, and_self, k_M_mark_41]
              exact fin _ ⟨rfl, fr⟩
        · have c1 : C 1 i = w ∨ (C 1 i = 4 ∧ w = 2) ∨ (C 1 i = 5 ∧ w = 3) := Classical.byContradiction fun v => c (by unfold isk; rw [if_neg v])
          have c2 : isk (C 1 i) w = 1 := by unfold isk; rw [if_pos c1]
          have go : ∀ (Q : Int32 → Mm → Prop), k_M_mark_57 (nI i) (nI w) Q M → wp_M_mark (nI i) (nI w) M Q := by
            intro Q hQ
            unfold wp_M_mark
            refine M_anArm hC.1 hW.2.1 hi ?_
            simp (disch := omega) only [fa_lit0, xI_le_T, xI_le_F, xI_lt_T, xI_lt_F, xI_eq_T, xI_eq_F, xN_a, xN_b, xN_c, xN_d, xN_e, xN_f, xN_g, xN_h, xI_add, xI_mul, xI_sub, xI_tn, xI_in, xI_ofNat, gi_si_eq, gi_n1, gi_n2, gl_sl_eq, gl_n1, gl_n2, gi_sl, gl_si, forall_eq, true_implies, false_implies, not_true_eq_false, not_false_eq_true, and_true, true_and, implies_true, and_self, wp_M_in, k1]
            rcases c1 with v | ⟨v, v2⟩ | ⟨v, v2⟩
            · subst v; simp (disch := omega) only [fa_lit0, xI_le_T, xI_le_F, xI_lt_T, xI_lt_F, xI_eq_T, xI_eq_F, xN_a, xN_b, xN_c, xN_d, xN_e, xN_f, xN_g, xN_h, xI_add, xI_mul, xI_sub, xI_tn, xI_in, xI_ofNat, gi_si_eq, gi_n1, gi_n2, gl_sl_eq, gl_n1, gl_n2, gi_sl, gl_si, forall_eq, true_implies, false_implies, not_true_eq_false, not_false_eq_true, and_true, true_and, implies_true, and_self]; exact hQ
            · subst v2; simp (disch := omega) only [fa_lit0, xI_le_T, xI_le_F, xI_lt_T, xI_lt_F, xI_eq_T, xI_eq_F, xN_a, xN_b, xN_c, xN_d, xN_e, xN_f, xN_g, xN_h, xI_add, xI_mul, xI_sub, xI_tn, xI_in, xI_ofNat, gi_si_eq, gi_n1, gi_n2, gl_sl_eq, gl_n1, gl_n2, gi_sl, gl_si, forall_eq, true_implies, false_implies, not_true_eq_false, not_false_eq_true, and_true, true_and, implies_true, and_self, v]; exact hQ
            · subst v2; simp (disch := omega) only [fa_lit0, xI_le_T, xI_le_F, xI_lt_T, xI_lt_F, xI_eq_T, xI_eq_F, xN_a, xN_b, xN_c, xN_d, xN_e, xN_f, xN_g, xN_h, xI_add, xI_mul, xI_sub, xI_tn, xI_in, xI_ofNat, gi_si_eq, gi_n1, gi_n2, gl_sl_eq, gl_n1, gl_n2, gi_sl, gl_si, forall_eq, true_implies, false_implies, not_true_eq_false, not_false_eq_true, and_true, true_and, implies_true, and_self, v, k_M_mark_41]; exact hQ
          simp (disch := omega) only [fa_lit0, xI_le_T, xI_le_F, xI_lt_T, xI_lt_F, xI_eq_T, xI_eq_F, xN_a, xN_b, xN_c, xN_d, xN_e, xN_f, xN_g, xN_h, xI_add, xI_mul, xI_sub, xI_tn, xI_in, xI_ofNat, gi_si_eq, gi_n1, gi_n2, gl_sl_eq, gl_n1, gl_n2, gi_sl, gl_si, forall_eq, true_implies, false_implies, not_true_eq_false, not_false_eq_true, and_true, true_and, implies_true, and_self, c2]
          unfold wp_B_markOf
          rw [sw5e (by omega) (by omega)]
          unfold k_M_mark_57 at go
          rw [sw5e (by omega) (by omega)] at go
          have q5 := (hO.1 i (by omega)).2.1
          have q10 := (hO.1 i (by omega)).2.2.1
          rcases (show w = 1 ∨ w = 2 ∨ w = 3 ∨ w = 4 ∨ w = 5 by omega) with e | e | e | e | e <;> subst e
          · simp (disch := omega) only [fa_lit0, xI_le_T, xI_le_F, xI_lt_T, xI_lt_F, xI_eq_T, xI_eq_F, xN_a, xN_b, xN_c, xN_d, xN_e, xN_f, xN_g, xN_h, xI_add, xI_mul, xI_sub, xI_tn, xI_in, xI_ofNat, gi_si_eq, gi_n1, gi_n2, gl_sl_eq, gl_n1, gl_n2, gi_sl, gl_si, forall_eq, true_implies, false_implies, not_true_eq_false, not_false_eq_true, and_true, true_and, implies_true, and_self, show ¬ 4 < 1 by omega]
            refine B_salt hO.s hF (by omega) (B_st (go _ ?_))
            simp (disch := omega) only [fa_lit0, xI_le_T, xI_le_F, xI_lt_T, xI_lt_F, xI_eq_T, xI_eq_F, xN_a, xN_b, xN_c, xN_d, xN_e, xN_f, xN_g, xN_h, xI_add, xI_mul, xI_sub, xI_tn, xI_in, xI_ofNat, gi_si_eq, gi_n1, gi_n2, gl_sl_eq, gl_n1, gl_n2, gi_sl, gl_si, forall_eq, true_implies, false_implies, not_true_eq_false, not_false_eq_true, and_true, true_and, implies_true, and_self, show ¬ 4 < 1 by omega, rd]
            refine M_gr ?_
            exact ⟨mk_1 _ (by omega), h⟩
          · simp (disch := omega) only [fa_lit0, xI_le_T, xI_le_F, xI_lt_T, xI_lt_F, xI_eq_T, xI_eq_F, xN_a, xN_b, xN_c, xN_d, xN_e, xN_f, xN_g, xN_h, xI_add, xI_mul, xI_sub, xI_tn, xI_in, xI_ofNat, gi_si_eq, gi_n1, gi_n2, gl_sl_eq, gl_n1, gl_n2, gi_sl, gl_si, forall_eq, true_implies, false_implies, not_true_eq_false, not_false_eq_true, and_true, true_and, implies_true, and_self, show ¬ 4 < 2 by omega]
            refine B_silt hO.t hF (by omega) (B_st (go _ ?_))
            simp (disch := omega) only [fa_lit0, xI_le_T, xI_le_F, xI_lt_T, xI_lt_F, xI_eq_T, xI_eq_F, xN_a, xN_b, xN_c, xN_d, xN_e, xN_f, xN_g, xN_h, xI_add, xI_mul, xI_sub, xI_tn, xI_in, xI_ofNat, gi_si_eq, gi_n1, gi_n2, gl_sl_eq, gl_n1, gl_n2, gi_sl, gl_si, forall_eq, true_implies, false_implies, not_true_eq_false, not_false_eq_true, and_true, true_and, implies_true, and_self, show ¬ 4 < 2 by omega, rd]
            refine ⟨?_, h⟩
            exact mk_2 (F (10 + i)) (by omega)
          · simp (disch := omega) only [fa_lit0, xI_le_T, xI_le_F, xI_lt_T, xI_lt_F, xI_eq_T, xI_eq_F, xN_a, xN_b, xN_c, xN_d, xN_e, xN_f, xN_g, xN_h, xI_add, xI_mul, xI_sub, xI_tn, xI_in, xI_ofNat, gi_si_eq, gi_n1, gi_n2, gl_sl_eq, gl_n1, gl_n2, gi_sl, gl_si, forall_eq, true_implies, false_implies, not_true_eq_false, not_false_eq_true, and_true, true_and, implies_true, and_self, show ¬ 4 < 3 by omega, hF.2.2.1, e3]
            refine go _ ?_
            simp (disch := omega) only [fa_lit0, xI_le_T, xI_le_F, xI_lt_T, xI_lt_F, xI_eq_T, xI_eq_F, xN_a, xN_b, xN_c, xN_d, xN_e, xN_f, xN_g, xN_h, xI_add, xI_mul, xI_sub, xI_tn, xI_in, xI_ofNat, gi_si_eq, gi_n1, gi_n2, gl_sl_eq, gl_n1, gl_n2, gi_sl, gl_si, forall_eq, true_implies, false_implies, not_true_eq_false, not_false_eq_true, and_true, true_and, implies_true, and_self, show ¬ 4 < 3 by omega, rd]
            exact h
          · simp (disch := omega) only [fa_lit0, xI_le_T, xI_le_F, xI_lt_T, xI_lt_F, xI_eq_T, xI_eq_F, xN_a, xN_b, xN_c, xN_d, xN_e, xN_f, xN_g, xN_h, xI_add, xI_mul, xI_sub, xI_tn, xI_in, xI_ofNat, gi_si_eq, gi_n1, gi_n2, gl_sl_eq, gl_n1, gl_n2, gi_sl, gl_si, forall_eq, true_implies, false_implies, not_true_eq_false, not_false_eq_true, and_true, true_and, implies_true, and_self, show ¬ 4 < 4 by omega, hF.2.1]
            refine B_waterOf hC hB lo hi (go _ ?_)
            simp (disch := omega) only [fa_lit0, xI_le_T, xI_le_F, xI_lt_T, xI_lt_F, xI_eq_T, xI_eq_F, xN_a, xN_b, xN_c, xN_d, xN_e, xN_f, xN_g, xN_h, xI_add, xI_mul, xI_sub, xI_tn, xI_in, xI_ofNat, gi_si_eq, gi_n1, gi_n2, gl_sl_eq, gl_n1, gl_n2, gi_sl, gl_si, forall_eq, true_implies, false_implies, not_true_eq_false, not_false_eq_true, and_true, true_and, implies_true, and_self, show ¬ 4 < 4 by omega]
            refine M_water hW hO.q hG (by omega) hi ?_
            exact ⟨rfl, h⟩
          · simp (disch := omega) only [fa_lit0, xI_le_T, xI_le_F, xI_lt_T, xI_lt_F, xI_eq_T, xI_eq_F, xN_a, xN_b, xN_c, xN_d, xN_e, xN_f, xN_g, xN_h, xI_add, xI_mul, xI_sub, xI_tn, xI_in, xI_ofNat, gi_si_eq, gi_n1, gi_n2, gl_sl_eq, gl_n1, gl_n2, gi_sl, gl_si, forall_eq, true_implies, false_implies, not_true_eq_false, not_false_eq_true, and_true, true_and, implies_true, and_self, show 4 < 5 by omega]
            refine B_follower hC hB hO.q hF.2.2.1 hF.2.2.2.1 hi (go _ ?_)
            simp (disch := omega) only [fa_lit0, xI_le_T, xI_le_F, xI_lt_T, xI_lt_F, xI_eq_T, xI_eq_F, xN_a, xN_b, xN_c, xN_d, xN_e, xN_f, xN_g, xN_h, xI_add, xI_mul, xI_sub, xI_tn, xI_in, xI_ofNat, gi_si_eq, gi_n1, gi_n2, gl_sl_eq, gl_n1, gl_n2, gi_sl, gl_si, forall_eq, true_implies, false_implies, not_true_eq_false, not_false_eq_true, and_true, true_and, implies_true, and_self, show 4 < 5 by omega]
            refine M_married hW hO.q hG (by omega) hi ?_
            exact ⟨rfl, h⟩
theorem op_now {M : Mm} (h : Rel RDel M) : wp_B_now M (fun r M1 => wp_M_now M1 (fun r2 M2 => r = r2 ∧ Rel RDel M2)) := by
  obtain ⟨C, F, D, L, T, N, V, KL, hd⟩ := h.2.2.2.2.2.2.out
  obtain ⟨hC, hB, hW, hO, hF, hG, -⟩ := hd.parts
  have hn := hC.1
  have b1 := hB.1
  have m1 := hW.2.1
  have rd : gi M 327 30 = nI (F 30) := hG 30 (by omega)
  unfold wp_B_now wp_M_now
  by_cases c : C 0 0 = 0
  · simp (disch := omega) only [fa_lit0, xI_le_T, xI_le_F, xI_lt_T, xI_lt_F, xI_eq_T, xI_eq_F, xN_a, xN_b, xN_c, xN_d, xN_e, xN_f, xN_g, xN_h, xI_add, xI_mul, xI_sub, xI_tn, xI_in, xI_ofNat, gi_si_eq, gi_n1, gi_n2, gl_sl_eq, gl_n1, gl_n2, gi_sl, gl_si, forall_eq, true_implies, false_implies, not_true_eq_false, not_false_eq_true, and_true, true_and, implies_true, and_self, b1, m1, c]
    exact h
  · simp (disch := omega) only [fa_lit0, xI_le_T, xI_le_F, xI_lt_T, xI_lt_F, xI_eq_T, xI_eq_F, xN_a, xN_b, xN_c, xN_d, xN_e, xN_f, xN_g, xN_h, xI_add, xI_mul, xI_sub, xI_tn, xI_in, xI_ofNat, gi_si_eq, gi_n1, gi_n2, gl_sl_eq, gl_n1, gl_n2, gi_sl, gl_si, forall_eq, true_implies, false_implies, not_true_eq_false, not_false_eq_true, and_true, true_and, implies_true, and_self, b1, m1, hF.1, hF.2.1]
    refine M_openSet (w0 hW) hO (f0 hG) (by omega) ?_
    simp (disch := omega) only [fa_lit0, xI_le_T, xI_le_F, xI_lt_T, xI_lt_F, xI_eq_T, xI_eq_F, xN_a, xN_b, xN_c, xN_d, xN_e, xN_f, xN_g, xN_h, xI_add, xI_mul, xI_sub, xI_tn, xI_in, xI_ofNat, gi_si_eq, gi_n1, gi_n2, gl_sl_eq, gl_n1, gl_n2, gi_sl, gl_si, forall_eq, true_implies, false_implies, not_true_eq_false, not_false_eq_true, and_true, true_and, implies_true, and_self, wp_M_tells, rd]
    exact told_pair RDel_mono h
theorem op_water {a1 : Int32} {M : Mm} (h : Rel RDel M) : wp_B_water a1 M (fun r M1 => wp_M_water a1 M1 (fun r2 M2 => r = r2 ∧ Rel RDel M2)) := by
  obtain ⟨C, F, D, L, T, N, V, KL, hd⟩ := h.2.2.2.2.2.2.out
  obtain ⟨hC, hB, hW, hO, hF, hG, -⟩ := hd.parts
  unfold wp_B_water wp_M_water
  rcases arm_cases a1 hC.1 with g | ⟨i, hi, rfl⟩
  · refine B_noArm hC.1 hB.1 g ?_
    simp (disch := omega) only [fa_lit0, xI_le_T, xI_le_F, xI_lt_T, xI_lt_F, xI_eq_T, xI_eq_F, xN_a, xN_b, xN_c, xN_d, xN_e, xN_f, xN_g, xN_h, xI_add, xI_mul, xI_sub, xI_tn, xI_in, xI_ofNat, gi_si_eq, gi_n1, gi_n2, gl_sl_eq, gl_n1, gl_n2, gi_sl, gl_si, forall_eq, true_implies, false_implies, not_true_eq_false, not_false_eq_true, and_true, true_and, implies_true, and_self]
    refine M_noArm hC.1 hW.2.1 g ?_
    simp (disch := omega) only [fa_lit0, xI_le_T, xI_le_F, xI_lt_T, xI_lt_F, xI_eq_T, xI_eq_F, xN_a, xN_b, xN_c, xN_d, xN_e, xN_f, xN_g, xN_h, xI_add, xI_mul, xI_sub, xI_tn, xI_in, xI_ofNat, gi_si_eq, gi_n1, gi_n2, gl_sl_eq, gl_n1, gl_n2, gi_sl, gl_si, forall_eq, true_implies, false_implies, not_true_eq_false, not_false_eq_true, and_true, true_and, implies_true, and_self]
    exact h
  · refine B_anArm hC.1 hB.1 hi ?_
    have lo := mk_lt hO.o
    simp (disch := omega) only [fa_lit0, xI_le_T, xI_le_F, xI_lt_T, xI_lt_F, xI_eq_T, xI_eq_F, xN_a, xN_b, xN_c, xN_d, xN_e, xN_f, xN_g, xN_h, xI_add, xI_mul, xI_sub, xI_tn, xI_in, xI_ofNat, gi_si_eq, gi_n1, gi_n2, gl_sl_eq, gl_n1, gl_n2, gi_sl, gl_si, forall_eq, true_implies, false_implies, not_true_eq_false, not_false_eq_true, and_true, true_and, implies_true, and_self, hF.2.1]
    refine B_waterOf hC hB lo hi ?_
    refine M_anArm hC.1 hW.2.1 hi ?_
    simp (disch := omega) only [fa_lit0, xI_le_T, xI_le_F, xI_lt_T, xI_lt_F, xI_eq_T, xI_eq_F, xN_a, xN_b, xN_c, xN_d, xN_e, xN_f, xN_g, xN_h, xI_add, xI_mul, xI_sub, xI_tn, xI_in, xI_ofNat, gi_si_eq, gi_n1, gi_n2, gl_sl_eq, gl_n1, gl_n2, gi_sl, gl_si, forall_eq, true_implies, false_implies, not_true_eq_false, not_false_eq_true, and_true, true_and, implies_true, and_self]
    refine M_water hW hO.q hG (by omega) hi ?_
    exact ⟨rfl, h⟩
