/-! opened -/
def oE (C : Nat → Nat → Nat) (F : Nat → Nat) (R : Nat → Int32) : Nat → Nat
  | 0 => 2 ^ C 0 0 - 1
  | s + 1 => if ft C F R s then oE C F R s &&& ssD C s F (C 0 0) else oE C F R s
def oA (C : Nat → Nat → Nat) (F : Nat → Nat) (R : Nat → Int32) : Nat → Nat
  | 0 => 0
  | s + 1 => if ft C F R s then 1 else oA C F R s
theorem oA_le (C : Nat → Nat → Nat) (F : Nat → Nat) (R : Nat → Int32) : ∀ s, oA C F R s ≤ 1 ∧ (oA C F R s = 0 → oE C F R s = 2 ^ C 0 0 - 1) := by
  intro s
  induction s with
  | zero => exact ⟨Nat.zero_le _, fun _ => rfl⟩
  | succ s ih =>
    unfold oA oE
    by_cases c : ft C F R s
    · rw [if_pos c, if_pos c]; exact ⟨Nat.le_refl _, fun w => by omega⟩
    · rw [if_neg c, if_neg c]; exact ih
theorem oE_lt {C : Nat → Nat → Nat} (hC : OkC C) (F : Nat → Nat) (R : Nat → Int32) : ∀ s, oE C F R s < 32 := by
  intro s
  induction s with
  | zero => have := p5 hC.1; show 2 ^ C 0 0 - 1 < 32; omega
  | succ s ih =>
    unfold oE
    split
    · exact Nat.lt_of_le_of_lt Nat.and_le_left ih
    · exact ih
theorem and_m1 : ∀ e, e < 32 → (nI e &&& (-nI 1)) = nI e := by decide +kernel
theorem op_opened {a1 : Int32} {M : Mm} (h : Rel RDel M) : wp_B_opened a1 M (fun r M1 => wp_M_opened a1 M1 (fun r2 M2 => r = r2 ∧ Rel RDel M2)) := by
  obtain ⟨C, F, D, L, T, N, V, KL, hd⟩ := h.2.2.2.2.2.2.out
  obtain ⟨hC, hB, hW, hO, hF, hG, hcw⟩ := hd.parts
  have hn := hC.1
  have h2n := p5 hn
  have h2p : 0 < 2 ^ C 0 0 := Nat.two_pow_pos _
  have h60 : F 30 ≤ 60 := Nat.le_trans hd.2.2.1 hd.2.2.2.1.1
  unfold wp_B_opened
  rcases armRow h hd a1 with ⟨e, M1, M2, e1, e2, q1, q2, hr⟩ | ⟨r, hr, rfl, hp, e5, e314, hR, q1, q2⟩
  · refine q1 _ ?_
    simp only [e2, not_false_eq_true, true_implies, false_implies, true_and]
    unfold wp_M_opened
    refine q2 _ ?_
    simp only [e1, not_false_eq_true, true_implies, false_implies, true_and]
    exact hr
  · refine q1 _ ?_
    simp (disch := omega) only [fa_lit0, xI_le_T, xI_le_F, xI_lt_T, xI_lt_F, xI_eq_T, xI_eq_F, xN_a, xN_b, xN_c, xN_d, xN_e, xN_f, xN_g, xN_h, xI_add, xI_mul, xI_sub, xI_tn, xI_in, xI_ofNat, gi_si_eq, gi_n1, gi_n2, gl_sl_eq, gl_n1, gl_n2, gi_sl, gl_si, forall_eq, true_implies, false_implies, not_true_eq_false, not_false_eq_true, and_true, true_and, implies_true, and_self]
    have key : ∀ (Q : Int32 → Mm → Prop) (K : Int32 → Mm → Prop), (∀ M', EB C F M M' → K (if oA C F (fun i => gi M (7 + r) i) (2 ^ C 0 0) = 0 then -nI 9 else nI (oE C F (fun i => gi M (7 + r) i) (2 ^ C 0 0))) M') → ∀ (d m : Nat), m + d = 2 ^ C 0 0 → ∀ M1, EB C F M M1 → lp_B_opened_18 (nI r) Q K (d + 1) (if oA C F (fun i => gi M (7 + r) i) m = 0 then -nI 9 else nI (oE C F (fun i => gi M (7 + r) i) m)) (nI m) M1 := by
      intro Q K hQ d
      induction d with
      | zero =>
        intro m hm M1 b1
        have hm : m = 2 ^ C 0 0 := by omega
        subst hm
        show k_B_opened_18 (nI r) Q _ K _ _ M1
        unfold k_B_opened_18
        refine B_sets hC b1.2.1.2.1 ?_
        simp (disch := omega) only [fa_lit0, xI_le_T, xI_le_F, xI_lt_T, xI_lt_F, xI_eq_T, xI_eq_F, xN_a, xN_b, xN_c, xN_d, xN_e, xN_f, xN_g, xN_h, xI_add, xI_mul, xI_sub, xI_tn, xI_in, xI_ofNat, gi_si_eq, gi_n1, gi_n2, gl_sl_eq, gl_n1, gl_n2, gi_sl, gl_si, forall_eq, true_implies, false_implies, not_true_eq_false, not_false_eq_true, and_true, true_and, implies_true, and_self]
        exact hQ M1 b1
      | succ d ih =>
        intro m hm M1 b1
        obtain ⟨i1, i2⟩ := oA_le C F (fun i => gi M (7 + r) i) m
        have i3 := oE_lt hC F (fun i => gi M (7 + r) i) m
        have ih1 := ih (m + 1) (by omega)
        rw [show oA C F (fun i => gi M (7 + r) i) (m + 1) = (if ft C F (fun i => gi M (7 + r) i) m then 1 else oA C F (fun i => gi M (7 + r) i) m) from rfl, show oE C F (fun i => gi M (7 + r) i) (m + 1) = (if ft C F (fun i => gi M (7 + r) i) m then oE C F (fun i => gi M (7 + r) i) m &&& ssD C m F (C 0 0) else oE C F (fun i => gi M (7 + r) i) m) from rfl] at ih1
        show k_B_opened_18 (nI r) Q _ K _ _ M1
        unfold k_B_opened_18
        refine B_sets hC b1.2.1.2.1 ?_
        simp (disch := omega) only [fa_lit0, xI_le_T, xI_le_F, xI_lt_T, xI_lt_F, xI_eq_T, xI_eq_F, xN_a, xN_b, xN_c, xN_d, xN_e, xN_f, xN_g, xN_h, xI_add, xI_mul, xI_sub, xI_tn, xI_in, xI_ofNat, gi_si_eq, gi_n1, gi_n2, gl_sl_eq, gl_n1, gl_n2, gi_sl, gl_si, forall_eq, true_implies, false_implies, not_true_eq_false, not_false_eq_true, and_true, true_and, implies_true, and_self]
        refine B_fit b1.2.1 hO h60 b1.2.2 hr ((b1.1.g (by unfold SB; omega)).trans e5) (R := fun i => gi M (7 + r) i) (fun i hi => b1.1.g (by unfold SB; omega)) (by omega) ?_ ?_
        · intro c M2 s2 w2
          have hD0 := ssD_lt (C := C) (s := m) (F := F) (C 0 0) hn
          have hD := lt_32 hD0 hn
          rw [if_pos c, if_pos c, if_neg (by omega)] at ih1
          by_cases v : oA C F (fun i => gi M (7 + r) i) m = 0
          · rw [i2 v, Nat.and_comm, land_full hD0] at ih1
            rw [if_pos v]
            simp (disch := omega) only [fa_lit0, xI_le_T, xI_le_F, xI_lt_T, xI_lt_F, xI_eq_T, xI_eq_F, xN_a, xN_b, xN_c, xN_d, xN_e, xN_f, xN_g, xN_h, xI_add, xI_mul, xI_sub, xI_tn, xI_in, xI_ofNat, gi_si_eq, gi_n1, gi_n2, gl_sl_eq, gl_n1, gl_n2, gi_sl, gl_si, forall_eq, true_implies, false_implies, not_true_eq_false, not_false_eq_true, and_true, true_and, implies_true, and_self, k_B_opened_61, k_B_opened_62]
            exact ih1 M2 (b1.next s2 w2)
          · rw [if_neg v]
            simp (disch := omega) only [fa_lit0, xI_le_T, xI_le_F, xI_lt_T, xI_lt_F, xI_eq_T, xI_eq_F, xN_a, xN_b, xN_c, xN_d, xN_e, xN_f, xN_g, xN_h, xI_add, xI_mul, xI_sub, xI_tn, xI_in, xI_ofNat, gi_si_eq, gi_n1, gi_n2, gl_sl_eq, gl_n1, gl_n2, gi_sl, gl_si, forall_eq, true_implies, false_implies, not_true_eq_false, not_false_eq_true, and_true, true_and, implies_true, and_self, k_B_opened_61, k_B_opened_62, bs_and]
            exact ih1 M2 (b1.next s2 w2)
        · intro c M2 s2 w2
          rw [if_neg c, if_neg c] at ih1
          simp (disch := omega) only [fa_lit0, xI_le_T, xI_le_F, xI_lt_T, xI_lt_F, xI_eq_T, xI_eq_F, xN_a, xN_b, xN_c, xN_d, xN_e, xN_f, xN_g, xN_h, xI_add, xI_mul, xI_sub, xI_tn, xI_in, xI_ofNat, gi_si_eq, gi_n1, gi_n2, gl_sl_eq, gl_n1, gl_n2, gi_sl, gl_si, forall_eq, true_implies, false_implies, not_true_eq_false, not_false_eq_true, and_true, true_and, implies_true, and_self, k_B_opened_62]
          exact ih1 M2 (b1.next s2 w2)
    refine ⟨_, key _ _ ?_ (2 ^ C 0 0) 0 (by omega) M ⟨Sm.refl _ M, hcw hp, hF⟩⟩
    intro M1 b1
    have m1 : EM C F M1 M1 := ⟨Sm.refl _ _, hW.sm b1.1 (fun a b w => by unfold SB; omega), hG.sm b1.1 (fun b w1 w2 => by unfold SB; omega)⟩
    have hR' : ∀ i, i < C 0 0 → gi M1 315 (40 * r + i) = gi M (7 + r) i := fun i hi => (b1.1.g (by unfold SB; omega)).trans (hR i hi).symm
    have e314' := (b1.1.g (a := 314) (b := r) (by unfold SB; omega)).trans e314
    have keyM : ∀ (Q : Int32 → Mm → Prop) (K : Int32 → Int32 → Mm → Prop), (∀ M', EM C F M1 M' → K (nI (oE C F (fun i => gi M (7 + r) i) (2 ^ C 0 0))) (nI (oA C F (fun i => gi M (7 + r) i) (2 ^ C 0 0))) M') → ∀ (d m : Nat), m + d = 2 ^ C 0 0 → ∀ M2, EM C F M1 M2 → lp_M_opened_25 (nI r) Q K (d + 1) (nI (oE C F (fun i => gi M (7 + r) i) m)) (nI (oA C F (fun i => gi M (7 + r) i) m)) (nI m) M2 := by
      intro Q K hQ d
      induction d with
      | zero =>
        intro m hm M2 b1
        have hm : m = 2 ^ C 0 0 := by omega
        subst hm
        show k_M_opened_25 (nI r) Q _ K _ _ _ M2
        unfold k_M_opened_25
        refine M_sets b1.2.1 ?_
        simp (disch := omega) only [fa_lit0, xI_le_T, xI_le_F, xI_lt_T, xI_lt_F, xI_eq_T, xI_eq_F, xN_a, xN_b, xN_c, xN_d, xN_e, xN_f, xN_g, xN_h, xI_add, xI_mul, xI_sub, xI_tn, xI_in, xI_ofNat, gi_si_eq, gi_n1, gi_n2, gl_sl_eq, gl_n1, gl_n2, gi_sl, gl_si, forall_eq, true_implies, false_implies, not_true_eq_false, not_false_eq_true, and_true, true_and, implies_true, and_self]
        exact hQ M2 b1
      | succ d ih =>
        intro m hm M2 b1
        obtain ⟨i1, i2⟩ := oA_le C F (fun i => gi M (7 + r) i) m
        have i3 := oE_lt hC F (fun i => gi M (7 + r) i) m
        have ih1 := ih (m + 1) (by omega)
        rw [show oA C F (fun i => gi M (7 + r) i) (m + 1) = (if ft C F (fun i => gi M (7 + r) i) m then 1 else oA C F (fun i => gi M (7 + r) i) m) from rfl, show oE C F (fun i => gi M (7 + r) i) (m + 1) = (if ft C F (fun i => gi M (7 + r) i) m then oE C F (fun i => gi M (7 + r) i) m &&& ssD C m F (C 0 0) else oE C F (fun i => gi M (7 + r) i) m) from rfl] at ih1
        show k_M_opened_25 (nI r) Q _ K _ _ _ M2
        unfold k_M_opened_25
        refine M_sets b1.2.1 ?_
        simp (disch := omega) only [fa_lit0, xI_le_T, xI_le_F, xI_lt_T, xI_lt_F, xI_eq_T, xI_eq_F, xN_a, xN_b, xN_c, xN_d, xN_e, xN_f, xN_g, xN_h, xI_add, xI_mul, xI_sub, xI_tn, xI_in, xI_ofNat, gi_si_eq, gi_n1, gi_n2, gl_sl_eq, gl_n1, gl_n2, gi_sl, gl_si, forall_eq, true_implies, false_implies, not_true_eq_false, not_false_eq_true, and_true, true_and, implies_true, and_self]
        refine M_fit b1.2.1 hO h60 b1.2.2 hr (R := fun i => gi M (7 + r) i) (fun i hi => (b1.1.g (by unfold SM; omega)).trans (hR' i hi)) (by omega) ?_ ?_
        · intro c M3 s2 w2
          have hD := lt_32 (ssD_lt (C := C) (s := m) (F := F) (C 0 0) hn) hn
          rw [if_pos c, if_pos c] at ih1
          rcases (show oA C F (fun i => gi M (7 + r) i) m = 0 ∨ oA C F (fun i => gi M (7 + r) i) m = 1 by omega) with v | v
          · rw [v]
            simp (disch := omega) only [fa_lit0, xI_le_T, xI_le_F, xI_lt_T, xI_lt_F, xI_eq_T, xI_eq_F, xN_a, xN_b, xN_c, xN_d, xN_e, xN_f, xN_g, xN_h, xI_add, xI_mul, xI_sub, xI_tn, xI_in, xI_ofNat, gi_si_eq, gi_n1, gi_n2, gl_sl_eq, gl_n1, gl_n2, gi_sl, gl_si, forall_eq, true_implies, false_implies, not_true_eq_false, not_false_eq_true, and_true, true_and, implies_true, and_self, k_M_opened_55, k_M_opened_60, k_M_opened_76, bs_and]
            exact ih1 M3 (b1.next s2 w2)
          · rw [v]
            simp (disch := omega) only [fa_lit0, xI_le_T, xI_le_F, xI_lt_T, xI_lt_F, xI_eq_T, xI_eq_F, xN_a, xN_b, xN_c, xN_d, xN_e, xN_f, xN_g, xN_h, xI_add, xI_mul, xI_sub, xI_tn, xI_in, xI_ofNat, gi_si_eq, gi_n1, gi_n2, gl_sl_eq, gl_n1, gl_n2, gi_sl, gl_si, forall_eq, true_implies, false_implies, not_true_eq_false, not_false_eq_true, and_true, true_and, implies_true, and_self, k_M_opened_55, k_M_opened_60, k_M_opened_76, bs_and]
            exact ih1 M3 (b1.next s2 w2)
        · intro c M3 s2 w2
          rw [if_neg c, if_neg c] at ih1
          rcases (show oA C F (fun i => gi M (7 + r) i) m = 0 ∨ oA C F (fun i => gi M (7 + r) i) m = 1 by omega) with v | v
          · rw [v] at ih1
            rw [v]
            simp (disch := omega) only [fa_lit0, xI_le_T, xI_le_F, xI_lt_T, xI_lt_F, xI_eq_T, xI_eq_F, xN_a, xN_b, xN_c, xN_d, xN_e, xN_f, xN_g, xN_h, xI_add, xI_mul, xI_sub, xI_tn, xI_in, xI_ofNat, gi_si_eq, gi_n1, gi_n2, gl_sl_eq, gl_n1, gl_n2, gi_sl, gl_si, forall_eq, true_implies, false_implies, not_true_eq_false, not_false_eq_true, and_true, true_and, implies_true, and_self, k_M_opened_55, k_M_opened_60, k_M_opened_76, and_m1]
            exact ih1 M3 (b1.next s2 w2)
          · rw [v] at ih1
            rw [v]
            simp (disch := omega) only [fa_lit0, xI_le_T, xI_le_F, xI_lt_T, xI_lt_F, xI_eq_T, xI_eq_F, xN_a, xN_b, xN_c, xN_d, xN_e, xN_f, xN_g, xN_h, xI_add, xI_mul, xI_sub, xI_tn, xI_in, xI_ofNat, gi_si_eq, gi_n1, gi_n2, gl_sl_eq, gl_n1, gl_n2, gi_sl, gl_si, forall_eq, true_implies, false_implies, not_true_eq_false, not_false_eq_true, and_true, true_and, implies_true, and_self, k_M_opened_55, k_M_opened_60, k_M_opened_76, and_m1]
            exact ih1 M3 (b1.next s2 w2)
    have go : ∀ x, x = (if oA C F (fun i => gi M (7 + r) i) (2 ^ C 0 0) = 0 then nI 0 else nI (oE C F (fun i => gi M (7 + r) i) (2 ^ C 0 0))) → wp_M_opened (nI r) M1 (fun r2 M2 => x = r2 ∧ Rel RDel M2) := by
      intro x hx
      unfold wp_M_opened
      refine q2 _ m1.2.1.2.1 e314' _ ?_
      simp (disch := omega) only [fa_lit0, xI_le_T, xI_le_F, xI_lt_T, xI_lt_F, xI_eq_T, xI_eq_F, xN_a, xN_b, xN_c, xN_d, xN_e, xN_f, xN_g, xN_h, xI_add, xI_mul, xI_sub, xI_tn, xI_in, xI_ofNat, gi_si_eq, gi_n1, gi_n2, gl_sl_eq, gl_n1, gl_n2, gi_sl, gl_si, forall_eq, true_implies, false_implies, not_true_eq_false, not_false_eq_true, and_true, true_and, implies_true, and_self]
      refine M_sets m1.2.1 ?_
      simp (disch := omega) only [fa_lit0, xI_le_T, xI_le_F, xI_lt_T, xI_lt_F, xI_eq_T, xI_eq_F, xN_a, xN_b, xN_c, xN_d, xN_e, xN_f, xN_g, xN_h, xI_add, xI_mul, xI_sub, xI_tn, xI_in, xI_ofNat, gi_si_eq, gi_n1, gi_n2, gl_sl_eq, gl_n1, gl_n2, gi_sl, gl_si, forall_eq, true_implies, false_implies, not_true_eq_false, not_false_eq_true, and_true, true_and, implies_true, and_self]
      refine ⟨_, keyM _ _ ?_ (2 ^ C 0 0) 0 (by omega) _ m1⟩
      intro M2 m2
      have fr := aside_fin h hd b1 m2
      rcases (show oA C F (fun i => gi M (7 + r) i) (2 ^ C 0 0) = 0 ∨ oA C F (fun i => gi M (7 + r) i) (2 ^ C 0 0) = 1 by have := (oA_le C F (fun i => gi M (7 + r) i) (2 ^ C 0 0)).1; omega) with v | v
      · rw [if_pos v] at hx
        rw [v]
        simp (disch := omega) only [fa_lit0, xI_le_T, xI_le_F, xI_lt_T, xI_lt_F, xI_eq_T, xI_eq_F, xN_a, xN_b, xN_c, xN_d, xN_e, xN_f, xN_g, xN_h, xI_add, xI_mul, xI_sub, xI_tn, xI_in, xI_ofNat, gi_si_eq, gi_n1, gi_n2, gl_sl_eq, gl_n1, gl_n2, gi_sl, gl_si, forall_eq, true_implies, false_implies, not_true_eq_false, not_false_eq_true, and_true, true_and, implies_true, and_self]
        exact ⟨hx, fr⟩
      · rw [if_neg (by omega)] at hx
        rw [v]
        simp (disch := omega) only [fa_lit0, xI_le_T, xI_le_F, xI_lt_T, xI_lt_F, xI_eq_T, xI_eq_F, xN_a, xN_b, xN_c, xN_d, xN_e, xN_f, xN_g, xN_h, xI_add, xI_mul, xI_sub, xI_tn, xI_in, xI_ofNat, gi_si_eq, gi_n1, gi_n2, gl_sl_eq, gl_n1, gl_n2, gi_sl, gl_si, forall_eq, true_implies, false_implies, not_true_eq_false, not_false_eq_true, and_true, true_and, implies_true, and_self]
        exact ⟨hx, fr⟩
    have i3 := oE_lt hC F (fun i => gi M (7 + r) i) (2 ^ C 0 0)
    by_cases v : oA C F (fun i => gi M (7 + r) i) (2 ^ C 0 0) = 0
    · rw [if_pos v] at go
      rw [if_pos v]
      simp (disch := omega) only [fa_lit0, xI_le_T, xI_le_F, xI_lt_T, xI_lt_F, xI_eq_T, xI_eq_F, xN_a, xN_b, xN_c, xN_d, xN_e, xN_f, xN_g, xN_h, xI_add, xI_mul, xI_sub, xI_tn, xI_in, xI_ofNat, gi_si_eq, gi_n1, gi_n2, gl_sl_eq, gl_n1, gl_n2, gi_sl, gl_si, forall_eq, true_implies, false_implies, not_true_eq_false, not_false_eq_true, and_true, true_and, implies_true, and_self]
      exact go _ rfl
    · rw [if_neg v] at go
      rw [if_neg v]
      simp (disch := omega) only [fa_lit0, xI_le_T, xI_le_F, xI_lt_T, xI_lt_F, xI_eq_T, xI_eq_F, xN_a, xN_b, xN_c, xN_d, xN_e, xN_f, xN_g, xN_h, xI_add, xI_mul, xI_sub, xI_tn, xI_in, xI_ofNat, gi_si_eq, gi_n1, gi_n2, gl_sl_eq, gl_n1, gl_n2, gi_sl, gl_si, forall_eq, true_implies, false_implies, not_true_eq_false, not_false_eq_true, and_true, true_and, implies_true, and_self]
      exact go _ rfl
/-! seasons ahead -/
def itF (C : Nat → Nat → Nat) (F : Nat → Nat) : Nat → Nat → Nat
  | 0 => F
  | k + 1 => gob C (itF C F k)
def itH (C : Nat → Nat → Nat) (F : Nat → Nat) : Nat → Nat
  | 0 => 0
  | k + 1 => itH C F k + cnt (hv C (itF C F k)) 5
theorem itF_ok {C : Nat → Nat → Nat} {F : Nat → Nat} (hC : OkC C) (hO : OkF (C 0 0) F) (h60 : F 30 ≤ 60) : ∀ k, k ≤ 40 → OkF (C 0 0) (itF C F k) ∧ itF C F k 30 = F 30 + k := by
  intro k
  induction k with
  | zero => intro _; exact ⟨hO, rfl⟩
  | succ k ih =>
    intro hk
    obtain ⟨q1, q2⟩ := ih (by omega)
    exact ⟨q1.go hC (by omega), by show gob C (itF C F k) 30 = _; rw [gob_30]; omega⟩
theorem cnt_le (s : Nat) : ∀ m, cnt s m ≤ m := by
  intro m
  induction m with
  | zero => exact Nat.le_refl _
  | succ m ih => show cnt s m + s / 2 ^ m % 2 ≤ m + 1; omega
theorem itH_le (C : Nat → Nat → Nat) (F : Nat → Nat) : ∀ k, itH C F k ≤ 5 * k := by
  intro k
  induction k with
  | zero => exact Nat.le_refl _
  | succ k ih =>
    have := cnt_le (hv C (itF C F k)) 5
    show itH C F k + cnt (hv C (itF C F k)) 5 ≤ 5 * (k + 1)
    omega
theorem B_seasons {C : Nat → Nat → Nat} {F : Nat → Nat} {M : Mm} {k q : Nat} (hW : CW C M) (hO : OkF (C 0 0) F) (h60 : F 30 ≤ 60) (hF : FlB F M k) (hk : k < 20 ∨ 27 < k) (hq : q ≤ 12) {Q : Int32 → Mm → Prop} (h : ∀ M', Sm (SB k) M M' → CW C M' → Q (nI (itH C F q)) M') : wp_Fl_harvestsOfSeasons k 20 (nI q) M Q := by
  have hC := hW.1
  have key : ∀ (d m : Nat), m + d = q → ∀ M1, Sm (SB k) M M1 → CW C M1 → FlB (itF C F m) M1 k → lp_Fl_harvestsOfSeasons_5 k 20 (nI q) Q (d + 1) (nI (itH C F m)) (nI m) M1 := by
    intro d
    induction d with
    | zero =>
      intro m hm M1 s1 w1 f1
      have hm : m = q := by omega
      subst hm
      show k_Fl_harvestsOfSeasons_5 k 20 (nI m) Q _ _ _ M1
      unfold k_Fl_harvestsOfSeasons_5
      simp (disch := omega) only [fa_lit0, xI_le_T, xI_le_F, xI_lt_T, xI_lt_F, xI_eq_T, xI_eq_F, xN_a, xN_b, xN_c, xN_d, xN_e, xN_f, xN_g, xN_h, xI_add, xI_mul, xI_sub, xI_tn, xI_in, xI_ofNat, gi_si_eq, gi_n1, gi_n2, gl_sl_eq, gl_n1, gl_n2, gi_sl, gl_si, forall_eq, true_implies, false_implies, not_true_eq_false, not_false_eq_true, and_true, true_and, implies_true, and_self]
      exact h M1 s1 w1
    | succ d ih =>
      intro m hm M1 s1 w1 f1
      have hl := itH_le C F m
      obtain ⟨q1, q2⟩ := itF_ok hC hO h60 m (by omega)
      show k_Fl_harvestsOfSeasons_5 k 20 (nI q) Q _ _ _ M1
      unfold k_Fl_harvestsOfSeasons_5
      simp (disch := omega) only [fa_lit0, xI_le_T, xI_le_F, xI_lt_T, xI_lt_F, xI_eq_T, xI_eq_F, xN_a, xN_b, xN_c, xN_d, xN_e, xN_f, xN_g, xN_h, xI_add, xI_mul, xI_sub, xI_tn, xI_in, xI_ofNat, gi_si_eq, gi_n1, gi_n2, gl_sl_eq, gl_n1, gl_n2, gi_sl, gl_si, forall_eq, true_implies, false_implies, not_true_eq_false, not_false_eq_true, and_true, true_and, implies_true, and_self]
      refine B_goBy w1 q1 f1 hk fun M2 s2 w2 f2 => ?_
      refine J_bits_ok (hv_lt hC _) ?_
      simp (disch := omega) only [fa_lit0, xI_le_T, xI_le_F, xI_lt_T, xI_lt_F, xI_eq_T, xI_eq_F, xN_a, xN_b, xN_c, xN_d, xN_e, xN_f, xN_g, xN_h, xI_add, xI_mul, xI_sub, xI_tn, xI_in, xI_ofNat, gi_si_eq, gi_n1, gi_n2, gl_sl_eq, gl_n1, gl_n2, gi_sl, gl_si, forall_eq, true_implies, false_implies, not_true_eq_false, not_false_eq_true, and_true, true_and, implies_true, and_self]
      exact ih (m + 1) (by omega) M2 (s1.trans s2) w2 f2
  exact ⟨_, key q 0 (by omega) M (Sm.refl _ M) hW hF⟩
theorem M_seasons {C : Nat → Nat → Nat} {F : Nat → Nat} {M : Mm} {f q : Nat} (hW : MW C M) (hO : OkF (C 0 0) F) (h60 : F 30 ≤ 60) (hF : FM F M f) (hf : f < 6) (hq : q ≤ 12) {Q : Int32 → Mm → Prop} (h : ∀ M', Sm (SM f) M M' → MW C M' → Q (nI (itH C F q)) M') : wp_M_passesOf (nI f) (nI q) M Q := by
  have hC := hW.1
  have key : ∀ (d m : Nat), m + d = q → ∀ M1, Sm (SM f) M M1 → MW C M1 → FM (itF C F m) M1 f → lp_M_passesOf_5 (nI f) (nI q) Q (d + 1) (nI (itH C F m)) (nI m) M1 := by
    intro d
    induction d with
    | zero =>
      intro m hm M1 s1 w1 f1
      have hm : m = q := by omega
      subst hm
      show k_M_passesOf_5 (nI f) (nI m) Q _ _ _ M1
      unfold k_M_passesOf_5
      simp (disch := omega) only [fa_lit0, xI_le_T, xI_le_F, xI_lt_T, xI_lt_F, xI_eq_T, xI_eq_F, xN_a, xN_b, xN_c, xN_d, xN_e, xN_f, xN_g, xN_h, xI_add, xI_mul, xI_sub, xI_tn, xI_in, xI_ofNat, gi_si_eq, gi_n1, gi_n2, gl_sl_eq, gl_n1, gl_n2, gi_sl, gl_si, forall_eq, true_implies, false_implies, not_true_eq_false, not_false_eq_true, and_true, true_and, implies_true, and_self]
      exact h M1 s1 w1
    | succ d ih =>
      intro m hm M1 s1 w1 f1
      have hl := itH_le C F m
      obtain ⟨q1, q2⟩ := itF_ok hC hO h60 m (by omega)
      show k_M_passesOf_5 (nI f) (nI q) Q _ _ _ M1
      unfold k_M_passesOf_5
      simp (disch := omega) only [fa_lit0, xI_le_T, xI_le_F, xI_lt_T, xI_lt_F, xI_eq_T, xI_eq_F, xN_a, xN_b, xN_c, xN_d, xN_e, xN_f, xN_g, xN_h, xI_add, xI_mul, xI_sub, xI_tn, xI_in, xI_ofNat, gi_si_eq, gi_n1, gi_n2, gl_sl_eq, gl_n1, gl_n2, gi_sl, gl_si, forall_eq, true_implies, false_implies, not_true_eq_false, not_false_eq_true, and_true, true_and, implies_true, and_self]
      refine M_passes w1 q1 f1 hf fun M2 s2 w2 f2 i2 => ?_
      simp (disch := omega) only [fa_lit0, xI_le_T, xI_le_F, xI_lt_T, xI_lt_F, xI_eq_T, xI_eq_F, xN_a, xN_b, xN_c, xN_d, xN_e, xN_f, xN_g, xN_h, xI_add, xI_mul, xI_sub, xI_tn, xI_in, xI_ofNat, gi_si_eq, gi_n1, gi_n2, gl_sl_eq, gl_n1, gl_n2, gi_sl, gl_si, forall_eq, true_implies, false_implies, not_true_eq_false, not_false_eq_true, and_true, true_and, implies_true, and_self]
      exact ih (m + 1) (by omega) M2 (s1.trans s2) w2 f2
  exact ⟨_, key q 0 (by omega) M (Sm.refl _ M) hW hF⟩
theorem SM_2 {M M' : Mm} (s : Sm (SM 2) M M') : Sm Asw M M' := s.mono (fun a b w => by unfold SM at w; unfold Asw; omega)
theorem SM_1 {M M' : Mm} (s : Sm (SM 1) M M') : Sm Asw M M' := s.mono (fun a b w => by unfold SM at w; unfold Asw; omega)
theorem op_barge {a1 a2 : Int32} {M : Mm} (h : Rel RDel M) : wp_B_barge a1 a2 M (fun r M1 => wp_M_barge a1 a2 M1 (fun r2 M2 => r = r2 ∧ Rel RDel M2)) := by
  obtain ⟨C, F, D, L, T, N, V, KL, hd⟩ := h.2.2.2.2.2.2.out
  obtain ⟨hC, hB, hW, hO, hF, hG, hcw⟩ := hd.parts
  have hn := hC.1
  have h60 : F 30 ≤ 60 := Nat.le_trans hd.2.2.1 hd.2.2.2.1.1
  unfold wp_B_barge
  rcases arm_cases a1 hC.1 with g | ⟨i, hi, rfl⟩
  · refine B_noArm hC.1 hB.1 g ?_
    simp (disch := omega) only [fa_lit0, xI_le_T, xI_le_F, xI_lt_T, xI_lt_F, xI_eq_T, xI_eq_F, xN_a, xN_b, xN_c, xN_d, xN_e, xN_f, xN_g, xN_h, xI_add, xI_mul, xI_sub, xI_tn, xI_in, xI_ofNat, gi_si_eq, gi_n1, gi_n2, gl_sl_eq, gl_n1, gl_n2, gi_sl, gl_si, forall_eq, true_implies, false_implies, not_true_eq_false, not_false_eq_true, and_true, true_and, implies_true, and_self, wp_M_barge]
    refine M_noArm hC.1 hW.2.1 g ?_
    simp (disch := omega) only [fa_lit0, xI_le_T, xI_le_F, xI_lt_T, xI_lt_F, xI_eq_T, xI_eq_F, xN_a, xN_b, xN_c, xN_d, xN_e, xN_f, xN_g, xN_h, xI_add, xI_mul, xI_sub, xI_tn, xI_in, xI_ofNat, gi_si_eq, gi_n1, gi_n2, gl_sl_eq, gl_n1, gl_n2, gi_sl, gl_si, forall_eq, true_implies, false_implies, not_true_eq_false, not_false_eq_true, and_true, true_and, implies_true, and_self]
    exact h
  · refine B_anArm hC.1 hB.1 hi ?_
    rcases pk_ix a2 (n := 13) (by omega) with g | g | ⟨q, hq, rfl⟩
    · simp (disch := omega) only [fa_lit0, xI_le_T, xI_le_F, xI_lt_T, xI_lt_F, xI_eq_T, xI_eq_F, xN_a, xN_b, xN_c, xN_d, xN_e, xN_f, xN_g, xN_h, xI_add, xI_mul, xI_sub, xI_tn, xI_in, xI_ofNat, gi_si_eq, gi_n1, gi_n2, gl_sl_eq, gl_n1, gl_n2, gi_sl, gl_si, forall_eq, true_implies, false_implies, not_true_eq_false, not_false_eq_true, and_true, true_and, implies_true, and_self, ng_a g, wp_M_barge]
      refine M_anArm hC.1 hW.2.1 hi ?_
      simp (disch := omega) only [fa_lit0, xI_le_T, xI_le_F, xI_lt_T, xI_lt_F, xI_eq_T, xI_eq_F, xN_a, xN_b, xN_c, xN_d, xN_e, xN_f, xN_g, xN_h, xI_add, xI_mul, xI_sub, xI_tn, xI_in, xI_ofNat, gi_si_eq, gi_n1, gi_n2, gl_sl_eq, gl_n1, gl_n2, gi_sl, gl_si, forall_eq, true_implies, false_implies, not_true_eq_false, not_false_eq_true, and_true, true_and, implies_true, and_self, wp_M_in, ng_a g]
      exact h
    · simp (disch := omega) only [fa_lit0, xI_le_T, xI_le_F, xI_lt_T, xI_lt_F, xI_eq_T, xI_eq_F, xN_a, xN_b, xN_c, xN_d, xN_e, xN_f, xN_g, xN_h, xI_add, xI_mul, xI_sub, xI_tn, xI_in, xI_ofNat, gi_si_eq, gi_n1, gi_n2, gl_sl_eq, gl_n1, gl_n2, gi_sl, gl_si, forall_eq, true_implies, false_implies, not_true_eq_false, not_false_eq_true, and_true, true_and, implies_true, and_self, bg_a g, bg_b g, bg_c g, bg_d g, wp_M_barge]
      refine M_anArm hC.1 hW.2.1 hi ?_
      simp (disch := omega) only [fa_lit0, xI_le_T, xI_le_F, xI_lt_T, xI_lt_F, xI_eq_T, xI_eq_F, xN_a, xN_b, xN_c, xN_d, xN_e, xN_f, xN_g, xN_h, xI_add, xI_mul, xI_sub, xI_tn, xI_in, xI_ofNat, gi_si_eq, gi_n1, gi_n2, gl_sl_eq, gl_n1, gl_n2, gi_sl, gl_si, forall_eq, true_implies, false_implies, not_true_eq_false, not_false_eq_true, and_true, true_and, implies_true, and_self, wp_M_in, bg_a g, bg_b g, bg_c g]
      exact h
    · have lb := mk_lt hO.b
      have q2 := hO.b i (by omega)
      have cw := hcw (by omega)
      simp (disch := omega) only [fa_lit0, xI_le_T, xI_le_F, xI_lt_T, xI_lt_F, xI_eq_T, xI_eq_F, xN_a, xN_b, xN_c, xN_d, xN_e, xN_f, xN_g, xN_h, xI_add, xI_mul, xI_sub, xI_tn, xI_in, xI_ofNat, gi_si_eq, gi_n1, gi_n2, gl_sl_eq, gl_n1, gl_n2, gi_sl, gl_si, forall_eq, true_implies, false_implies, not_true_eq_false, not_false_eq_true, and_true, true_and, implies_true, and_self, hF.2.2.1]
      refine B_has lb (by omega) ?_
      rw [hO.bb (by omega)]
      rcases (show F (20 + i) = 0 ∨ F (20 + i) = 1 by omega) with v | v
      · simp (disch := omega) only [fa_lit0, xI_le_T, xI_le_F, xI_lt_T, xI_lt_F, xI_eq_T, xI_eq_F, xN_a, xN_b, xN_c, xN_d, xN_e, xN_f, xN_g, xN_h, xI_add, xI_mul, xI_sub, xI_tn, xI_in, xI_ofNat, gi_si_eq, gi_n1, gi_n2, gl_sl_eq, gl_n1, gl_n2, gi_sl, gl_si, forall_eq, true_implies, false_implies, not_true_eq_false, not_false_eq_true, and_true, true_and, implies_true, and_self, v, wp_M_barge]
        refine M_anArm hC.1 hW.2.1 hi ?_
        simp (disch := omega) only [fa_lit0, xI_le_T, xI_le_F, xI_lt_T, xI_lt_F, xI_eq_T, xI_eq_F, xN_a, xN_b, xN_c, xN_d, xN_e, xN_f, xN_g, xN_h, xI_add, xI_mul, xI_sub, xI_tn, xI_in, xI_ofNat, gi_si_eq, gi_n1, gi_n2, gl_sl_eq, gl_n1, gl_n2, gi_sl, gl_si, forall_eq, true_implies, false_implies, not_true_eq_false, not_false_eq_true, and_true, true_and, implies_true, and_self, wp_M_in]
        refine M_barge q2 hG (by omega) (by omega) ?_
        simp (disch := omega) only [fa_lit0, xI_le_T, xI_le_F, xI_lt_T, xI_lt_F, xI_eq_T, xI_eq_F, xN_a, xN_b, xN_c, xN_d, xN_e, xN_f, xN_g, xN_h, xI_add, xI_mul, xI_sub, xI_tn, xI_in, xI_ofNat, gi_si_eq, gi_n1, gi_n2, gl_sl_eq, gl_n1, gl_n2, gi_sl, gl_si, forall_eq, true_implies, false_implies, not_true_eq_false, not_false_eq_true, and_true, true_and, implies_true, and_self, v]
        exact h
      · simp (disch := omega) only [fa_lit0, xI_le_T, xI_le_F, xI_lt_T, xI_lt_F, xI_eq_T, xI_eq_F, xN_a, xN_b, xN_c, xN_d, xN_e, xN_f, xN_g, xN_h, xI_add, xI_mul, xI_sub, xI_tn, xI_in, xI_ofNat, gi_si_eq, gi_n1, gi_n2, gl_sl_eq, gl_n1, gl_n2, gi_sl, gl_si, forall_eq, true_implies, false_implies, not_true_eq_false, not_false_eq_true, and_true, true_and, implies_true, and_self, v]
        have l1 := itH_le C F q
        have l2 := itH_le C (up (up F (20 + i) 0) i 0) q
        refine B_copy hF (by omega) fun M1 s1 f1 => ?_
        refine B_seasons (cw.sm s1 (by omega)) hO h60 f1 (by omega) (by omega) fun M2 s2 w2 => ?_
        have s12 : Sm (SB 3) M M2 := (s1.mono (fun a b w => Or.inl w)).trans s2
        refine B_copy (hF.sm s12 (fun b => by unfold SB; omega)) (by omega) fun M3 s3 f3 => ?_
        refine B_drop (w2.sm s3 (by omega)) hO.q f3 (by omega) (by omega) fun M4 s4 w4 f4 => ?_
        refine B_seasons w4 (hO.dr hi hn) (by rw [dr_30 (by omega)]; exact h60) f4 (by omega) (by omega) fun M5 s5 w5 => ?_
        have s15 : Sm (SB 3) M M5 := ((s12.trans (s3.mono (fun a b w => Or.inl w))).trans s4).trans s5
        have w5' : MW C M5 := hW.sm s15 (fun a b w => by unfold SB; omega)
        have g5 : FM F M5 0 := hG.sm s15 (fun b w1 w2 => by unfold SB; omega)
        unfold wp_M_barge
        refine M_anArm hC.1 w5'.2.1 hi ?_
        simp (disch := omega) only [fa_lit0, xI_le_T, xI_le_F, xI_lt_T, xI_lt_F, xI_eq_T, xI_eq_F, xN_a, xN_b, xN_c, xN_d, xN_e, xN_f, xN_g, xN_h, xI_add, xI_mul, xI_sub, xI_tn, xI_in, xI_ofNat, gi_si_eq, gi_n1, gi_n2, gl_sl_eq, gl_n1, gl_n2, gi_sl, gl_si, forall_eq, true_implies, false_implies, not_true_eq_false, not_false_eq_true, and_true, true_and, implies_true, and_self, wp_M_in]
        refine M_barge q2 g5 (by omega) (by omega) ?_
        simp (disch := omega) only [fa_lit0, xI_le_T, xI_le_F, xI_lt_T, xI_lt_F, xI_eq_T, xI_eq_F, xN_a, xN_b, xN_c, xN_d, xN_e, xN_f, xN_g, xN_h, xI_add, xI_mul, xI_sub, xI_tn, xI_in, xI_ofNat, gi_si_eq, gi_n1, gi_n2, gl_sl_eq, gl_n1, gl_n2, gi_sl, gl_si, forall_eq, true_implies, false_implies, not_true_eq_false, not_false_eq_true, and_true, true_and, implies_true, and_self, v]
        refine M_copyTo g5 (by omega) (by omega) (by omega) fun M6 s6 g6 => ?_
        have w6 : MW C M6 := w5'.sm s6 (by omega)
        have g60 : FM F M6 0 := g5.sm s6 (fun b q1 q2 => by omega)
        refine M_copyTo g60 (by omega) (by omega) (by omega) fun M7 s7 g7 => ?_
        have w7 : MW C M7 := w6.sm s7 (by omega)
        have g71 : FM F M7 1 := g6.sm s7 (fun b q1 q2 => by omega)
        refine M_leaves w7 g7 (by omega) (by omega) fun M8 s8 w8 g8 => ?_
        refine M_seasons w8 (hO.dr hi hn) (by rw [dr_30 (by omega)]; exact h60) g8 (by omega) (by omega) fun M9 s9 w9 => ?_
        have g91 : FM F M9 1 := (g71.sm s8 (fun b q1 q2 => by unfold SM; omega)).sm s9 (fun b q1 q2 => by unfold SM; omega)
        refine M_seasons w9 hO h60 g91 (by omega) (by omega) fun M10 s10 w10 => ?_
        refine ⟨?_, ?_⟩
        · have e : nI (itH C (up (up F (20 + i) 0) i 0) q) - nI (itH C F q) + nI 100 = nI 100 + nI (itH C (up (up F (20 + i) 0) i 0) q) - nI (itH C F q) := by
            rw [Int32.sub_eq_add_neg, Int32.sub_eq_add_neg, Int32.add_comm _ (nI 100), Int32.add_assoc]
          exact e
        · have s510 : Sm (fun a b => SM 1 a b ∨ SM 2 a b) M5 M10 := ((((s6.mono (fun a b w => by unfold SM; omega)).trans (s7.mono (fun a b w => by unfold SM; omega))).trans (s8.mono (fun a b w => Or.inr w))).trans (s9.mono (fun a b w => Or.inr w))).trans (s10.mono (fun a b w => Or.inl w))
          have st : Sm (fun a b => SB 3 a b ∨ SM 1 a b ∨ SM 2 a b) M M10 := (s15.mono (fun a b w => Or.inl w)).trans (s510.mono (fun a b w => Or.inr w))
          refine Rel.fin h hd (st.mono (fun a b w => ?_)) (fun _ => ?_) ?_ ?_ ?_
          · unfold SB SM at w; unfold Asw; omega
          · exact w5.2.2.sm s510 (fun b => by unfold SM; omega)
          · exact h.1.sm st (fun a b w => by unfold SB SM; omega)
          · exact h.2.2.2.2.1.sm st (by unfold SB SM; omega) (by unfold SB SM; omega)
          · exact h.2.2.2.2.2.1.sm st (fun a b w => by unfold SB SM; omega)
