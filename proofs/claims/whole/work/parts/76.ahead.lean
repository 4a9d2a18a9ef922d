/-! dies -/
theorem slt_25 {C : Nat → Nat → Nat} {G : Nat → Nat} {i j : Nat} (hi : i < 5) (hj : j < 5) : slt C G i (25 + j) = G (25 + j) ∨ slt C G i (25 + j) = 1 := by
  unfold slt
  split
  · exact Or.inl (up_ne (by omega))
  · rw [up_ne (by omega), up_ne (by omega)]
    by_cases e : j = i
    · subst e; exact Or.inr (up_eq _ _ _)
    · rw [up_ne (by omega), up_ne (by omega)]; exact Or.inl rfl
theorem gb_25 {C : Nat → Nat → Nat} {F : Nat → Nat} {s : Nat} {j : Nat} (hj : j < 5) : ∀ m, m ≤ 5 → gb C F s m (25 + j) = F (25 + j) ∨ gb C F s m (25 + j) = 1 := by
  intro m
  induction m with
  | zero => intro _; exact Or.inl rfl
  | succ m ih =>
    intro hm
    have e : sup C s (hup C F s (gb C F s m) m) m (25 + j) = gb C F s m (25 + j) := by
      unfold sup hup
      rw [up_ne (by omega), up_ne (by omega)]
    show slt C _ m (25 + j) = _ ∨ slt C _ m (25 + j) = _
    rcases slt_25 (C := C) (G := sup C s (hup C F s (gb C F s m) m) m) (i := m) (j := j) (by omega) hj with w | w
    · rw [w, e]; exact ih (by omega)
    · exact Or.inr w
theorem gob_25 {C : Nat → Nat → Nat} {F : Nat → Nat} (hC : OkC C) {j : Nat} (hj : j < 5) : gob C F (25 + j) = F (25 + j) ∨ gob C F (25 + j) = 1 := by
  unfold gob
  rw [up_ne (by omega)]
  exact gb_25 hj _ hC.1
theorem B_first {s i : Nat} (hs : s < 32) (hi : i < 5) (h1 : s / 2 ^ i % 2 = 1) (h0 : ∀ j, j < i → s / 2 ^ j % 2 = 0) {M : Mm} {Q : Int32 → Mm → Prop} (h : Q (nI i) M) : wp_B_firstOf (nI s) M Q := by
  have key : ∀ (d m : Nat), m + d = i → lp_B_firstOf_2 (nI s) Q (d + 1) (nI m) M := by
    intro d
    induction d with
    | zero =>
      intro m hm
      have hm : m = i := by omega
      subst hm
      show k_B_firstOf_2 (nI s) Q _ _ M
      unfold k_B_firstOf_2
      simp (disch := omega) only [fa_lit0, xI_le_T, xI_le_F, xI_lt_T, xI_lt_F, xI_eq_T, xI_eq_F, xN_a, xN_b, xN_c, xN_d, xN_e, xN_f, xN_g, xN_h, xI_add, xI_mul, xI_sub, xI_tn, xI_in, xI_ofNat, gi_si_eq, gi_n1, gi_n2, gl_sl_eq, gl_n1, gl_n2, gi_sl, gl_si, forall_eq, true_implies, false_implies, not_true_eq_false, not_false_eq_true, and_true, true_and, implies_true, and_self]
      refine B_has hs (by omega) ?_
      simp (disch := omega) only [fa_lit0, xI_le_T, xI_le_F, xI_lt_T, xI_lt_F, xI_eq_T, xI_eq_F, xN_a, xN_b, xN_c, xN_d, xN_e, xN_f, xN_g, xN_h, xI_add, xI_mul, xI_sub, xI_tn, xI_in, xI_ofNat, gi_si_eq, gi_n1, gi_n2, gl_sl_eq, gl_n1, gl_n2, gi_sl, gl_si, forall_eq, true_implies, false_implies, not_true_eq_false, not_false_eq_true, and_true, true_and, implies_true, and_self, h1]
      exact h
    | succ d ih =>
      intro m hm
      show k_B_firstOf_2 (nI s) Q _ _ M
      unfold k_B_firstOf_2
      simp (disch := omega) only [fa_lit0, xI_le_T, xI_le_F, xI_lt_T, xI_lt_F, xI_eq_T, xI_eq_F, xN_a, xN_b, xN_c, xN_d, xN_e, xN_f, xN_g, xN_h, xI_add, xI_mul, xI_sub, xI_tn, xI_in, xI_ofNat, gi_si_eq, gi_n1, gi_n2, gl_sl_eq, gl_n1, gl_n2, gi_sl, gl_si, forall_eq, true_implies, false_implies, not_true_eq_false, not_false_eq_true, and_true, true_and, implies_true, and_self]
      refine B_has hs (by omega) ?_
      simp (disch := omega) only [fa_lit0, xI_le_T, xI_le_F, xI_lt_T, xI_lt_F, xI_eq_T, xI_eq_F, xN_a, xN_b, xN_c, xN_d, xN_e, xN_f, xN_g, xN_h, xI_add, xI_mul, xI_sub, xI_tn, xI_in, xI_ofNat, gi_si_eq, gi_n1, gi_n2, gl_sl_eq, gl_n1, gl_n2, gi_sl, gl_si, forall_eq, true_implies, false_implies, not_true_eq_false, not_false_eq_true, and_true, true_and, implies_true, and_self, h0 m (by omega)]
      exact ih (m + 1) (by omega)
  exact ⟨_, key i 0 (by omega)⟩
/-- the first arm that is dead in G and not in F -/
def nd (F G : Nat → Nat) (i : Nat) : Prop := G (25 + i) = 1 ∧ F (25 + i) = 0
theorem nd_or {F G : Nat → Nat} {n : Nat} (hF : OkQ n F) (hG : OkQ n G) (hn : n ≤ 5) : (∀ i, i < 5 → ¬ nd F G i) ∨ ∃ i, i < n ∧ nd F G i ∧ ∀ j, j < i → ¬ nd F G j := by
  by_cases c : ∃ i, i < 5 ∧ nd F G i
  · obtain ⟨i, ⟨hi, hw⟩, hm⟩ := pk_least (fun i => i < 5 ∧ nd F G i) c
    refine Or.inr ⟨i, ?_, hw, fun j hj w => hm j hj ⟨by omega, w⟩⟩
    refine Classical.byContradiction fun v => ?_
    have := (hG.2 i (by omega) hi).2.2.2.2.2
    unfold nd at hw
    omega
  · exact Or.inl (fun i hi w => c ⟨i, hi, w⟩)
theorem newly {F G : Nat → Nat} {n : Nat} (hF : OkQ n F) (hG : OkQ n G) : (nI (mk G 25) &&& (nI (mk F 25) ^^^ (-nI 1))) = nI (mk G 25 &&& (31 - mk F 25)) ∧ (mk G 25 &&& (31 - mk F 25)) < 32 ∧ (∀ j, j < 5 → (mk G 25 &&& (31 - mk F 25)) / 2 ^ j % 2 = G (25 + j) * (1 - F (25 + j))) := by
  have lf := mk_lt hF.d
  have lg := mk_lt hG.d
  refine ⟨and_not _ lg _ lf, and_lt _ lg _ (by omega), fun j hj => ?_⟩
  rw [and_bit _ lg _ (by omega) j hj, not_bit _ lf j hj, mk_bit hG.d hj, mk_bit hF.d hj]
theorem nd_bit {F G : Nat → Nat} {n i : Nat} (hF : OkQ n F) (hG : OkQ n G) (hi : i < 5) : (nd F G i → G (25 + i) * (1 - F (25 + i)) = 1) ∧ (¬ nd F G i → G (25 + i) * (1 - F (25 + i)) = 0) := by
  have f := hF.d i hi
  have g := hG.d i hi
  unfold nd
  rcases (show F (25 + i) = 0 ∨ F (25 + i) = 1 by omega) with a | a
  · rcases (show G (25 + i) = 0 ∨ G (25 + i) = 1 by omega) with b | b
    · rw [a, b]; exact ⟨fun w => by omega, fun _ => rfl⟩
    · rw [a, b]; exact ⟨fun _ => rfl, fun w => absurd ⟨rfl, rfl⟩ w⟩
  · rw [a, Nat.sub_self, Nat.mul_zero]
    exact ⟨fun w => by omega, fun _ => rfl⟩
theorem mk_cg {F G : Nat → Nat} {b : Nat} (h : ∀ i, i < 5 → F (b + i) = G (b + i)) : mk F b = mk G b := by
  have h0 := h 0 (by omega)
  have h1 := h 1 (by omega)
  have h2 := h 2 (by omega)
  have h3 := h 3 (by omega)
  have h4 := h 4 (by omega)
  simp only [Nat.add_zero] at h0
  unfold mk
  rw [h0, h1, h2, h3, h4]
/-- seasons k .. 40 are still to come, and none has died so far -/
theorem dies_alive {C : Nat → Nat → Nat} {F : Nat → Nat} (hC : OkC C) {k : Nat} (hw : ∀ i, i < 5 → itF C F k (25 + i) = F (25 + i)) (hno : ∀ i, i < 5 → ¬ nd F (itF C F (k + 1)) i) (hO : OkF (C 0 0) F) : ∀ i, i < 5 → itF C F (k + 1) (25 + i) = F (25 + i) := by
  intro i hi
  have g := gob_25 (F := itF C F k) hC hi
  have e : itF C F (k + 1) (25 + i) = gob C (itF C F k) (25 + i) := rfl
  have := hno i hi
  unfold nd at this
  have f := hO.d i hi
  rcases g with g | g
  · rw [e, g]; exact hw i hi
  · rw [e] at this ⊢
    omega
theorem op_dies {M : Mm} (h : Rel RDel M) : wp_B_dies M (fun r M1 => wp_M_dies M1 (fun r2 M2 => r = r2 ∧ Rel RDel M2)) := by
  obtain ⟨C, F, D, L, T, N, V, KL, hd⟩ := h.2.2.2.2.2.2.out
  obtain ⟨hC, hB, hW, hO, hF, hG, hcw⟩ := hd.parts
  have hn := hC.1
  have h60 : F 30 ≤ 60 := Nat.le_trans hd.2.2.1 hd.2.2.2.1.1
  have b1 := hB.1
  have m1 := hW.2.1
  unfold wp_B_dies
  by_cases c : C 0 0 = 0
  · simp (disch := omega) only [fa_lit0, xI_le_T, xI_le_F, xI_lt_T, xI_lt_F, xI_eq_T, xI_eq_F, xN_a, xN_b, xN_c, xN_d, xN_e, xN_f, xN_g, xN_h, xI_add, xI_mul, xI_sub, xI_tn, xI_in, xI_ofNat, gi_si_eq, gi_n1, gi_n2, gl_sl_eq, gl_n1, gl_n2, gi_sl, gl_si, forall_eq, true_implies, false_implies, not_true_eq_false, not_false_eq_true, and_true, true_and, implies_true, and_self, b1, m1, c, wp_M_dies]
    exact h
  · simp (disch := omega) only [fa_lit0, xI_le_T, xI_le_F, xI_lt_T, xI_lt_F, xI_eq_T, xI_eq_F, xN_a, xN_b, xN_c, xN_d, xN_e, xN_f, xN_g, xN_h, xI_add, xI_mul, xI_sub, xI_tn, xI_in, xI_ofNat, gi_si_eq, gi_n1, gi_n2, gl_sl_eq, gl_n1, gl_n2, gi_sl, gl_si, forall_eq, true_implies, false_implies, not_true_eq_false, not_false_eq_true, and_true, true_and, implies_true, and_self, b1]
    have cw := hcw (by omega)
    refine B_copy hF (by omega) fun M1 s1 f1 => ?_
    have e1 : EB C F M M1 := ⟨s1.mono (fun a b w => Or.inl w), cw.sm s1 (by omega), hF.sm s1 (fun b => by omega)⟩
    -- the reference's side of a season
    have inner : ∀ (Q : Int32 → Mm → Prop) (K1 : Int32 → Int32 → Mm → Prop) (K2 : Int32 → Mm → Prop) (G : Nat → Nat) (k : Nat) (M3 : Mm), k ≤ 40 → OkQ (C 0 0) G → MW C M3 → FM G M3 1 → FM F M3 0 → ((∀ i, i < 5 → ¬ nd F G i) → K2 (nI k) M3) → (∀ i, i < C 0 0 → nd F G i → (∀ j, j < i → ¬ nd F G j) → K1 (nI k) (nI i) M3) → ∃ n, lp_M_dies_32 Q K1 K2 n (nI k) (nI 0) M3 := by
      intro Q K1 K2 G k M3 hk hq w3 g1 g0 a1 a2
      have key : ∀ (d m : Nat), m + d = C 0 0 → (∀ j, j < m → ¬ nd F G j) → lp_M_dies_32 Q K1 K2 (d + 1) (nI k) (nI m) M3 := by
        intro d
        induction d with
        | zero =>
          intro m hm hj
          have hm : m = C 0 0 := by omega
          subst hm
          show k_M_dies_32 Q _ K1 K2 _ _ M3
          unfold k_M_dies_32
          simp (disch := omega) only [fa_lit0, xI_le_T, xI_le_F, xI_lt_T, xI_lt_F, xI_eq_T, xI_eq_F, xN_a, xN_b, xN_c, xN_d, xN_e, xN_f, xN_g, xN_h, xI_add, xI_mul, xI_sub, xI_tn, xI_in, xI_ofNat, gi_si_eq, gi_n1, gi_n2, gl_sl_eq, gl_n1, gl_n2, gi_sl, gl_si, forall_eq, true_implies, false_implies, not_true_eq_false, not_false_eq_true, and_true, true_and, implies_true, and_self, w3.2.1]
          refine a1 fun i hi w => ?_
          by_cases v : i < C 0 0
          · exact hj i v w
          · have := (hq.2 i (by omega) hi).2.2.2.2.2
            unfold nd at w
            omega
        | succ d ih =>
          intro m hm hj
          have ih1 : ¬ nd F G m → lp_M_dies_32 Q K1 K2 (d + 1) (nI k) (nI (m + 1)) M3 := fun w => ih (m + 1) (by omega) (fun j hj2 => by
            by_cases e : j = m
            · rw [e]; exact w
            · exact hj j (by omega))
          show k_M_dies_32 Q _ K1 K2 _ _ M3
          unfold k_M_dies_32
          simp (disch := omega) only [fa_lit0, xI_le_T, xI_le_F, xI_lt_T, xI_lt_F, xI_eq_T, xI_eq_F, xN_a, xN_b, xN_c, xN_d, xN_e, xN_f, xN_g, xN_h, xI_add, xI_mul, xI_sub, xI_tn, xI_in, xI_ofNat, gi_si_eq, gi_n1, gi_n2, gl_sl_eq, gl_n1, gl_n2, gi_sl, gl_si, forall_eq, true_implies, false_implies, not_true_eq_false, not_false_eq_true, and_true, true_and, implies_true, and_self, w3.2.1]
          have dg := hq.d m (by omega)
          have df := hO.d m (by omega)
          refine M_dead dg g1 (by omega) (by omega) ?_
          rcases (show G (25 + m) = 0 ∨ G (25 + m) = 1 by omega) with v | v
          · simp (disch := omega) only [fa_lit0, xI_le_T, xI_le_F, xI_lt_T, xI_lt_F, xI_eq_T, xI_eq_F, xN_a, xN_b, xN_c, xN_d, xN_e, xN_f, xN_g, xN_h, xI_add, xI_mul, xI_sub, xI_tn, xI_in, xI_ofNat, gi_si_eq, gi_n1, gi_n2, gl_sl_eq, gl_n1, gl_n2, gi_sl, gl_si, forall_eq, true_implies, false_implies, not_true_eq_false, not_false_eq_true, and_true, true_and, implies_true, and_self, v, k_M_dies_65]
            exact ih1 (fun w => by unfold nd at w; omega)
          · simp (disch := omega) only [fa_lit0, xI_le_T, xI_le_F, xI_lt_T, xI_lt_F, xI_eq_T, xI_eq_F, xN_a, xN_b, xN_c, xN_d, xN_e, xN_f, xN_g, xN_h, xI_add, xI_mul, xI_sub, xI_tn, xI_in, xI_ofNat, gi_si_eq, gi_n1, gi_n2, gl_sl_eq, gl_n1, gl_n2, gi_sl, gl_si, forall_eq, true_implies, false_implies, not_true_eq_false, not_false_eq_true, and_true, true_and, implies_true, and_self, v]
            refine M_dead df g0 (by omega) (by omega) ?_
            rcases (show F (25 + m) = 0 ∨ F (25 + m) = 1 by omega) with u | u
            · simp (disch := omega) only [fa_lit0, xI_le_T, xI_le_F, xI_lt_T, xI_lt_F, xI_eq_T, xI_eq_F, xN_a, xN_b, xN_c, xN_d, xN_e, xN_f, xN_g, xN_h, xI_add, xI_mul, xI_sub, xI_tn, xI_in, xI_ofNat, gi_si_eq, gi_n1, gi_n2, gl_sl_eq, gl_n1, gl_n2, gi_sl, gl_si, forall_eq, true_implies, false_implies, not_true_eq_false, not_false_eq_true, and_true, true_and, implies_true, and_self, u]
              exact a2 m (by omega) ⟨v, u⟩ hj
            · simp (disch := omega) only [fa_lit0, xI_le_T, xI_le_F, xI_lt_T, xI_lt_F, xI_eq_T, xI_eq_F, xN_a, xN_b, xN_c, xN_d, xN_e, xN_f, xN_g, xN_h, xI_add, xI_mul, xI_sub, xI_tn, xI_in, xI_ofNat, gi_si_eq, gi_n1, gi_n2, gl_sl_eq, gl_n1, gl_n2, gi_sl, gl_si, forall_eq, true_implies, false_implies, not_true_eq_false, not_false_eq_true, and_true, true_and, implies_true, and_self, u, k_M_dies_65]
              exact ih1 (fun w => by unfold nd at w; omega)
      exact ⟨_, key (C 0 0) 0 (by omega) (fun j hj => absurd hj (by omega))⟩
    have keyM : ∀ (Q : Int32 → Mm → Prop) (K : Int32 → Int32 → Mm → Prop) (M0 : Mm), ((∀ k, k < 40 → ∀ i, i < 5 → ¬ nd F (itF C F (k + 1)) i) → ∀ M', EM C F M0 M' → Q (-nI 9) M') → (∀ k i, k < 40 → i < C 0 0 → (∀ q, q < k → ∀ i, i < 5 → ¬ nd F (itF C F (q + 1)) i) → nd F (itF C F (k + 1)) i → (∀ j, j < i → ¬ nd F (itF C F (k + 1)) j) → ∀ M', EM C F M0 M' → K (nI (k + 1)) (nI i) M') → ∀ (d k : Nat), k + d = 40 → (∀ q, q < k → ∀ i, i < 5 → ¬ nd F (itF C F (q + 1)) i) → ∀ M2, EM C F M0 M2 → FM (itF C F k) M2 1 → lp_M_dies_18 Q K (d + 1) (nI (k + 1)) M2 := by
      intro Q K M0 a1 a2 d
      induction d with
      | zero =>
        intro k hk hno M2 e2 g2
        have hk : k = 40 := by omega
        subst hk
        show k_M_dies_18 Q _ K _ M2
        unfold k_M_dies_18
        simp (disch := omega) only [fa_lit0, xI_le_T, xI_le_F, xI_lt_T, xI_lt_F, xI_eq_T, xI_eq_F, xN_a, xN_b, xN_c, xN_d, xN_e, xN_f, xN_g, xN_h, xI_add, xI_mul, xI_sub, xI_tn, xI_in, xI_ofNat, gi_si_eq, gi_n1, gi_n2, gl_sl_eq, gl_n1, gl_n2, gi_sl, gl_si, forall_eq, true_implies, false_implies, not_true_eq_false, not_false_eq_true, and_true, true_and, implies_true, and_self]
        exact a1 hno M2 e2
      | succ d ih =>
        intro k hk hno M2 e2 g2
        have q1 := itF_ok hC hO h60 k (by omega)
        have q2 := itF_ok hC hO h60 (k + 1) (by omega)
        show k_M_dies_18 Q _ K _ M2
        unfold k_M_dies_18
        simp (disch := omega) only [fa_lit0, xI_le_T, xI_le_F, xI_lt_T, xI_lt_F, xI_eq_T, xI_eq_F, xN_a, xN_b, xN_c, xN_d, xN_e, xN_f, xN_g, xN_h, xI_add, xI_mul, xI_sub, xI_tn, xI_in, xI_ofNat, gi_si_eq, gi_n1, gi_n2, gl_sl_eq, gl_n1, gl_n2, gi_sl, gl_si, forall_eq, true_implies, false_implies, not_true_eq_false, not_false_eq_true, and_true, true_and, implies_true, and_self]
        refine M_passes e2.2.1 q1.1 g2 (by omega) fun M3 s3 w3 g3 i3 => ?_
        have e3 := e2.next s3 w3
        refine inner _ _ _ (itF C F (k + 1)) (k + 1) M3 (by omega) q2.1.q w3 g3 e3.2.2 ?_ ?_
        · intro w
          simp (disch := omega) only [fa_lit0, xI_le_T, xI_le_F, xI_lt_T, xI_lt_F, xI_eq_T, xI_eq_F, xN_a, xN_b, xN_c, xN_d, xN_e, xN_f, xN_g, xN_h, xI_add, xI_mul, xI_sub, xI_tn, xI_in, xI_ofNat, gi_si_eq, gi_n1, gi_n2, gl_sl_eq, gl_n1, gl_n2, gi_sl, gl_si, forall_eq, true_implies, false_implies, not_true_eq_false, not_false_eq_true, and_true, true_and, implies_true, and_self]
          refine ih (k + 1) (by omega) (fun q hq => ?_) M3 e3 g3
          by_cases e : q = k
          · rw [e]; exact w
          · exact hno q (by omega)
        · intro i hi w1 w2
          exact a2 k i (by omega) hi hno w1 w2 M3 e3
    have keyB : ∀ (Q : Int32 → Mm → Prop) (K : Int32 → Int32 → Mm → Prop), ((∀ k, k < 40 → ∀ i, i < 5 → ¬ nd F (itF C F (k + 1)) i) → ∀ M', EB C F M M' → Q (-nI 9) M') → (∀ k i t, k < 40 → i < C 0 0 → (∀ q, q < k → ∀ i, i < 5 → ¬ nd F (itF C F (q + 1)) i) → nd F (itF C F (k + 1)) i → (∀ j, j < i → ¬ nd F (itF C F (k + 1)) j) → t < 32 → t / 2 ^ i % 2 = 1 → (∀ j, j < i → t / 2 ^ j % 2 = 0) → ∀ M', EB C F M M' → K (nI (k + 1)) (nI t) M') → ∀ (d k : Nat), k + d = 40 → (∀ q, q < k → ∀ i, i < 5 → ¬ nd F (itF C F (q + 1)) i) → (∀ i, i < 5 → itF C F k (25 + i) = F (25 + i)) → ∀ M2, EB C F M M2 → FlB (itF C F k) M2 3 → lp_B_dies_29 Q K (d + 1) (nI (k + 1)) M2 := by
      intro Q K a1 a2 d
      induction d with
      | zero =>
        intro k hk hno hal M2 e2 g2
        have hk : k = 40 := by omega
        subst hk
        show k_B_dies_29 Q _ K _ M2
        unfold k_B_dies_29
        simp (disch := omega) only [fa_lit0, xI_le_T, xI_le_F, xI_lt_T, xI_lt_F, xI_eq_T, xI_eq_F, xN_a, xN_b, xN_c, xN_d, xN_e, xN_f, xN_g, xN_h, xI_add, xI_mul, xI_sub, xI_tn, xI_in, xI_ofNat, gi_si_eq, gi_n1, gi_n2, gl_sl_eq, gl_n1, gl_n2, gi_sl, gl_si, forall_eq, true_implies, false_implies, not_true_eq_false, not_false_eq_true, and_true, true_and, implies_true, and_self]
        exact a1 hno M2 e2
      | succ d ih =>
        intro k hk hno hal M2 e2 g2
        have q1 := itF_ok hC hO h60 k (by omega)
        have q2 := itF_ok hC hO h60 (k + 1) (by omega)
        show k_B_dies_29 Q _ K _ M2
        unfold k_B_dies_29
        simp (disch := omega) only [fa_lit0, xI_le_T, xI_le_F, xI_lt_T, xI_lt_F, xI_eq_T, xI_eq_F, xN_a, xN_b, xN_c, xN_d, xN_e, xN_f, xN_g, xN_h, xI_add, xI_mul, xI_sub, xI_tn, xI_in, xI_ofNat, gi_si_eq, gi_n1, gi_n2, gl_sl_eq, gl_n1, gl_n2, gi_sl, gl_si, forall_eq, true_implies, false_implies, not_true_eq_false, not_false_eq_true, and_true, true_and, implies_true, and_self, g2.2.2.2.1]
        refine B_goBy e2.2.1 q1.1 g2 (by omega) fun M3 s3 w3 g3 => ?_
        have e3 := e2.next s3 w3
        have g3' : FlB (itF C F (k + 1)) M3 3 := g3
        have cg : mk (itF C F k) 25 = mk F 25 := mk_cg hal
        obtain ⟨n1, n2, n3⟩ := newly hO.q q2.1.q
        rw [g3'.2.2.2.1, cg]
        rw [n1]
        rcases nd_or hO.q q2.1.q hn with w | ⟨i, hi, w1, w2⟩
        · have z : (mk (itF C F (k + 1)) 25 &&& (31 - mk F 25)) = 0 := by
            refine bits_ext n2 (by omega) fun j hj => ?_
            rw [n3 j hj, (nd_bit hO.q q2.1.q hj).2 (w j hj), Nat.zero_div]
          rw [z]
          simp (disch := omega) only [fa_lit0, xI_le_T, xI_le_F, xI_lt_T, xI_lt_F, xI_eq_T, xI_eq_F, xN_a, xN_b, xN_c, xN_d, xN_e, xN_f, xN_g, xN_h, xI_add, xI_mul, xI_sub, xI_tn, xI_in, xI_ofNat, gi_si_eq, gi_n1, gi_n2, gl_sl_eq, gl_n1, gl_n2, gi_sl, gl_si, forall_eq, true_implies, false_implies, not_true_eq_false, not_false_eq_true, and_true, true_and, implies_true, and_self]
          refine ih (k + 1) (by omega) (fun q hq => ?_) (dies_alive hC hal w hO) M3 e3 g3'
          by_cases e : q = k
          · rw [e]; exact w
          · exact hno q (by omega)
        · have b1 : (mk (itF C F (k + 1)) 25 &&& (31 - mk F 25)) / 2 ^ i % 2 = 1 := by rw [n3 i (by omega), (nd_bit hO.q q2.1.q (by omega)).1 w1]
          have nz : (mk (itF C F (k + 1)) 25 &&& (31 - mk F 25)) ≠ 0 := fun v => by rw [v, Nat.zero_div] at b1; omega
          simp (disch := omega) only [fa_lit0, xI_le_T, xI_le_F, xI_lt_T, xI_lt_F, xI_eq_T, xI_eq_F, xN_a, xN_b, xN_c, xN_d, xN_e, xN_f, xN_g, xN_h, xI_add, xI_mul, xI_sub, xI_tn, xI_in, xI_ofNat, gi_si_eq, gi_n1, gi_n2, gl_sl_eq, gl_n1, gl_n2, gi_sl, gl_si, forall_eq, true_implies, false_implies, not_true_eq_false, not_false_eq_true, and_true, true_and, implies_true, and_self]
          exact a2 k i _ (by omega) hi hno w1 w2 n2 b1 (fun j hj => by rw [n3 j (by omega), (nd_bit hO.q q2.1.q (by omega)).2 (w2 j hj)]) M3 e3
    have start : ∀ (Q : Int32 → Mm → Prop) (M0 : Mm), EM C F M0 M0 → ((∀ k, k < 40 → ∀ i, i < 5 → ¬ nd F (itF C F (k + 1)) i) → ∀ M', EM C F M0 M' → Q (-nI 9) M') → (∀ k i, k < 40 → i < C 0 0 → (∀ q, q < k → ∀ i, i < 5 → ¬ nd F (itF C F (q + 1)) i) → nd F (itF C F (k + 1)) i → (∀ j, j < i → ¬ nd F (itF C F (k + 1)) j) → ∀ M', EM C F M0 M' → Q (nI i) (si M' 312 2 (nI (k + 1)))) → wp_M_dies M0 Q := by
      intro Q M0 e0 a1 a2
      unfold wp_M_dies
      simp (disch := omega) only [fa_lit0, xI_le_T, xI_le_F, xI_lt_T, xI_lt_F, xI_eq_T, xI_eq_F, xN_a, xN_b, xN_c, xN_d, xN_e, xN_f, xN_g, xN_h, xI_add, xI_mul, xI_sub, xI_tn, xI_in, xI_ofNat, gi_si_eq, gi_n1, gi_n2, gl_sl_eq, gl_n1, gl_n2, gi_sl, gl_si, forall_eq, true_implies, false_implies, not_true_eq_false, not_false_eq_true, and_true, true_and, implies_true, and_self, e0.2.1.2.1]
      refine M_copyTo e0.2.2 (by omega) (by omega) (by omega) fun M2 s2 g2 => ?_
      have e2 : EM C F M0 M2 := e0.next (s2.mono (fun a b w => Or.inl w)) (e0.2.1.sm s2 (by omega))
      refine ⟨_, keyM Q _ M0 a1 ?_ 40 0 (by omega) (fun q hq => absurd hq (by omega)) M2 e2 g2⟩
      intro k i hk hi w1 w2 w3 M' e'
      simp (disch := omega) only [fa_lit0, xI_le_T, xI_le_F, xI_lt_T, xI_lt_F, xI_eq_T, xI_eq_F, xN_a, xN_b, xN_c, xN_d, xN_e, xN_f, xN_g, xN_h, xI_add, xI_mul, xI_sub, xI_tn, xI_in, xI_ofNat, gi_si_eq, gi_n1, gi_n2, gl_sl_eq, gl_n1, gl_n2, gi_sl, gl_si, forall_eq, true_implies, false_implies, not_true_eq_false, not_false_eq_true, and_true, true_and, implies_true, and_self, wp_M_tells]
      exact a2 k i hk hi w1 w2 w3 M' e'
    refine ⟨_, keyB _ _ ?_ ?_ 40 0 (by omega) (fun q hq => absurd hq (by omega)) (fun i hi => rfl) M1 e1 f1⟩
    · intro hno M2 e2
      refine start _ M2 ⟨Sm.refl _ _, hW.sm e2.1 (fun a b w => by unfold SB; omega), hG.sm e2.1 (fun b w1 w2 => by unfold SB; omega)⟩ ?_ ?_
      · intro _ M3 e3
        exact ⟨rfl, aside_fin h hd e2 e3⟩
      · intro k i hk hi w1 w2 w3 M3 e3
        exact absurd w2 (hno k hk i (by omega))
    · intro k i t hk hi w1 w2 w3 t1 t2 t3 M2 e2
      refine B_first t1 (by omega) t2 t3 ?_
      refine start _ _ (EM_t (hW.sm e2.1 (fun a b w => by unfold SB; omega)) (hG.sm e2.1 (fun b w1 w2 => by unfold SB; omega))) ?_ ?_
      · intro hno M3 e3
        exact absurd w2 (hno k hk i (by omega))
      · intro k2 i2 hk2 hi2 v1 v2 v3 M3 e3
        have ek : k2 = k := by
          refine Classical.byContradiction fun ne => ?_
          rcases (show k2 < k ∨ k < k2 by omega) with v | v
          · exact w1 k2 v i2 (by omega) v2
          · exact v1 k v i (by omega) w2
        subst ek
        have ei : i2 = i := by
          refine Classical.byContradiction fun ne => ?_
          rcases (show i2 < i ∨ i < i2 by omega) with v | v
          · exact w3 i2 v v2
          · exact v3 i v w2
        subst ei
        exact ⟨rfl, told_fin h hd e2 e3⟩
/-! run -/
def rF (C : Nat → Nat → Nat) (F : Nat → Nat) (rs : Nat → Nat) : Nat → Nat → Nat
  | 0 => F
  | k + 1 => gob C (ssF C (rs k) (rF C F rs k) (C 0 0))
def rS (C : Nat → Nat → Nat) (F : Nat → Nat) (rs : Nat → Nat) : Nat → Nat
  | 0 => 0
  | k + 1 => rS C F rs k + cnt (ssD C (rs k) (rF C F rs k) (C 0 0)) 5
def rH (C : Nat → Nat → Nat) (F : Nat → Nat) (rs : Nat → Nat) : Nat → Nat
  | 0 => 0
  | k + 1 => rH C F rs k + cnt (hv C (ssF C (rs k) (rF C F rs k) (C 0 0))) 5
theorem rF_ok {C : Nat → Nat → Nat} {F : Nat → Nat} {rs : Nat → Nat} (hC : OkC C) (hO : OkF (C 0 0) F) (h60 : F 30 ≤ 60) : ∀ k, k ≤ 40 → OkF (C 0 0) (rF C F rs k) ∧ rF C F rs k 30 = F 30 + k ∧ rS C F rs k ≤ 5 * k ∧ rH C F rs k ≤ 5 * k := by
  intro k
  induction k with
  | zero => intro _; exact ⟨hO, rfl, Nat.le_refl _, Nat.le_refl _⟩
  | succ k ih =>
    intro hk
    obtain ⟨q1, q2, q3, q4⟩ := ih (by omega)
    have q5 := q1.ss (s := rs k) hC (C 0 0) (Nat.le_refl _)
    have c1 := cnt_le (ssD C (rs k) (rF C F rs k) (C 0 0)) 5
    have c2 := cnt_le (hv C (ssF C (rs k) (rF C F rs k) (C 0 0))) 5
    refine ⟨q5.1.go hC (by omega), ?_, ?_, ?_⟩
    · show gob C _ 30 = _; rw [gob_30, q5.2]; omega
    · show rS C F rs k + _ ≤ _; omega
    · show rH C F rs k + _ ≤ _; omega
theorem op_run {a1 : Int32} {M : Mm} (h : Rel RDel M) : wp_B_run a1 M (fun r M1 => wp_M_run a1 M1 (fun r2 M2 => r = r2 ∧ Rel RDel M2)) := by
  obtain ⟨C, F, D, L, T, N, V, KL, hd⟩ := h.2.2.2.2.2.2.out
  obtain ⟨hC, hB, hW, hO, hF, hG, hcw⟩ := hd.parts
  have hn := hC.1
  have h2n := p5 hn
  have h2p : 0 < 2 ^ C 0 0 := Nat.two_pow_pos _
  have h60 : F 30 ≤ 60 := Nat.le_trans hd.2.2.1 hd.2.2.2.1.1
  have b1 := hB.1
  have m1 := hW.2.1
  rcases pk_ix a1 (n := 6) (by omega) with g | g | ⟨r, hr, rfl⟩
  · simp (disch := omega) only [fa_lit0, xI_le_T, xI_le_F, xI_lt_T, xI_lt_F, xI_eq_T, xI_eq_F, xN_a, xN_b, xN_c, xN_d, xN_e, xN_f, xN_g, xN_h, xI_add, xI_mul, xI_sub, xI_tn, xI_in, xI_ofNat, gi_si_eq, gi_n1, gi_n2, gl_sl_eq, gl_n1, gl_n2, gi_sl, gl_si, forall_eq, true_implies, false_implies, not_true_eq_false, not_false_eq_true, and_true, true_and, implies_true, and_self, wp_B_run, wp_B_deltaRowRefusal, wp_Sh_knows, ng_a g, wp_M_run, wp_M_isRow, wp_M_in, zb_0]; exact h
  · simp (disch := omega) only [fa_lit0, xI_le_T, xI_le_F, xI_lt_T, xI_lt_F, xI_eq_T, xI_eq_F, xN_a, xN_b, xN_c, xN_d, xN_e, xN_f, xN_g, xN_h, xI_add, xI_mul, xI_sub, xI_tn, xI_in, xI_ofNat, gi_si_eq, gi_n1, gi_n2, gl_sl_eq, gl_n1, gl_n2, gi_sl, gl_si, forall_eq, true_implies, false_implies, not_true_eq_false, not_false_eq_true, and_true, true_and, implies_true, and_self, wp_B_run, wp_B_deltaRowRefusal, wp_Sh_knows, bg_a g, bg_b g, bg_c g, shN_4, wp_M_run, wp_M_isRow, wp_M_in, zb_0]; exact h
  · by_cases c : C 0 0 = 0
    · simp (disch := omega) only [fa_lit0, xI_le_T, xI_le_F, xI_lt_T, xI_lt_F, xI_eq_T, xI_eq_F, xN_a, xN_b, xN_c, xN_d, xN_e, xN_f, xN_g, xN_h, xI_add, xI_mul, xI_sub, xI_tn, xI_in, xI_ofNat, gi_si_eq, gi_n1, gi_n2, gl_sl_eq, gl_n1, gl_n2, gi_sl, gl_si, forall_eq, true_implies, false_implies, not_true_eq_false, not_false_eq_true, and_true, true_and, implies_true, and_self, wp_B_run, wp_B_deltaRowRefusal, wp_Sh_knows, shN_4, b1, c, wp_M_run, wp_M_isRow, wp_M_in, zb_1, m1]; exact h
    · obtain ⟨g1, g2, g3⟩ := h.1 r hr
      rcases g2 with e | ⟨m, hm, e⟩
      · rw [e] at g1
        simp (disch := omega) only [fa_lit0, xI_le_T, xI_le_F, xI_lt_T, xI_lt_F, xI_eq_T, xI_eq_F, xN_a, xN_b, xN_c, xN_d, xN_e, xN_f, xN_g, xN_h, xI_add, xI_mul, xI_sub, xI_tn, xI_in, xI_ofNat, gi_si_eq, gi_n1, gi_n2, gl_sl_eq, gl_n1, gl_n2, gi_sl, gl_si, forall_eq, true_implies, false_implies, not_true_eq_false, not_false_eq_true, and_true, true_and, implies_true, and_self, wp_B_run, wp_B_deltaRowRefusal, wp_B_shelfRefusal, wp_Sh_isThere, wp_Sh_knows, shN_4, b1, g1, wp_B_answerFinding, wp_M_run, wp_M_isRow, wp_M_in, zb_1, m1, e, wp_M_meets]
        exact find_pair RDel_mono h (by omega)
      · rw [e] at g1
        by_cases c2 : 12 < m
        · simp (disch := omega) only [fa_lit0, xI_le_T, xI_le_F, xI_lt_T, xI_lt_F, xI_eq_T, xI_eq_F, xN_a, xN_b, xN_c, xN_d, xN_e, xN_f, xN_g, xN_h, xI_add, xI_mul, xI_sub, xI_tn, xI_in, xI_ofNat, gi_si_eq, gi_n1, gi_n2, gl_sl_eq, gl_n1, gl_n2, gi_sl, gl_si, forall_eq, true_implies, false_implies, not_true_eq_false, not_false_eq_true, and_true, true_and, implies_true, and_self, wp_B_run, wp_B_deltaRowRefusal, wp_B_shelfRefusal, wp_Sh_isThere, wp_Sh_sizeOf, wp_Sh_knows, shN_4, b1, g1, wp_B_answerFinding, wp_M_run, wp_M_isRow, wp_M_in, zb_1, m1, e, wp_M_meets]
          exact find_pair RDel_mono h (by omega)
        · have cw := hcw (by omega)
          simp (disch := omega) only [fa_lit0, xI_le_T, xI_le_F, xI_lt_T, xI_lt_F, xI_eq_T, xI_eq_F, xN_a, xN_b, xN_c, xN_d, xN_e, xN_f, xN_g, xN_h, xI_add, xI_mul, xI_sub, xI_tn, xI_in, xI_ofNat, gi_si_eq, gi_n1, gi_n2, gl_sl_eq, gl_n1, gl_n2, gi_sl, gl_si, forall_eq, true_implies, false_implies, not_true_eq_false, not_false_eq_true, and_true, true_and, implies_true, and_self, wp_B_run, wp_B_deltaRowRefusal, wp_B_shelfRefusal, wp_Sh_isThere, wp_Sh_sizeOf, wp_Sh_knows, shN_4, b1, g1]
          have hval : ∀ k, k < m → gi M 315 (40 * r + k) = gi M (7 + r) k := fun k hk => (g3 k m e hm hk).symm
          -- is it a plan?
          have isB : ∀ (Q : Int32 → Mm → Prop), ((∃ k, k < m ∧ (gi M (7 + r) k < 0 ∨ nI (2 ^ C 0 0) ≤ gi M (7 + r) k)) → Q (nI 0) M) → ((∀ k, k < m → ∃ s, s < 2 ^ C 0 0 ∧ gi M (7 + r) k = nI s) → Q (nI 1) M) → wp_B_isPlan (nI r) M Q := by
            intro Q x1 x2
            have key : ∀ (d k : Nat), k + d = m → (∀ q, q < k → ∃ s, s < 2 ^ C 0 0 ∧ gi M (7 + r) q = nI s) → lp_B_isPlan_2 (nI r) Q (d + 1) (nI k) M := by
              intro d
              induction d with
              | zero =>
                intro k hk hq
                have hk : k = m := by omega
                subst hk
                show k_B_isPlan_2 (nI r) Q _ _ M
                unfold k_B_isPlan_2
                simp (disch := omega) only [fa_lit0, xI_le_T, xI_le_F, xI_lt_T, xI_lt_F, xI_eq_T, xI_eq_F, xN_a, xN_b, xN_c, xN_d, xN_e, xN_f, xN_g, xN_h, xI_add, xI_mul, xI_sub, xI_tn, xI_in, xI_ofNat, gi_si_eq, gi_n1, gi_n2, gl_sl_eq, gl_n1, gl_n2, gi_sl, gl_si, forall_eq, true_implies, false_implies, not_true_eq_false, not_false_eq_true, and_true, true_and, implies_true, and_self, wp_Sh_sizeOf, wp_Sh_knows, shN_4, g1]
                exact x2 hq
              | succ d ih =>
                intro k hk hq
                show k_B_isPlan_2 (nI r) Q _ _ M
                unfold k_B_isPlan_2
                simp (disch := omega) only [fa_lit0, xI_le_T, xI_le_F, xI_lt_T, xI_lt_F, xI_eq_T, xI_eq_F, xN_a, xN_b, xN_c, xN_d, xN_e, xN_f, xN_g, xN_h, xI_add, xI_mul, xI_sub, xI_tn, xI_in, xI_ofNat, gi_si_eq, gi_n1, gi_n2, gl_sl_eq, gl_n1, gl_n2, gi_sl, gl_si, forall_eq, true_implies, false_implies, not_true_eq_false, not_false_eq_true, and_true, true_and, implies_true, and_self, wp_Sh_sizeOf, wp_Sh_knows, shN_4, g1]
                refine B_val (n := m) hr (by omega) (by omega) g1 ?_
                rcases pk_ix (gi M (7 + r) k) (n := 2 ^ C 0 0) (by omega) with g | g | ⟨s, hs, es⟩
                · simp (disch := omega) only [fa_lit0, xI_le_T, xI_le_F, xI_lt_T, xI_lt_F, xI_eq_T, xI_eq_F, xN_a, xN_b, xN_c, xN_d, xN_e, xN_f, xN_g, xN_h, xI_add, xI_mul, xI_sub, xI_tn, xI_in, xI_ofNat, gi_si_eq, gi_n1, gi_n2, gl_sl_eq, gl_n1, gl_n2, gi_sl, gl_si, forall_eq, true_implies, false_implies, not_true_eq_false, not_false_eq_true, and_true, true_and, implies_true, and_self, ng_a g]
                  exact x1 ⟨k, by omega, Or.inl g⟩
                · simp (disch := omega) only [fa_lit0, xI_le_T, xI_le_F, xI_lt_T, xI_lt_F, xI_eq_T, xI_eq_F, xN_a, xN_b, xN_c, xN_d, xN_e, xN_f, xN_g, xN_h, xI_add, xI_mul, xI_sub, xI_tn, xI_in, xI_ofNat, gi_si_eq, gi_n1, gi_n2, gl_sl_eq, gl_n1, gl_n2, gi_sl, gl_si, forall_eq, true_implies, false_implies, not_true_eq_false, not_false_eq_true, and_true, true_and, implies_true, and_self, bg_a g]
                  refine B_sets hC hB ?_
                  simp (disch := omega) only [fa_lit0, xI_le_T, xI_le_F, xI_lt_T, xI_lt_F, xI_eq_T, xI_eq_F, xN_a, xN_b, xN_c, xN_d, xN_e, xN_f, xN_g, xN_h, xI_add, xI_mul, xI_sub, xI_tn, xI_in, xI_ofNat, gi_si_eq, gi_n1, gi_n2, gl_sl_eq, gl_n1, gl_n2, gi_sl, gl_si, forall_eq, true_implies, false_implies, not_true_eq_false, not_false_eq_true, and_true, true_and, implies_true, and_self, bg_a g]
                  exact x1 ⟨k, by omega, Or.inr g⟩
                · simp (disch := omega) only [fa_lit0, xI_le_T, xI_le_F, xI_lt_T, xI_lt_F, xI_eq_T, xI_eq_F, xN_a, xN_b, xN_c, xN_d, xN_e, xN_f, xN_g, xN_h, xI_add, xI_mul, xI_sub, xI_tn, xI_in, xI_ofNat, gi_si_eq, gi_n1, gi_n2, gl_sl_eq, gl_n1, gl_n2, gi_sl, gl_si, forall_eq, true_implies, false_implies, not_true_eq_false, not_false_eq_true, and_true, true_and, implies_true, and_self, es]
                  refine B_sets hC hB ?_
                  simp (disch := omega) only [fa_lit0, xI_le_T, xI_le_F, xI_lt_T, xI_lt_F, xI_eq_T, xI_eq_F, xN_a, xN_b, xN_c, xN_d, xN_e, xN_f, xN_g, xN_h, xI_add, xI_mul, xI_sub, xI_tn, xI_in, xI_ofNat, gi_si_eq, gi_n1, gi_n2, gl_sl_eq, gl_n1, gl_n2, gi_sl, gl_si, forall_eq, true_implies, false_implies, not_true_eq_false, not_false_eq_true, and_true, true_and, implies_true, and_self]
                  refine ih (k + 1) (by omega) fun q hq2 => ?_
                  by_cases e : q = k
                  · rw [e]; exact ⟨s, hs, es⟩
                  · exact hq q (by omega)
            exact ⟨_, key m 0 (by omega) (fun q hq => absurd hq (by omega))⟩
          have isM : ∀ (Q : Int32 → Mm → Prop) (K : Int32 → Mm → Prop) (M0 : Mm), MW C M0 → gi M0 314 r = nI m → (∀ k, k < m → gi M0 315 (40 * r + k) = gi M (7 + r) k) → ((∃ k, k < m ∧ (gi M (7 + r) k < 0 ∨ nI (2 ^ C 0 0) ≤ gi M (7 + r) k)) → K (nI 0) M0) → ((∀ k, k < m → ∃ s, s < 2 ^ C 0 0 ∧ gi M (7 + r) k = nI s) → K (nI 1) M0) → ∃ n, lp_M_run_55 (nI r) Q K n (nI 1) (nI 0) M0 := by
            intro Q K M0 w0 e0 v0 x1 x2
            have key : ∀ (d k x : Nat), k + d = m → ((x = 1 ∧ ∀ q, q < k → ∃ s, s < 2 ^ C 0 0 ∧ gi M (7 + r) q = nI s) ∨ (x = 0 ∧ ∃ k, k < m ∧ (gi M (7 + r) k < 0 ∨ nI (2 ^ C 0 0) ≤ gi M (7 + r) k))) → lp_M_run_55 (nI r) Q K (d + 1) (nI x) (nI k) M0 := by
              intro d
              induction d with
              | zero =>
                intro k x hk hq
                have hk : k = m := by omega
                subst hk
                show k_M_run_55 (nI r) Q _ K _ _ M0
                unfold k_M_run_55
                simp (disch := omega) only [fa_lit0, xI_le_T, xI_le_F, xI_lt_T, xI_lt_F, xI_eq_T, xI_eq_F, xN_a, xN_b, xN_c, xN_d, xN_e, xN_f, xN_g, xN_h, xI_add, xI_mul, xI_sub, xI_tn, xI_in, xI_ofNat, gi_si_eq, gi_n1, gi_n2, gl_sl_eq, gl_n1, gl_n2, gi_sl, gl_si, forall_eq, true_implies, false_implies, not_true_eq_false, not_false_eq_true, and_true, true_and, implies_true, and_self, e0]
                rcases hq with ⟨e, q⟩ | ⟨e, q⟩
                · rw [e]; exact x2 q
                · rw [e]; exact x1 q
              | succ d ih =>
                intro k x hk hq
                have ih0 := ih (k + 1) 0 (by omega)
                have ih1 := ih (k + 1) 1 (by omega)
                show k_M_run_55 (nI r) Q _ K _ _ M0
                unfold k_M_run_55
                rcases hq with ⟨e, q⟩ | ⟨e, q⟩
                · subst e
                  have v := v0 k (by omega)
                  simp (disch := omega) only [fa_lit0, xI_le_T, xI_le_F, xI_lt_T, xI_lt_F, xI_eq_T, xI_eq_F, xN_a, xN_b, xN_c, xN_d, xN_e, xN_f, xN_g, xN_h, xI_add, xI_mul, xI_sub, xI_tn, xI_in, xI_ofNat, gi_si_eq, gi_n1, gi_n2, gl_sl_eq, gl_n1, gl_n2, gi_sl, gl_si, forall_eq, true_implies, false_implies, not_true_eq_false, not_false_eq_true, and_true, true_and, implies_true, and_self, e0, wp_M_rowAt, v]
                  refine M_sets w0 ?_
                  rcases pk_ix (gi M (7 + r) k) (n := 2 ^ C 0 0) (by omega) with g | g | ⟨s, hs, es⟩
                  · simp (disch := omega) only [fa_lit0, xI_le_T, xI_le_F, xI_lt_T, xI_lt_F, xI_eq_T, xI_eq_F, xN_a, xN_b, xN_c, xN_d, xN_e, xN_f, xN_g, xN_h, xI_add, xI_mul, xI_sub, xI_tn, xI_in, xI_ofNat, gi_si_eq, gi_n1, gi_n2, gl_sl_eq, gl_n1, gl_n2, gi_sl, gl_si, forall_eq, true_implies, false_implies, not_true_eq_false, not_false_eq_true, and_true, true_and, implies_true, and_self, wp_M_in, ng_a g, k_M_run_92, k_M_run_93]
                    exact ih0 (Or.inr ⟨rfl, k, by omega, Or.inl g⟩)
                  · simp (disch := omega) only [fa_lit0, xI_le_T, xI_le_F, xI_lt_T, xI_lt_F, xI_eq_T, xI_eq_F, xN_a, xN_b, xN_c, xN_d, xN_e, xN_f, xN_g, xN_h, xI_add, xI_mul, xI_sub, xI_tn, xI_in, xI_ofNat, gi_si_eq, gi_n1, gi_n2, gl_sl_eq, gl_n1, gl_n2, gi_sl, gl_si, forall_eq, true_implies, false_implies, not_true_eq_false, not_false_eq_true, and_true, true_and, implies_true, and_self, wp_M_in, bg_a g, bg_c g, k_M_run_92, k_M_run_93]
                    exact ih0 (Or.inr ⟨rfl, k, by omega, Or.inr g⟩)
                  · simp (disch := omega) only [fa_lit0, xI_le_T, xI_le_F, xI_lt_T, xI_lt_F, xI_eq_T, xI_eq_F, xN_a, xN_b, xN_c, xN_d, xN_e, xN_f, xN_g, xN_h, xI_add, xI_mul, xI_sub, xI_tn, xI_in, xI_ofNat, gi_si_eq, gi_n1, gi_n2, gl_sl_eq, gl_n1, gl_n2, gi_sl, gl_si, forall_eq, true_implies, false_implies, not_true_eq_false, not_false_eq_true, and_true, true_and, implies_true, and_self, wp_M_in, es, k_M_run_93]
                    refine ih1 (Or.inl ⟨rfl, fun q2 hq2 => ?_⟩)
                    by_cases e : q2 = k
                    · rw [e]; exact ⟨s, hs, es⟩
                    · exact q q2 (by omega)
                · subst e
                  simp (disch := omega) only [fa_lit0, xI_le_T, xI_le_F, xI_lt_T, xI_lt_F, xI_eq_T, xI_eq_F, xN_a, xN_b, xN_c, xN_d, xN_e, xN_f, xN_g, xN_h, xI_add, xI_mul, xI_sub, xI_tn, xI_in, xI_ofNat, gi_si_eq, gi_n1, gi_n2, gl_sl_eq, gl_n1, gl_n2, gi_sl, gl_si, forall_eq, true_implies, false_implies, not_true_eq_false, not_false_eq_true, and_true, true_and, implies_true, and_self, e0, k_M_run_92, k_M_run_93]
                  exact ih0 (Or.inr ⟨rfl, q⟩)
            exact ⟨_, key m 0 1 (by omega) (Or.inl ⟨rfl, fun q hq => absurd hq (by omega)⟩)⟩
          refine isB _ ?_ ?_
          · intro bad
            simp (disch := omega) only [fa_lit0, xI_le_T, xI_le_F, xI_lt_T, xI_lt_F, xI_eq_T, xI_eq_F, xN_a, xN_b, xN_c, xN_d, xN_e, xN_f, xN_g, xN_h, xI_add, xI_mul, xI_sub, xI_tn, xI_in, xI_ofNat, gi_si_eq, gi_n1, gi_n2, gl_sl_eq, gl_n1, gl_n2, gi_sl, gl_si, forall_eq, true_implies, false_implies, not_true_eq_false, not_false_eq_true, and_true, true_and, implies_true, and_self, wp_B_answerFinding, wp_M_run, wp_M_isRow, wp_M_in, zb_1, m1, e]
            refine isM _ _ _ ?_ (by simp (disch := omega) only [fa_lit0, xI_le_T, xI_le_F, xI_lt_T, xI_lt_F, xI_eq_T, xI_eq_F, xN_a, xN_b, xN_c, xN_d, xN_e, xN_f, xN_g, xN_h, xI_add, xI_mul, xI_sub, xI_tn, xI_in, xI_ofNat, gi_si_eq, gi_n1, gi_n2, gl_sl_eq, gl_n1, gl_n2, gi_sl, gl_si, forall_eq, true_implies, false_implies, not_true_eq_false, not_false_eq_true, and_true, true_and, implies_true, and_self, e]) (fun k hk => by simp (disch := omega) only [fa_lit0, xI_le_T, xI_le_F, xI_lt_T, xI_lt_F, xI_eq_T, xI_eq_F, xN_a, xN_b, xN_c, xN_d, xN_e, xN_f, xN_g, xN_h, xI_add, xI_mul, xI_sub, xI_tn, xI_in, xI_ofNat, gi_si_eq, gi_n1, gi_n2, gl_sl_eq, gl_n1, gl_n2, gi_sl, gl_si, forall_eq, true_implies, false_implies, not_true_eq_false, not_false_eq_true, and_true, true_and, implies_true, and_self, hval k hk]) ?_ ?_
            · exact hW.sm (S := fun a _ => a = 0 ∨ a = 1) (((Sm.refl _ M).wi (Or.inl rfl)).wi (Or.inr rfl)) (by omega)
            · intro _
              simp (disch := omega) only [fa_lit0, xI_le_T, xI_le_F, xI_lt_T, xI_lt_F, xI_eq_T, xI_eq_F, xN_a, xN_b, xN_c, xN_d, xN_e, xN_f, xN_g, xN_h, xI_add, xI_mul, xI_sub, xI_tn, xI_in, xI_ofNat, gi_si_eq, gi_n1, gi_n2, gl_sl_eq, gl_n1, gl_n2, gi_sl, gl_si, forall_eq, true_implies, false_implies, not_true_eq_false, not_false_eq_true, and_true, true_and, implies_true, and_self, wp_M_meets]
              exact find_pair RDel_mono h (by omega)
            · intro good
              obtain ⟨k, hk, hb⟩ := bad
              obtain ⟨s, hs, es⟩ := good k hk
              rw [es] at hb
              rcases hb with w | w
              · exact absurd w (by rw [show (0 : Int32) = nI 0 from rfl]; simp (disch := omega) only [fa_lit0, xI_le_T, xI_le_F, xI_lt_T, xI_lt_F, xI_eq_T, xI_eq_F, xN_a, xN_b, xN_c, xN_d, xN_e, xN_f, xN_g, xN_h, xI_add, xI_mul, xI_sub, xI_tn, xI_in, xI_ofNat, gi_si_eq, gi_n1, gi_n2, gl_sl_eq, gl_n1, gl_n2, gi_sl, gl_si, forall_eq, true_implies, false_implies, not_true_eq_false, not_false_eq_true, and_true, true_and, implies_true, and_self])
              · exact absurd w (by simp (disch := omega) only [fa_lit0, xI_le_T, xI_le_F, xI_lt_T, xI_lt_F, xI_eq_T, xI_eq_F, xN_a, xN_b, xN_c, xN_d, xN_e, xN_f, xN_g, xN_h, xI_add, xI_mul, xI_sub, xI_tn, xI_in, xI_ofNat, gi_si_eq, gi_n1, gi_n2, gl_sl_eq, gl_n1, gl_n2, gi_sl, gl_si, forall_eq, true_implies, false_implies, not_true_eq_false, not_false_eq_true, and_true, true_and, implies_true, and_self])
          · intro good
            have gc : ∃ rs : Nat → Nat, ∀ k, k < m → rs k < 2 ^ C 0 0 ∧ gi M (7 + r) k = nI (rs k) := ⟨fun k => if hk : k < m then Classical.choose (good k hk) else 0, fun k hk => by dsimp only; rw [dif_pos hk]; exact Classical.choose_spec (good k hk)⟩
            obtain ⟨rs, hrs⟩ := gc
            simp (disch := omega) only [fa_lit0, xI_le_T, xI_le_F, xI_lt_T, xI_lt_F, xI_eq_T, xI_eq_F, xN_a, xN_b, xN_c, xN_d, xN_e, xN_f, xN_g, xN_h, xI_add, xI_mul, xI_sub, xI_tn, xI_in, xI_ofNat, gi_si_eq, gi_n1, gi_n2, gl_sl_eq, gl_n1, gl_n2, gi_sl, gl_si, forall_eq, true_implies, false_implies, not_true_eq_false, not_false_eq_true, and_true, true_and, implies_true, and_self]
            refine B_copy hF (by omega) fun M1 s1 f1 => ?_
            have e1 : EB C F M M1 := ⟨s1.mono (fun a b w => Or.inl w), cw.sm s1 (by omega), hF.sm s1 (fun b => by omega)⟩
            have keyB : ∀ (Q : Int32 → Mm → Prop), (∀ M', EB C F M M' → Q (nI (rH C F rs m)) (si M' 0 13 (nI (rS C F rs m)))) → ∀ (d k : Nat), k + d = m → ∀ M2, EB C F M M2 → FlB (rF C F rs k) M2 3 → lp_B_run_67 (nI r) Q (d + 1) (nI (rH C F rs k)) (nI (rS C F rs k)) (nI k) M2 := by
              intro Q hQ d
              induction d with
              | zero =>
                intro k hk M2 e2 f2
                have hk : k = m := by omega
                subst hk
                have g1' := (e2.1.g (a := 5) (b := r) (by unfold SB; omega)).trans g1
                show k_B_run_67 (nI r) Q _ _ _ _ M2
                unfold k_B_run_67
                simp (disch := omega) only [fa_lit0, xI_le_T, xI_le_F, xI_lt_T, xI_lt_F, xI_eq_T, xI_eq_F, xN_a, xN_b, xN_c, xN_d, xN_e, xN_f, xN_g, xN_h, xI_add, xI_mul, xI_sub, xI_tn, xI_in, xI_ofNat, gi_si_eq, gi_n1, gi_n2, gl_sl_eq, gl_n1, gl_n2, gi_sl, gl_si, forall_eq, true_implies, false_implies, not_true_eq_false, not_false_eq_true, and_true, true_and, implies_true, and_self, wp_Sh_sizeOf, wp_Sh_knows, shN_4, g1']
                exact hQ M2 e2
              | succ d ih =>
                intro k hk M2 e2 f2
                obtain ⟨q1, q2, q3, q4⟩ := rF_ok (rs := rs) hC hO h60 k (by omega)
                obtain ⟨r1, r2⟩ := hrs k (by omega)
                have q5 := q1.ss (s := rs k) hC (C 0 0) (Nat.le_refl _)
                have g1' := (e2.1.g (a := 5) (b := r) (by unfold SB; omega)).trans g1
                have r2' := (e2.1.g (a := 7 + r) (b := k) (by unfold SB; omega)).trans r2
                show k_B_run_67 (nI r) Q _ _ _ _ M2
                unfold k_B_run_67
                simp (disch := omega) only [fa_lit0, xI_le_T, xI_le_F, xI_lt_T, xI_lt_F, xI_eq_T, xI_eq_F, xN_a, xN_b, xN_c, xN_d, xN_e, xN_f, xN_g, xN_h, xI_add, xI_mul, xI_sub, xI_tn, xI_in, xI_ofNat, gi_si_eq, gi_n1, gi_n2, gl_sl_eq, gl_n1, gl_n2, gi_sl, gl_si, forall_eq, true_implies, false_implies, not_true_eq_false, not_false_eq_true, and_true, true_and, implies_true, and_self, wp_Sh_sizeOf, wp_Sh_knows, shN_4, g1']
                refine B_val (n := m) hr (by omega) (by omega) g1' ?_
                rw [r2']
                refine B_stampSet e2.2.1 q1 f2 (by omega) (by omega) fun M3 s3 w3 f3 => ?_
                refine J_bits_ok (lt_32 (ssD_lt _ hn) hn) ?_
                simp (disch := omega) only [fa_lit0, xI_le_T, xI_le_F, xI_lt_T, xI_lt_F, xI_eq_T, xI_eq_F, xN_a, xN_b, xN_c, xN_d, xN_e, xN_f, xN_g, xN_h, xI_add, xI_mul, xI_sub, xI_tn, xI_in, xI_ofNat, gi_si_eq, gi_n1, gi_n2, gl_sl_eq, gl_n1, gl_n2, gi_sl, gl_si, forall_eq, true_implies, false_implies, not_true_eq_false, not_false_eq_true, and_true, true_and, implies_true, and_self]
                refine B_goBy w3 q5.1 f3 (by omega) fun M4 s4 w4 f4 => ?_
                refine J_bits_ok (hv_lt hC _) ?_
                simp (disch := omega) only [fa_lit0, xI_le_T, xI_le_F, xI_lt_T, xI_lt_F, xI_eq_T, xI_eq_F, xN_a, xN_b, xN_c, xN_d, xN_e, xN_f, xN_g, xN_h, xI_add, xI_mul, xI_sub, xI_tn, xI_in, xI_ofNat, gi_si_eq, gi_n1, gi_n2, gl_sl_eq, gl_n1, gl_n2, gi_sl, gl_si, forall_eq, true_implies, false_implies, not_true_eq_false, not_false_eq_true, and_true, true_and, implies_true, and_self]
                exact ih (k + 1) (by omega) M4 ((e2.next s3 w3).next s4 w4) f4
            refine ⟨_, keyB _ ?_ m 0 (by omega) M1 e1 f1⟩
            intro M2 e2
            have mw2 : MW C (si M2 0 13 (nI (rS C F rs m))) := w0 (hW.sm e2.1 (fun a b w => by unfold SB; omega))
            have s02 : Sm (fun a b => SB 3 a b ∨ (a = 0 ∧ b = 13)) M (si M2 0 13 (nI (rS C F rs m))) := (e2.1.mono (fun a b w => Or.inl w)).wi (Or.inr ⟨rfl, rfl⟩)
            have e314 := (s02.g (a := 314) (b := r) (by unfold SB; omega)).trans e
            have v315 : ∀ k, k < m → gi (si M2 0 13 (nI (rS C F rs m))) 315 (40 * r + k) = gi M (7 + r) k := fun k hk => (s02.g (by unfold SB; omega)).trans (hval k hk)
            have em0 : EM C F (si M2 0 13 (nI (rS C F rs m))) (si M2 0 13 (nI (rS C F rs m))) := EM_t (hW.sm e2.1 (fun a b w => by unfold SB; omega)) (hG.sm e2.1 (fun b w1 w2 => by unfold SB; omega))
            have fin : ∀ M', EM C F (si M2 0 13 (nI (rS C F rs m))) M' → Rel RDel (si M' 312 2 (nI (rS C F rs m))) := fun M' m' => told_fin h hd e2 m'
            generalize si M2 0 13 (nI (rS C F rs m)) = M3 at *
            simp (disch := omega) only [fa_lit0, xI_le_T, xI_le_F, xI_lt_T, xI_lt_F, xI_eq_T, xI_eq_F, xN_a, xN_b, xN_c, xN_d, xN_e, xN_f, xN_g, xN_h, xI_add, xI_mul, xI_sub, xI_tn, xI_in, xI_ofNat, gi_si_eq, gi_n1, gi_n2, gl_sl_eq, gl_n1, gl_n2, gi_sl, gl_si, forall_eq, true_implies, false_implies, not_true_eq_false, not_false_eq_true, and_true, true_and, implies_true, and_self, wp_M_run, wp_M_isRow, wp_M_in, zb_1, mw2.2.1, e314]
            refine isM _ _ _ mw2 e314 v315 ?_ ?_
            · rintro ⟨k, hk, hb⟩
              obtain ⟨s, hs, es⟩ := good k hk
              rw [es] at hb
              rcases hb with w | w
              · exact absurd w (by rw [show (0 : Int32) = nI 0 from rfl]; simp (disch := omega) only [fa_lit0, xI_le_T, xI_le_F, xI_lt_T, xI_lt_F, xI_eq_T, xI_eq_F, xN_a, xN_b, xN_c, xN_d, xN_e, xN_f, xN_g, xN_h, xI_add, xI_mul, xI_sub, xI_tn, xI_in, xI_ofNat, gi_si_eq, gi_n1, gi_n2, gl_sl_eq, gl_n1, gl_n2, gi_sl, gl_si, forall_eq, true_implies, false_implies, not_true_eq_false, not_false_eq_true, and_true, true_and, implies_true, and_self])
              · exact absurd w (by simp (disch := omega) only [fa_lit0, xI_le_T, xI_le_F, xI_lt_T, xI_lt_F, xI_eq_T, xI_eq_F, xN_a, xN_b, xN_c, xN_d, xN_e, xN_f, xN_g, xN_h, xI_add, xI_mul, xI_sub, xI_tn, xI_in, xI_ofNat, gi_si_eq, gi_n1, gi_n2, gl_sl_eq, gl_n1, gl_n2, gi_sl, gl_si, forall_eq, true_implies, false_implies, not_true_eq_false, not_false_eq_true, and_true, true_and, implies_true, and_self])
            · intro _
              simp (disch := omega) only [fa_lit0, xI_le_T, xI_le_F, xI_lt_T, xI_lt_F, xI_eq_T, xI_eq_F, xN_a, xN_b, xN_c, xN_d, xN_e, xN_f, xN_g, xN_h, xI_add, xI_mul, xI_sub, xI_tn, xI_in, xI_ofNat, gi_si_eq, gi_n1, gi_n2, gl_sl_eq, gl_n1, gl_n2, gi_sl, gl_si, forall_eq, true_implies, false_implies, not_true_eq_false, not_false_eq_true, and_true, true_and, implies_true, and_self]
              refine M_copyTo em0.2.2 (by omega) (by omega) (by omega) fun M4 s4 g4 => ?_
              have em4 : EM C F M3 M4 := em0.next (s4.mono (fun a b w => Or.inl w)) (mw2.sm s4 (by omega))
              have keyM : ∀ (Q : Int32 → Mm → Prop) (K : Int32 → Int32 → Mm → Prop), (∀ M', EM C F M3 M' → K (nI (rS C F rs m)) (nI (rH C F rs m)) M') → ∀ (d k : Nat), k + d = m → ∀ M5, EM C F M3 M5 → FM (rF C F rs k) M5 1 → lp_M_run_124 (nI r) Q K (d + 1) (nI (rS C F rs k)) (nI (rH C F rs k)) (nI k) M5 := by
                intro Q K hQ d
                induction d with
                | zero =>
                  intro k hk M5 e5 f5
                  have hk : k = m := by omega
                  subst hk
                  have g1' := (e5.1.g (a := 314) (b := r) (by unfold SM; omega)).trans e314
                  show k_M_run_124 (nI r) Q _ K _ _ _ M5
                  unfold k_M_run_124
                  simp (disch := omega) only [fa_lit0, xI_le_T, xI_le_F, xI_lt_T, xI_lt_F, xI_eq_T, xI_eq_F, xN_a, xN_b, xN_c, xN_d, xN_e, xN_f, xN_g, xN_h, xI_add, xI_mul, xI_sub, xI_tn, xI_in, xI_ofNat, gi_si_eq, gi_n1, gi_n2, gl_sl_eq, gl_n1, gl_n2, gi_sl, gl_si, forall_eq, true_implies, false_implies, not_true_eq_false, not_false_eq_true, and_true, true_and, implies_true, and_self, g1']
                  exact hQ M5 e5
                | succ d ih =>
                  intro k hk M5 e5 f5
                  obtain ⟨q1, q2, q3, q4⟩ := rF_ok (rs := rs) hC hO h60 k (by omega)
                  obtain ⟨r1, r2⟩ := hrs k (by omega)
                  have q5 := q1.ss (s := rs k) hC (C 0 0) (Nat.le_refl _)
                  have g1' := (e5.1.g (a := 314) (b := r) (by unfold SM; omega)).trans e314
                  have r2' := ((e5.1.g (a := 315) (b := 40 * r + k) (by unfold SM; omega)).trans (v315 k (by omega))).trans r2
                  show k_M_run_124 (nI r) Q _ K _ _ _ M5
                  unfold k_M_run_124
                  simp (disch := omega) only [fa_lit0, xI_le_T, xI_le_F, xI_lt_T, xI_lt_F, xI_eq_T, xI_eq_F, xN_a, xN_b, xN_c, xN_d, xN_e, xN_f, xN_g, xN_h, xI_add, xI_mul, xI_sub, xI_tn, xI_in, xI_ofNat, gi_si_eq, gi_n1, gi_n2, gl_sl_eq, gl_n1, gl_n2, gi_sl, gl_si, forall_eq, true_implies, false_implies, not_true_eq_false, not_false_eq_true, and_true, true_and, implies_true, and_self, g1', wp_M_rowAt, r2']
                  refine M_stampsOf e5.2.1 q1 f5 (by omega) (by omega) fun M6 s6 w6 f6 => ?_
                  refine M_bits (lt_32 (ssD_lt _ hn) hn) ?_
                  simp (disch := omega) only [fa_lit0, xI_le_T, xI_le_F, xI_lt_T, xI_lt_F, xI_eq_T, xI_eq_F, xN_a, xN_b, xN_c, xN_d, xN_e, xN_f, xN_g, xN_h, xI_add, xI_mul, xI_sub, xI_tn, xI_in, xI_ofNat, gi_si_eq, gi_n1, gi_n2, gl_sl_eq, gl_n1, gl_n2, gi_sl, gl_si, forall_eq, true_implies, false_implies, not_true_eq_false, not_false_eq_true, and_true, true_and, implies_true, and_self]
                  refine M_passes w6 q5.1 f6 (by omega) fun M7 s7 w7 f7 i7 => ?_
                  simp (disch := omega) only [fa_lit0, xI_le_T, xI_le_F, xI_lt_T, xI_lt_F, xI_eq_T, xI_eq_F, xN_a, xN_b, xN_c, xN_d, xN_e, xN_f, xN_g, xN_h, xI_add, xI_mul, xI_sub, xI_tn, xI_in, xI_ofNat, gi_si_eq, gi_n1, gi_n2, gl_sl_eq, gl_n1, gl_n2, gi_sl, gl_si, forall_eq, true_implies, false_implies, not_true_eq_false, not_false_eq_true, and_true, true_and, implies_true, and_self]
                  exact ih (k + 1) (by omega) M7 ((e5.next s6 w6).next s7 w7) f7
              refine ⟨_, keyM _ _ ?_ m 0 (by omega) M4 em4 g4⟩
              intro M5 e5
              simp (disch := omega) only [fa_lit0, xI_le_T, xI_le_F, xI_lt_T, xI_lt_F, xI_eq_T, xI_eq_F, xN_a, xN_b, xN_c, xN_d, xN_e, xN_f, xN_g, xN_h, xI_add, xI_mul, xI_sub, xI_tn, xI_in, xI_ofNat, gi_si_eq, gi_n1, gi_n2, gl_sl_eq, gl_n1, gl_n2, gi_sl, gl_si, forall_eq, true_implies, false_implies, not_true_eq_false, not_false_eq_true, and_true, true_and, implies_true, and_self, wp_M_tells]
              exact fin M5 e5
