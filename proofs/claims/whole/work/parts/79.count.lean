/-! counts -/
def sm (f : Nat → Nat) : Nat → Nat
  | 0 => 0
  | m + 1 => sm f m + f m
theorem sm_le {f : Nat → Nat} {c : Nat} : ∀ m, (∀ i, i < m → f i ≤ c) → sm f m ≤ c * m := by
  intro m
  induction m with
  | zero => intro _; exact Nat.le_refl _
  | succ m ih =>
    intro h
    have h1 := ih (fun i hi => h i (by omega))
    have h2 := h m (by omega)
    show sm f m + f m ≤ c * (m + 1)
    rw [Nat.mul_add, Nat.mul_one]
    omega
theorem sm_cg {f g : Nat → Nat} : ∀ m, (∀ i, i < m → f i = g i) → sm f m = sm g m := by
  intro m
  induction m with
  | zero => intro _; rfl
  | succ m ih =>
    intro h
    show sm f m + f m = sm g m + g m
    rw [ih (fun i hi => h i (by omega)), h m (by omega)]
theorem sm_n {f : Nat → Nat} {n : Nat} (h : ∀ i, n ≤ i → i < 5 → f i = 0) (hn : n ≤ 5) : sm f 5 = sm f n := by
  have : ∀ d, n + d ≤ 5 → sm f (n + d) = sm f n := by
    intro d
    induction d with
    | zero => intro _; rfl
    | succ d ih =>
      intro hd
      show sm f (n + d) + f (n + d) = _
      rw [ih (by omega), h (n + d) (by omega) (by omega), Nat.add_zero]
  have := this (5 - n) (by omega)
  rwa [show n + (5 - n) = 5 by omega] at this
theorem cnt_sm (s : Nat) : ∀ m, cnt s m = sm (fun i => s / 2 ^ i % 2) m := by
  intro m
  induction m with
  | zero => rfl
  | succ m ih => show cnt s m + _ = sm _ m + _; rw [ih]
def slty (C : Nat → Nat → Nat) (i : Nat) : Nat := if C 1 i = 2 ∨ C 1 i = 4 then 1 else 0
def tm (C : Nat → Nat → Nat) (F : Nat → Nat) (w i : Nat) : Nat := if w = 3 then F (25 + i) else if w = 4 then F (20 + i) else if w = 5 then slty C i else if w = 9 then F (15 + i) else 0
def thr (M : Mm) (k i : Nat) : Nat := if gi M k i = -nI 1 then 0 else 1
def cv (C : Nat → Nat → Nat) (F : Nat → Nat) (D : Nat) (T : Nat → Nat → Nat) (M : Mm) (w : Nat) : Nat :=
  if w = 0 then C 0 0 else if w = 1 then C 0 1 else if w = 2 then D else
  sm (tm C F w) (C 0 0) + (if w = 6 then sm (thr M 314) 6 else 0) + (if w = 7 then sm (thr M 317) 4 else 0) + (if w = 8 then sm (fun k => T k 0) 3 else 0)
theorem sw9 : ∀ w, w < 10 → ((nI w).toInt < 0 ∨ 9 < (nI w).toInt ↔ False) := by decide +kernel
theorem sw9e {w : Nat} (h : w < 10) : ((nI w).toInt < 0 ∨ 9 < (nI w).toInt) = False := propext (sw9 w h)
theorem B_there {k N : Nat} {M : Mm} (hN : shN k = N) (hN6 : N ≤ 6) (hs : ∀ i, i < N → szOk (gi M (k + 1) i) 60) {Q : Int32 → Mm → Prop} (h : Q (nI (sm (thr M (k + 1)) N)) M) : wp_Sh_countThere k M Q := by
  have key : ∀ (d m : Nat), m + d = N → lp_Sh_countThere_4 k Q (d + 1) (nI (sm (thr M (k + 1)) m)) (nI m) M := by
    intro d
    induction d with
    | zero =>
      intro m hm
      have hm : m = N := by omega
      subst hm
      show k_Sh_countThere_4 k Q _ _ _ M
      unfold k_Sh_countThere_4
      simp (disch := omega) only [fa_lit0, xI_le_T, xI_le_F, xI_lt_T, xI_lt_F, xI_eq_T, xI_eq_F, xN_a, xN_b, xN_c, xN_d, xN_e, xN_f, xN_g, xN_h, xI_add, xI_mul, xI_sub, xI_tn, xI_in, xI_ofNat, gi_si_eq, gi_n1, gi_n2, gl_sl_eq, gl_n1, gl_n2, gi_sl, gl_si, forall_eq, true_implies, false_implies, not_true_eq_false, not_false_eq_true, and_true, true_and, implies_true, and_self, hN]
      exact h
    | succ d ih =>
      intro m hm
      have ih1 := ih (m + 1) (by omega)
      rw [show sm (thr M (k + 1)) (m + 1) = sm (thr M (k + 1)) m + thr M (k + 1) m from rfl] at ih1
      unfold thr at ih1
      show k_Sh_countThere_4 k Q _ _ _ M
      unfold k_Sh_countThere_4 thr
      by_cases c : gi M (k + 1) m = -nI 1
      · rw [if_pos c] at ih1
        simp (disch := omega) only [fa_lit0, xI_le_T, xI_le_F, xI_lt_T, xI_lt_F, xI_eq_T, xI_eq_F, xN_a, xN_b, xN_c, xN_d, xN_e, xN_f, xN_g, xN_h, xI_add, xI_mul, xI_sub, xI_tn, xI_in, xI_ofNat, gi_si_eq, gi_n1, gi_n2, gl_sl_eq, gl_n1, gl_n2, gi_sl, gl_si, forall_eq, true_implies, false_implies, not_true_eq_false, not_false_eq_true, and_true, true_and, implies_true, and_self, hN, c, k_Sh_countThere_29]
        exact ih1
      · rw [if_neg c] at ih1
        simp (disch := omega) only [fa_lit0, xI_le_T, xI_le_F, xI_lt_T, xI_lt_F, xI_eq_T, xI_eq_F, xN_a, xN_b, xN_c, xN_d, xN_e, xN_f, xN_g, xN_h, xI_add, xI_mul, xI_sub, xI_tn, xI_in, xI_ofNat, gi_si_eq, gi_n1, gi_n2, gl_sl_eq, gl_n1, gl_n2, gi_sl, gl_si, forall_eq, true_implies, false_implies, not_true_eq_false, not_false_eq_true, and_true, true_and, implies_true, and_self, hN, c, k_Sh_countThere_29]
        exact ih1
  exact ⟨_, key N 0 (by omega)⟩
theorem thr_eq {M : Mm} {k k2 N : Nat} (h : ∀ i, i < N → gi M k i = gi M k2 i) : sm (thr M k) N = sm (thr M k2) N := sm_cg N (fun i hi => by unfold thr; rw [h i hi])
theorem B_count {C : Nat → Nat → Nat} {F : Nat → Nat} {D : Nat} {L T N V : Nat → Nat → Nat} {KL : Nat → Nat → Nat → Nat} {M : Mm} {w : Nat} (h : Rel RDel M) (hd : Sta C F D L T N V KL M) (hw : w < 10) {Q : Int32 → Mm → Prop} (hQ : Q (nI (cv C F D T M w)) M) : wp_B_count (nI w) M Q := by
  obtain ⟨hC, hB, hW, hO, hF, hG, hcw⟩ := hd.parts
  have hn := hC.1
  have b1 := hB.1
  have b2 := hB.2.1
  have l2 := hd.2.2.2.1.2.1
  have rk := hd.2.2.2.2.1
  have ld := mk_lt hO.d
  have lb := mk_lt hO.b
  unfold cv at hQ
  unfold wp_B_count
  rw [sw9e hw]
  rcases (show w = 0 ∨ w = 1 ∨ w = 2 ∨ w = 3 ∨ w = 4 ∨ w = 5 ∨ w = 6 ∨ w = 7 ∨ w = 8 ∨ w = 9 by omega) with e | e | e | e | e | e | e | e | e | e <;> subst e
  · simp (disch := omega) only [fa_lit0, xI_le_T, xI_le_F, xI_lt_T, xI_lt_F, xI_eq_T, xI_eq_F, xN_a, xN_b, xN_c, xN_d, xN_e, xN_f, xN_g, xN_h, xI_add, xI_mul, xI_sub, xI_tn, xI_in, xI_ofNat, gi_si_eq, gi_n1, gi_n2, gl_sl_eq, gl_n1, gl_n2, gi_sl, gl_si, forall_eq, true_implies, false_implies, not_true_eq_false, not_false_eq_true, and_true, true_and, implies_true, and_self, b1]; exact hQ
  · simp (disch := omega) only [fa_lit0, xI_le_T, xI_le_F, xI_lt_T, xI_lt_F, xI_eq_T, xI_eq_F, xN_a, xN_b, xN_c, xN_d, xN_e, xN_f, xN_g, xN_h, xI_add, xI_mul, xI_sub, xI_tn, xI_in, xI_ofNat, gi_si_eq, gi_n1, gi_n2, gl_sl_eq, gl_n1, gl_n2, gi_sl, gl_si, forall_eq, true_implies, false_implies, not_true_eq_false, not_false_eq_true, and_true, true_and, implies_true, and_self, b2]; exact hQ
  · simp (disch := omega) only [fa_lit0, xI_le_T, xI_le_F, xI_lt_T, xI_lt_F, xI_eq_T, xI_eq_F, xN_a, xN_b, xN_c, xN_d, xN_e, xN_f, xN_g, xN_h, xI_add, xI_mul, xI_sub, xI_tn, xI_in, xI_ofNat, gi_si_eq, gi_n1, gi_n2, gl_sl_eq, gl_n1, gl_n2, gi_sl, gl_si, forall_eq, true_implies, false_implies, not_true_eq_false, not_false_eq_true, and_true, true_and, implies_true, and_self, l2]; exact hQ
  · simp (disch := omega) only [fa_lit0, xI_le_T, xI_le_F, xI_lt_T, xI_lt_F, xI_eq_T, xI_eq_F, xN_a, xN_b, xN_c, xN_d, xN_e, xN_f, xN_g, xN_h, xI_add, xI_mul, xI_sub, xI_tn, xI_in, xI_ofNat, gi_si_eq, gi_n1, gi_n2, gl_sl_eq, gl_n1, gl_n2, gi_sl, gl_si, forall_eq, true_implies, false_implies, not_true_eq_false, not_false_eq_true, and_true, true_and, implies_true, and_self, hF.2.2.2.1]
    refine J_bits_ok ld ?_
    rw [cnt_sm, sm_cg (g := fun i => F (25 + i)) 5 (fun i hi => hO.db hi), sm_n (n := C 0 0) (fun i h1 h2 => (hO.2.2 i h1 h2).2.2.2.2.2) hn]
    have e : sm (tm C F 3) (C 0 0) = sm (fun i => F (25 + i)) (C 0 0) := sm_cg _ (fun i hi => rfl)
    rw [if_neg (by omega), if_neg (by omega), if_neg (by omega), if_neg (by omega), if_neg (by omega), if_neg (by omega), e] at hQ
    exact hQ
  · simp (disch := omega) only [fa_lit0, xI_le_T, xI_le_F, xI_lt_T, xI_lt_F, xI_eq_T, xI_eq_F, xN_a, xN_b, xN_c, xN_d, xN_e, xN_f, xN_g, xN_h, xI_add, xI_mul, xI_sub, xI_tn, xI_in, xI_ofNat, gi_si_eq, gi_n1, gi_n2, gl_sl_eq, gl_n1, gl_n2, gi_sl, gl_si, forall_eq, true_implies, false_implies, not_true_eq_false, not_false_eq_true, and_true, true_and, implies_true, and_self, hF.2.2.1]
    refine J_bits_ok lb ?_
    rw [cnt_sm, sm_cg (g := fun i => F (20 + i)) 5 (fun i hi => hO.bb hi), sm_n (n := C 0 0) (fun i h1 h2 => (hO.2.2 i h1 h2).2.2.2.2.1) hn]
    have e : sm (tm C F 4) (C 0 0) = sm (fun i => F (20 + i)) (C 0 0) := sm_cg _ (fun i hi => rfl)
    rw [if_neg (by omega), if_neg (by omega), if_neg (by omega), if_neg (by omega), if_neg (by omega), if_neg (by omega), e] at hQ
    exact hQ
  · simp (disch := omega) only [fa_lit0, xI_le_T, xI_le_F, xI_lt_T, xI_lt_F, xI_eq_T, xI_eq_F, xN_a, xN_b, xN_c, xN_d, xN_e, xN_f, xN_g, xN_h, xI_add, xI_mul, xI_sub, xI_tn, xI_in, xI_ofNat, gi_si_eq, gi_n1, gi_n2, gl_sl_eq, gl_n1, gl_n2, gi_sl, gl_si, forall_eq, true_implies, false_implies, not_true_eq_false, not_false_eq_true, and_true, true_and, implies_true, and_self]
    have e : sm (tm C F 5) (C 0 0) = sm (slty C) (C 0 0) := sm_cg _ (fun i hi => rfl)
    rw [if_neg (by omega), if_neg (by omega), if_neg (by omega), if_neg (by omega), if_neg (by omega), if_neg (by omega), e] at hQ
    have key : ∀ (d m : Nat), m + d = C 0 0 → lp_Ch_countOf_4 20 (nI 2) Q (d + 1) (nI (sm (slty C) m)) (nI m) M := by
      intro d
      induction d with
      | zero =>
        intro m hm
        have hm : m = C 0 0 := by omega
        subst hm
        show k_Ch_countOf_4 20 (nI 2) Q _ _ _ M
        unfold k_Ch_countOf_4
        simp (disch := omega) only [fa_lit0, xI_le_T, xI_le_F, xI_lt_T, xI_lt_F, xI_eq_T, xI_eq_F, xN_a, xN_b, xN_c, xN_d, xN_e, xN_f, xN_g, xN_h, xI_add, xI_mul, xI_sub, xI_tn, xI_in, xI_ofNat, gi_si_eq, gi_n1, gi_n2, gl_sl_eq, gl_n1, gl_n2, gi_sl, gl_si, forall_eq, true_implies, false_implies, not_true_eq_false, not_false_eq_true, and_true, true_and, implies_true, and_self, b1]
        exact hQ
      | succ d ih =>
        intro m hm
        have ih1 := ih (m + 1) (by omega)
        rw [show sm (slty C) (m + 1) = sm (slty C) m + slty C m from rfl] at ih1
        show k_Ch_countOf_4 20 (nI 2) Q _ _ _ M
        unfold k_Ch_countOf_4
        simp (disch := omega) only [fa_lit0, xI_le_T, xI_le_F, xI_lt_T, xI_lt_F, xI_eq_T, xI_eq_F, xN_a, xN_b, xN_c, xN_d, xN_e, xN_f, xN_g, xN_h, xI_add, xI_mul, xI_sub, xI_tn, xI_in, xI_ofNat, gi_si_eq, gi_n1, gi_n2, gl_sl_eq, gl_n1, gl_n2, gi_sl, gl_si, forall_eq, true_implies, false_implies, not_true_eq_false, not_false_eq_true, and_true, true_and, implies_true, and_self, b1]
        refine B_isOf hC hB (by omega) (by omega) (by omega) ?_
        by_cases c : C 1 m = 2 ∨ C 1 m = 4
        · have e1 : slty C m = 1 := by unfold slty; rw [if_pos c]
          have e2 : isk (C 1 m) 2 = 1 := by unfold isk; rw [if_pos (by omega)]
          rw [e1] at ih1
          simp (disch := omega) only [fa_lit0, xI_le_T, xI_le_F, xI_lt_T, xI_lt_F, xI_eq_T, xI_eq_F, xN_a, xN_b, xN_c, xN_d, xN_e, xN_f, xN_g, xN_h, xI_add, xI_mul, xI_sub, xI_tn, xI_in, xI_ofNat, gi_si_eq, gi_n1, gi_n2, gl_sl_eq, gl_n1, gl_n2, gi_sl, gl_si, forall_eq, true_implies, false_implies, not_true_eq_false, not_false_eq_true, and_true, true_and, implies_true, and_self, e2, k_Ch_countOf_27]
          exact ih1
        · have e1 : slty C m = 0 := by unfold slty; rw [if_neg c]
          have e2 : isk (C 1 m) 2 = 0 := by unfold isk; rw [if_neg (by omega)]
          rw [e1] at ih1
          simp (disch := omega) only [fa_lit0, xI_le_T, xI_le_F, xI_lt_T, xI_lt_F, xI_eq_T, xI_eq_F, xN_a, xN_b, xN_c, xN_d, xN_e, xN_f, xN_g, xN_h, xI_add, xI_mul, xI_sub, xI_tn, xI_in, xI_ofNat, gi_si_eq, gi_n1, gi_n2, gl_sl_eq, gl_n1, gl_n2, gi_sl, gl_si, forall_eq, true_implies, false_implies, not_true_eq_false, not_false_eq_true, and_true, true_and, implies_true, and_self, e2, k_Ch_countOf_27]
          exact ih1
    exact ⟨_, key (C 0 0) 0 (by omega)⟩
  · simp (disch := omega) only [fa_lit0, xI_le_T, xI_le_F, xI_lt_T, xI_lt_F, xI_eq_T, xI_eq_F, xN_a, xN_b, xN_c, xN_d, xN_e, xN_f, xN_g, xN_h, xI_add, xI_mul, xI_sub, xI_tn, xI_in, xI_ofNat, gi_si_eq, gi_n1, gi_n2, gl_sl_eq, gl_n1, gl_n2, gi_sl, gl_si, forall_eq, true_implies, false_implies, not_true_eq_false, not_false_eq_true, and_true, true_and, implies_true, and_self]
    have e : sm (tm C F 6) (C 0 0) = 0 := by have := sm_le (f := tm C F 6) (c := 0) (C 0 0) (fun i hi => Nat.le_refl _); omega
    rw [if_neg (by omega), if_neg (by omega), if_neg (by omega), if_pos rfl, if_neg (by omega), if_neg (by omega), e] at hQ
    simp only [Nat.zero_add, Nat.add_zero] at hQ
    rw [← thr_eq (k := 5) (k2 := 314) (fun i hi => (h.1 i hi).1)] at hQ
    refine B_there (k := 4) (N := 6) rfl (by omega) (fun i hi => ?_) hQ
    rcases (h.1 i hi) with ⟨g1, g2 | ⟨m, hm, g2⟩, -⟩
    · rw [g1]; exact Or.inl g2
    · rw [g1]; exact Or.inr ⟨m, by omega, g2⟩
  · simp (disch := omega) only [fa_lit0, xI_le_T, xI_le_F, xI_lt_T, xI_lt_F, xI_eq_T, xI_eq_F, xN_a, xN_b, xN_c, xN_d, xN_e, xN_f, xN_g, xN_h, xI_add, xI_mul, xI_sub, xI_tn, xI_in, xI_ofNat, gi_si_eq, gi_n1, gi_n2, gl_sl_eq, gl_n1, gl_n2, gi_sl, gl_si, forall_eq, true_implies, false_implies, not_true_eq_false, not_false_eq_true, and_true, true_and, implies_true, and_self]
    have e : sm (tm C F 7) (C 0 0) = 0 := by have := sm_le (f := tm C F 7) (c := 0) (C 0 0) (fun i hi => Nat.le_refl _); omega
    rw [if_neg (by omega), if_neg (by omega), if_neg (by omega), if_neg (by omega), if_pos rfl, if_neg (by omega), e] at hQ
    simp only [Nat.zero_add, Nat.add_zero] at hQ
    rw [← thr_eq (k := 14) (k2 := 317) (fun i hi => (h.2.1 i hi).1)] at hQ
    refine B_there (k := 13) (N := 4) rfl (by omega) (fun i hi => ?_) hQ
    rcases (h.2.1 i hi) with ⟨g1, g2, -⟩
    rw [g1]; exact g2
  · simp (disch := omega) only [fa_lit0, xI_le_T, xI_le_F, xI_lt_T, xI_lt_F, xI_eq_T, xI_eq_F, xN_a, xN_b, xN_c, xN_d, xN_e, xN_f, xN_g, xN_h, xI_add, xI_mul, xI_sub, xI_tn, xI_in, xI_ofNat, gi_si_eq, gi_n1, gi_n2, gl_sl_eq, gl_n1, gl_n2, gi_sl, gl_si, forall_eq, true_implies, false_implies, not_true_eq_false, not_false_eq_true, and_true, true_and, implies_true, and_self]
    have e : sm (tm C F 8) (C 0 0) = 0 := by have := sm_le (f := tm C F 8) (c := 0) (C 0 0) (fun i hi => Nat.le_refl _); omega
    rw [if_neg (by omega), if_neg (by omega), if_neg (by omega), if_neg (by omega), if_neg (by omega), if_pos rfl, e] at hQ
    simp only [Nat.zero_add, Nat.add_zero] at hQ
    have key : ∀ (d m : Nat), m + d = 3 → lp_B_countKept_4 Q (d + 1) (nI (sm (fun k => T k 0) m)) (nI m) M := by
      intro d
      induction d with
      | zero =>
        intro m hm
        have hm : m = 3 := by omega
        subst hm
        show k_B_countKept_4 Q _ _ _ M
        unfold k_B_countKept_4
        simp (disch := omega) only [fa_lit0, xI_le_T, xI_le_F, xI_lt_T, xI_lt_F, xI_eq_T, xI_eq_F, xN_a, xN_b, xN_c, xN_d, xN_e, xN_f, xN_g, xN_h, xI_add, xI_mul, xI_sub, xI_tn, xI_in, xI_ofNat, gi_si_eq, gi_n1, gi_n2, gl_sl_eq, gl_n1, gl_n2, gi_sl, gl_si, forall_eq, true_implies, false_implies, not_true_eq_false, not_false_eq_true, and_true, true_and, implies_true, and_self]
        exact hQ
      | succ d ih =>
        intro m hm
        have ih1 := ih (m + 1) (by omega)
        obtain ⟨k1, k2, k3, -⟩ := rk m (by omega)
        rw [show sm (fun k => T k 0) (m + 1) = sm (fun k => T k 0) m + T m 0 from rfl] at ih1
        show k_B_countKept_4 Q _ _ _ M
        unfold k_B_countKept_4
        rcases (show T m 0 = 0 ∨ T m 0 = 1 by omega) with c | c
        · rw [c] at ih1 k2
          simp (disch := omega) only [fa_lit0, xI_le_T, xI_le_F, xI_lt_T, xI_lt_F, xI_eq_T, xI_eq_F, xN_a, xN_b, xN_c, xN_d, xN_e, xN_f, xN_g, xN_h, xI_add, xI_mul, xI_sub, xI_tn, xI_in, xI_ofNat, gi_si_eq, gi_n1, gi_n2, gl_sl_eq, gl_n1, gl_n2, gi_sl, gl_si, forall_eq, true_implies, false_implies, not_true_eq_false, not_false_eq_true, and_true, true_and, implies_true, and_self, k2, k_B_countKept_27]
          exact ih1
        · rw [c] at ih1 k2
          simp (disch := omega) only [fa_lit0, xI_le_T, xI_le_F, xI_lt_T, xI_lt_F, xI_eq_T, xI_eq_F, xN_a, xN_b, xN_c, xN_d, xN_e, xN_f, xN_g, xN_h, xI_add, xI_mul, xI_sub, xI_tn, xI_in, xI_ofNat, gi_si_eq, gi_n1, gi_n2, gl_sl_eq, gl_n1, gl_n2, gi_sl, gl_si, forall_eq, true_implies, false_implies, not_true_eq_false, not_false_eq_true, and_true, true_and, implies_true, and_self, k2, k_B_countKept_27]
          exact ih1
    exact ⟨_, key 3 0 (by omega)⟩
  · simp (disch := omega) only [fa_lit0, xI_le_T, xI_le_F, xI_lt_T, xI_lt_F, xI_eq_T, xI_eq_F, xN_a, xN_b, xN_c, xN_d, xN_e, xN_f, xN_g, xN_h, xI_add, xI_mul, xI_sub, xI_tn, xI_in, xI_ofNat, gi_si_eq, gi_n1, gi_n2, gl_sl_eq, gl_n1, gl_n2, gi_sl, gl_si, forall_eq, true_implies, false_implies, not_true_eq_false, not_false_eq_true, and_true, true_and, implies_true, and_self]
    have e : sm (tm C F 9) (C 0 0) = sm (fun i => F (15 + i)) (C 0 0) := sm_cg _ (fun i hi => rfl)
    rw [if_neg (by omega), if_neg (by omega), if_neg (by omega), if_neg (by omega), if_neg (by omega), if_neg (by omega), e, ← sm_n (n := C 0 0) (fun i h1 h2 => (hO.2.2 i h1 h2).2.2.2.1) hn] at hQ
    have key : ∀ (d m : Nat), m + d = 5 → lp_Fl_allHarvests_4 61 Q (d + 1) (nI (sm (fun i => F (15 + i)) m)) (nI m) M := by
      intro d
      induction d with
      | zero =>
        intro m hm
        have hm : m = 5 := by omega
        subst hm
        show k_Fl_allHarvests_4 61 Q _ _ _ M
        unfold k_Fl_allHarvests_4
        simp (disch := omega) only [fa_lit0, xI_le_T, xI_le_F, xI_lt_T, xI_lt_F, xI_eq_T, xI_eq_F, xN_a, xN_b, xN_c, xN_d, xN_e, xN_f, xN_g, xN_h, xI_add, xI_mul, xI_sub, xI_tn, xI_in, xI_ofNat, gi_si_eq, gi_n1, gi_n2, gl_sl_eq, gl_n1, gl_n2, gi_sl, gl_si, forall_eq, true_implies, false_implies, not_true_eq_false, not_false_eq_true, and_true, true_and, implies_true, and_self]
        exact hQ
      | succ d ih =>
        intro m hm
        have ih1 := ih (m + 1) (by omega)
        show k_Fl_allHarvests_4 61 Q _ _ _ M
        unfold k_Fl_allHarvests_4
        simp (disch := omega) only [fa_lit0, xI_le_T, xI_le_F, xI_lt_T, xI_lt_F, xI_eq_T, xI_eq_F, xN_a, xN_b, xN_c, xN_d, xN_e, xN_f, xN_g, xN_h, xI_add, xI_mul, xI_sub, xI_tn, xI_in, xI_ofNat, gi_si_eq, gi_n1, gi_n2, gl_sl_eq, gl_n1, gl_n2, gi_sl, gl_si, forall_eq, true_implies, false_implies, not_true_eq_false, not_false_eq_true, and_true, true_and, implies_true, and_self]
        refine B_harv hO hF (by omega) ?_
        simp (disch := omega) only [fa_lit0, xI_le_T, xI_le_F, xI_lt_T, xI_lt_F, xI_eq_T, xI_eq_F, xN_a, xN_b, xN_c, xN_d, xN_e, xN_f, xN_g, xN_h, xI_add, xI_mul, xI_sub, xI_tn, xI_in, xI_ofNat, gi_si_eq, gi_n1, gi_n2, gl_sl_eq, gl_n1, gl_n2, gi_sl, gl_si, forall_eq, true_implies, false_implies, not_true_eq_false, not_false_eq_true, and_true, true_and, implies_true, and_self]
        exact ih1
    exact ⟨_, key 5 0 (by omega)⟩
/-- what the reference's count looks at -/
def CM (C : Nat → Nat → Nat) (F : Nat → Nat) (D : Nat) (T : Nat → Nat → Nat) (M0 M : Mm) : Prop := MW C M ∧ FM F M 0 ∧ gi M 312 28 = nI D ∧ (∀ k, k < 3 → T k 0 ≤ 1 ∧ gi M 330 k = nI (T k 0)) ∧ (∀ i, i < 6 → gi M 314 i = gi M0 314 i ∧ szOk (gi M0 314 i) 60) ∧ (∀ i, i < 4 → gi M 317 i = gi M0 317 i ∧ szOk (gi M0 317 i) 60)
theorem neg1 : (-nI 1 < nI 0) = True := eq_true (by decide)
theorem M_counted {C : Nat → Nat → Nat} {F : Nat → Nat} {D : Nat} {T : Nat → Nat → Nat} {M0 M : Mm} {w : Nat} (hO : OkF (C 0 0) F) (hc : CM C F D T M0 M) (hw : w < 10) {Q : Int32 → Mm → Prop} (hQ : Q (nI (cv C F D T M0 w)) M) : wp_M_counted (nI w) M Q := by
  obtain ⟨hW, hG, h28, hT, hR, hX⟩ := hc
  have hC := hW.1
  have hn := hC.1
  have m1 := hW.2.1
  have m2 := hW.2.2.1
  have rd : ∀ j, j < 31 → gi M 327 j = nI (F j) := fun j hj => by
    have := hG j hj
    dsimp only at this
    rwa [Nat.mul_zero, Nat.zero_add] at this
  have l1 : ∀ (K : Int32 → Mm → Prop), K (nI (sm (tm C F w) (C 0 0))) M → ∃ n, lp_M_counted_4 (nI w) Q K n (nI 0) (nI 0) M := by
    intro K hK
    have key : ∀ (d m : Nat), m + d = C 0 0 → lp_M_counted_4 (nI w) Q K (d + 1) (nI (sm (tm C F w) m)) (nI m) M := by
      intro d
      induction d with
      | zero =>
        intro m hm
        have hm : m = C 0 0 := by omega
        subst hm
        show k_M_counted_4 (nI w) Q _ K _ _ M
        unfold k_M_counted_4
        simp (disch := omega) only [fa_lit0, xI_le_T, xI_le_F, xI_lt_T, xI_lt_F, xI_eq_T, xI_eq_F, xN_a, xN_b, xN_c, xN_d, xN_e, xN_f, xN_g, xN_h, xI_add, xI_mul, xI_sub, xI_tn, xI_in, xI_ofNat, gi_si_eq, gi_n1, gi_n2, gl_sl_eq, gl_n1, gl_n2, gi_sl, gl_si, forall_eq, true_implies, false_implies, not_true_eq_false, not_false_eq_true, and_true, true_and, implies_true, and_self, m1]
        exact hK
      | succ d ih =>
        intro m hm
        have ih1 := ih (m + 1) (by omega)
        rw [show sm (tm C F w) (m + 1) = sm (tm C F w) m + tm C F w m from rfl] at ih1
        show k_M_counted_4 (nI w) Q _ K _ _ M
        unfold k_M_counted_4
        rcases (show w = 3 ∨ w = 4 ∨ w = 5 ∨ w = 9 ∨ (w ≠ 3 ∧ w ≠ 4 ∧ w ≠ 5 ∧ w ≠ 9) by omega) with e | e | e | e | e
        · subst e
          simp (disch := omega) only [fa_lit0, xI_le_T, xI_le_F, xI_lt_T, xI_lt_F, xI_eq_T, xI_eq_F, xN_a, xN_b, xN_c, xN_d, xN_e, xN_f, xN_g, xN_h, xI_add, xI_mul, xI_sub, xI_tn, xI_in, xI_ofNat, gi_si_eq, gi_n1, gi_n2, gl_sl_eq, gl_n1, gl_n2, gi_sl, gl_si, forall_eq, true_implies, false_implies, not_true_eq_false, not_false_eq_true, and_true, true_and, implies_true, and_self, m1, rd, k_M_counted_83]
          exact ih1
        · subst e
          simp (disch := omega) only [fa_lit0, xI_le_T, xI_le_F, xI_lt_T, xI_lt_F, xI_eq_T, xI_eq_F, xN_a, xN_b, xN_c, xN_d, xN_e, xN_f, xN_g, xN_h, xI_add, xI_mul, xI_sub, xI_tn, xI_in, xI_ofNat, gi_si_eq, gi_n1, gi_n2, gl_sl_eq, gl_n1, gl_n2, gi_sl, gl_si, forall_eq, true_implies, false_implies, not_true_eq_false, not_false_eq_true, and_true, true_and, implies_true, and_self, m1, rd, k_M_counted_83]
          exact ih1
        · subst e
          simp (disch := omega) only [fa_lit0, xI_le_T, xI_le_F, xI_lt_T, xI_lt_F, xI_eq_T, xI_eq_F, xN_a, xN_b, xN_c, xN_d, xN_e, xN_f, xN_g, xN_h, xI_add, xI_mul, xI_sub, xI_tn, xI_in, xI_ofNat, gi_si_eq, gi_n1, gi_n2, gl_sl_eq, gl_n1, gl_n2, gi_sl, gl_si, forall_eq, true_implies, false_implies, not_true_eq_false, not_false_eq_true, and_true, true_and, implies_true, and_self, m1]
          refine M_isSilty hW (by omega) ?_
          rw [show tm C F 5 m = slty C m from rfl] at ih1
          unfold slty at ih1
          by_cases c : C 1 m = 2 ∨ C 1 m = 4
          · rw [if_pos c] at ih1 ⊢
            simp (disch := omega) only [fa_lit0, xI_le_T, xI_le_F, xI_lt_T, xI_lt_F, xI_eq_T, xI_eq_F, xN_a, xN_b, xN_c, xN_d, xN_e, xN_f, xN_g, xN_h, xI_add, xI_mul, xI_sub, xI_tn, xI_in, xI_ofNat, gi_si_eq, gi_n1, gi_n2, gl_sl_eq, gl_n1, gl_n2, gi_sl, gl_si, forall_eq, true_implies, false_implies, not_true_eq_false, not_false_eq_true, and_true, true_and, implies_true, and_self, k_M_counted_83]
            exact ih1
          · rw [if_neg c] at ih1 ⊢
            simp (disch := omega) only [fa_lit0, xI_le_T, xI_le_F, xI_lt_T, xI_lt_F, xI_eq_T, xI_eq_F, xN_a, xN_b, xN_c, xN_d, xN_e, xN_f, xN_g, xN_h, xI_add, xI_mul, xI_sub, xI_tn, xI_in, xI_ofNat, gi_si_eq, gi_n1, gi_n2, gl_sl_eq, gl_n1, gl_n2, gi_sl, gl_si, forall_eq, true_implies, false_implies, not_true_eq_false, not_false_eq_true, and_true, true_and, implies_true, and_self, k_M_counted_64, k_M_counted_83]
            exact ih1
        · subst e
          simp (disch := omega) only [fa_lit0, xI_le_T, xI_le_F, xI_lt_T, xI_lt_F, xI_eq_T, xI_eq_F, xN_a, xN_b, xN_c, xN_d, xN_e, xN_f, xN_g, xN_h, xI_add, xI_mul, xI_sub, xI_tn, xI_in, xI_ofNat, gi_si_eq, gi_n1, gi_n2, gl_sl_eq, gl_n1, gl_n2, gi_sl, gl_si, forall_eq, true_implies, false_implies, not_true_eq_false, not_false_eq_true, and_true, true_and, implies_true, and_self, m1, rd, k_M_counted_64, k_M_counted_83]
          exact ih1
        · have e0 : tm C F w m = 0 := by unfold tm; rw [if_neg e.1, if_neg e.2.1, if_neg e.2.2.1, if_neg e.2.2.2]
          rw [e0] at ih1
          simp (disch := omega) only [fa_lit0, xI_le_T, xI_le_F, xI_lt_T, xI_lt_F, xI_eq_T, xI_eq_F, xN_a, xN_b, xN_c, xN_d, xN_e, xN_f, xN_g, xN_h, xI_add, xI_mul, xI_sub, xI_tn, xI_in, xI_ofNat, gi_si_eq, gi_n1, gi_n2, gl_sl_eq, gl_n1, gl_n2, gi_sl, gl_si, forall_eq, true_implies, false_implies, not_true_eq_false, not_false_eq_true, and_true, true_and, implies_true, and_self, m1, k_M_counted_64, k_M_counted_83]
          exact ih1
    exact ⟨_, key (C 0 0) 0 (by omega)⟩
  have l2 : ∀ (K : Int32 → Mm → Prop) (a : Nat), K (nI (a + (if w = 6 then sm (thr M0 314) 6 else 0))) M → ∃ n, lp_M_counted_93 (nI w) Q K n (nI a) (nI 0) M := by
    intro K a hK
    have key : ∀ (d m : Nat), m + d = 6 → lp_M_counted_93 (nI w) Q K (d + 1) (nI (a + (if w = 6 then sm (thr M0 314) m else 0))) (nI m) M := by
      intro d
      induction d with
      | zero =>
        intro m hm
        have hm : m = 6 := by omega
        subst hm
        show k_M_counted_93 (nI w) Q _ K _ _ M
        unfold k_M_counted_93
        simp (disch := omega) only [fa_lit0, xI_le_T, xI_le_F, xI_lt_T, xI_lt_F, xI_eq_T, xI_eq_F, xN_a, xN_b, xN_c, xN_d, xN_e, xN_f, xN_g, xN_h, xI_add, xI_mul, xI_sub, xI_tn, xI_in, xI_ofNat, gi_si_eq, gi_n1, gi_n2, gl_sl_eq, gl_n1, gl_n2, gi_sl, gl_si, forall_eq, true_implies, false_implies, not_true_eq_false, not_false_eq_true, and_true, true_and, implies_true, and_self]
        exact hK
      | succ d ih =>
        intro m hm
        have ih1 := ih (m + 1) (by omega)
        rw [show sm (thr M0 314) (m + 1) = sm (thr M0 314) m + thr M0 314 m from rfl] at ih1
        obtain ⟨r1, r2⟩ := hR m (by omega)
        show k_M_counted_93 (nI w) Q _ K _ _ M
        unfold k_M_counted_93
        by_cases c : w = 6
        · subst c
          rw [if_pos rfl] at ih1 ⊢
          unfold thr at ih1
          rcases r2 with e | ⟨q, hq, e⟩
          · rw [if_pos e] at ih1
            rw [e] at r1
            simp (disch := omega) only [fa_lit0, xI_le_T, xI_le_F, xI_lt_T, xI_lt_F, xI_eq_T, xI_eq_F, xN_a, xN_b, xN_c, xN_d, xN_e, xN_f, xN_g, xN_h, xI_add, xI_mul, xI_sub, xI_tn, xI_in, xI_ofNat, gi_si_eq, gi_n1, gi_n2, gl_sl_eq, gl_n1, gl_n2, gi_sl, gl_si, forall_eq, true_implies, false_implies, not_true_eq_false, not_false_eq_true, and_true, true_and, implies_true, and_self, r1, neg1, k_M_counted_119, k_M_counted_120]
            exact ih1
          · rw [if_neg (by rw [e]; simp (disch := omega) only [fa_lit0, xI_le_T, xI_le_F, xI_lt_T, xI_lt_F, xI_eq_T, xI_eq_F, xN_a, xN_b, xN_c, xN_d, xN_e, xN_f, xN_g, xN_h, xI_add, xI_mul, xI_sub, xI_tn, xI_in, xI_ofNat, gi_si_eq, gi_n1, gi_n2, gl_sl_eq, gl_n1, gl_n2, gi_sl, gl_si, forall_eq, true_implies, false_implies, not_true_eq_false, not_false_eq_true, and_true, true_and, implies_true, and_self])] at ih1
            rw [e] at r1
            simp (disch := omega) only [fa_lit0, xI_le_T, xI_le_F, xI_lt_T, xI_lt_F, xI_eq_T, xI_eq_F, xN_a, xN_b, xN_c, xN_d, xN_e, xN_f, xN_g, xN_h, xI_add, xI_mul, xI_sub, xI_tn, xI_in, xI_ofNat, gi_si_eq, gi_n1, gi_n2, gl_sl_eq, gl_n1, gl_n2, gi_sl, gl_si, forall_eq, true_implies, false_implies, not_true_eq_false, not_false_eq_true, and_true, true_and, implies_true, and_self, r1, k_M_counted_120, Nat.add_assoc]
            exact ih1
        · rw [if_neg c] at ih1 ⊢
          simp (disch := omega) only [fa_lit0, xI_le_T, xI_le_F, xI_lt_T, xI_lt_F, xI_eq_T, xI_eq_F, xN_a, xN_b, xN_c, xN_d, xN_e, xN_f, xN_g, xN_h, xI_add, xI_mul, xI_sub, xI_tn, xI_in, xI_ofNat, gi_si_eq, gi_n1, gi_n2, gl_sl_eq, gl_n1, gl_n2, gi_sl, gl_si, forall_eq, true_implies, false_implies, not_true_eq_false, not_false_eq_true, and_true, true_and, implies_true, and_self, k_M_counted_119, k_M_counted_120]
          exact ih1
    have := key 6 0 (by omega)
    rw [show (if w = 6 then sm (thr M0 314) 0 else 0) = 0 by split <;> rfl, Nat.add_zero] at this
    exact ⟨_, this⟩
  have l3 : ∀ (K : Int32 → Mm → Prop) (a : Nat), K (nI (a + (if w = 7 then sm (thr M0 317) 4 else 0))) M → ∃ n, lp_M_counted_130 (nI w) Q K n (nI a) (nI 0) M := by
    intro K a hK
    have key : ∀ (d m : Nat), m + d = 4 → lp_M_counted_130 (nI w) Q K (d + 1) (nI (a + (if w = 7 then sm (thr M0 317) m else 0))) (nI m) M := by
      intro d
      induction d with
      | zero =>
        intro m hm
        have hm : m = 4 := by omega
        subst hm
        show k_M_counted_130 (nI w) Q _ K _ _ M
        unfold k_M_counted_130
        simp (disch := omega) only [fa_lit0, xI_le_T, xI_le_F, xI_lt_T, xI_lt_F, xI_eq_T, xI_eq_F, xN_a, xN_b, xN_c, xN_d, xN_e, xN_f, xN_g, xN_h, xI_add, xI_mul, xI_sub, xI_tn, xI_in, xI_ofNat, gi_si_eq, gi_n1, gi_n2, gl_sl_eq, gl_n1, gl_n2, gi_sl, gl_si, forall_eq, true_implies, false_implies, not_true_eq_false, not_false_eq_true, and_true, true_and, implies_true, and_self]
        exact hK
      | succ d ih =>
        intro m hm
        have ih1 := ih (m + 1) (by omega)
        rw [show sm (thr M0 317) (m + 1) = sm (thr M0 317) m + thr M0 317 m from rfl] at ih1
        obtain ⟨r1, r2⟩ := hX m (by omega)
        show k_M_counted_130 (nI w) Q _ K _ _ M
        unfold k_M_counted_130
        by_cases c : w = 7
        · subst c
          rw [if_pos rfl] at ih1 ⊢
          unfold thr at ih1
          rcases r2 with e | ⟨q, hq, e⟩
          · rw [if_pos e] at ih1
            rw [e] at r1
            simp (disch := omega) only [fa_lit0, xI_le_T, xI_le_F, xI_lt_T, xI_lt_F, xI_eq_T, xI_eq_F, xN_a, xN_b, xN_c, xN_d, xN_e, xN_f, xN_g, xN_h, xI_add, xI_mul, xI_sub, xI_tn, xI_in, xI_ofNat, gi_si_eq, gi_n1, gi_n2, gl_sl_eq, gl_n1, gl_n2, gi_sl, gl_si, forall_eq, true_implies, false_implies, not_true_eq_false, not_false_eq_true, and_true, true_and, implies_true, and_self, r1, neg1, k_M_counted_155, k_M_counted_156]
            exact ih1
          · rw [if_neg (by rw [e]; simp (disch := omega) only [fa_lit0, xI_le_T, xI_le_F, xI_lt_T, xI_lt_F, xI_eq_T, xI_eq_F, xN_a, xN_b, xN_c, xN_d, xN_e, xN_f, xN_g, xN_h, xI_add, xI_mul, xI_sub, xI_tn, xI_in, xI_ofNat, gi_si_eq, gi_n1, gi_n2, gl_sl_eq, gl_n1, gl_n2, gi_sl, gl_si, forall_eq, true_implies, false_implies, not_true_eq_false, not_false_eq_true, and_true, true_and, implies_true, and_self])] at ih1
            rw [e] at r1
            simp (disch := omega) only [fa_lit0, xI_le_T, xI_le_F, xI_lt_T, xI_lt_F, xI_eq_T, xI_eq_F, xN_a, xN_b, xN_c, xN_d, xN_e, xN_f, xN_g, xN_h, xI_add, xI_mul, xI_sub, xI_tn, xI_in, xI_ofNat, gi_si_eq, gi_n1, gi_n2, gl_sl_eq, gl_n1, gl_n2, gi_sl, gl_si, forall_eq, true_implies, false_implies, not_true_eq_false, not_false_eq_true, and_true, true_and, implies_true, and_self, r1, k_M_counted_156, Nat.add_assoc]
            exact ih1
        · rw [if_neg c] at ih1 ⊢
          simp (disch := omega) only [fa_lit0, xI_le_T, xI_le_F, xI_lt_T, xI_lt_F, xI_eq_T, xI_eq_F, xN_a, xN_b, xN_c, xN_d, xN_e, xN_f, xN_g, xN_h, xI_add, xI_mul, xI_sub, xI_tn, xI_in, xI_ofNat, gi_si_eq, gi_n1, gi_n2, gl_sl_eq, gl_n1, gl_n2, gi_sl, gl_si, forall_eq, true_implies, false_implies, not_true_eq_false, not_false_eq_true, and_true, true_and, implies_true, and_self, k_M_counted_155, k_M_counted_156]
          exact ih1
    have := key 4 0 (by omega)
    rw [show (if w = 7 then sm (thr M0 317) 0 else 0) = 0 by split <;> rfl, Nat.add_zero] at this
    exact ⟨_, this⟩
  have l4 : ∀ (K : Int32 → Mm → Prop) (a : Nat), K (nI (a + (if w = 8 then sm (fun k => T k 0) 3 else 0))) M → ∃ n, lp_M_counted_166 (nI w) Q K n (nI a) (nI 0) M := by
    intro K a hK
    have key : ∀ (d m : Nat), m + d = 3 → lp_M_counted_166 (nI w) Q K (d + 1) (nI (a + (if w = 8 then sm (fun k => T k 0) m else 0))) (nI m) M := by
      intro d
      induction d with
      | zero =>
        intro m hm
        have hm : m = 3 := by omega
        subst hm
        show k_M_counted_166 (nI w) Q _ K _ _ M
        unfold k_M_counted_166
        simp (disch := omega) only [fa_lit0, xI_le_T, xI_le_F, xI_lt_T, xI_lt_F, xI_eq_T, xI_eq_F, xN_a, xN_b, xN_c, xN_d, xN_e, xN_f, xN_g, xN_h, xI_add, xI_mul, xI_sub, xI_tn, xI_in, xI_ofNat, gi_si_eq, gi_n1, gi_n2, gl_sl_eq, gl_n1, gl_n2, gi_sl, gl_si, forall_eq, true_implies, false_implies, not_true_eq_false, not_false_eq_true, and_true, true_and, implies_true, and_self]
        exact hK
      | succ d ih =>
        intro m hm
        have ih1 := ih (m + 1) (by omega)
        rw [show sm (fun k => T k 0) (m + 1) = sm (fun k => T k 0) m + T m 0 from rfl] at ih1
        obtain ⟨r1, r2⟩ := hT m (by omega)
        show k_M_counted_166 (nI w) Q _ K _ _ M
        unfold k_M_counted_166
        by_cases c : w = 8
        · subst c
          rw [if_pos rfl] at ih1 ⊢
          rcases (show T m 0 = 0 ∨ T m 0 = 1 by omega) with e | e
          · rw [e] at ih1 r2
            simp (disch := omega) only [fa_lit0, xI_le_T, xI_le_F, xI_lt_T, xI_lt_F, xI_eq_T, xI_eq_F, xN_a, xN_b, xN_c, xN_d, xN_e, xN_f, xN_g, xN_h, xI_add, xI_mul, xI_sub, xI_tn, xI_in, xI_ofNat, gi_si_eq, gi_n1, gi_n2, gl_sl_eq, gl_n1, gl_n2, gi_sl, gl_si, forall_eq, true_implies, false_implies, not_true_eq_false, not_false_eq_true, and_true, true_and, implies_true, and_self, r2, k_M_counted_191, k_M_counted_192]
            exact ih1
          · rw [e] at ih1 r2
            simp (disch := omega) only [fa_lit0, xI_le_T, xI_le_F, xI_lt_T, xI_lt_F, xI_eq_T, xI_eq_F, xN_a, xN_b, xN_c, xN_d, xN_e, xN_f, xN_g, xN_h, xI_add, xI_mul, xI_sub, xI_tn, xI_in, xI_ofNat, gi_si_eq, gi_n1, gi_n2, gl_sl_eq, gl_n1, gl_n2, gi_sl, gl_si, forall_eq, true_implies, false_implies, not_true_eq_false, not_false_eq_true, and_true, true_and, implies_true, and_self, r2, k_M_counted_192, Nat.add_assoc]
            exact ih1
        · rw [if_neg c] at ih1 ⊢
          simp (disch := omega) only [fa_lit0, xI_le_T, xI_le_F, xI_lt_T, xI_lt_F, xI_eq_T, xI_eq_F, xN_a, xN_b, xN_c, xN_d, xN_e, xN_f, xN_g, xN_h, xI_add, xI_mul, xI_sub, xI_tn, xI_in, xI_ofNat, gi_si_eq, gi_n1, gi_n2, gl_sl_eq, gl_n1, gl_n2, gi_sl, gl_si, forall_eq, true_implies, false_implies, not_true_eq_false, not_false_eq_true, and_true, true_and, implies_true, and_self, k_M_counted_191, k_M_counted_192]
          exact ih1
    have := key 3 0 (by omega)
    rw [show (if w = 8 then sm (fun k => T k 0) 0 else 0) = 0 by split <;> rfl, Nat.add_zero] at this
    exact ⟨_, this⟩
  unfold wp_M_counted
  refine l1 _ (l2 _ _ (l3 _ _ (l4 _ _ ?_)))
  unfold cv at hQ
  by_cases c0 : w = 0
  · rw [if_pos c0] at hQ
    simp (disch := omega) only [fa_lit0, xI_le_T, xI_le_F, xI_lt_T, xI_lt_F, xI_eq_T, xI_eq_F, xN_a, xN_b, xN_c, xN_d, xN_e, xN_f, xN_g, xN_h, xI_add, xI_mul, xI_sub, xI_tn, xI_in, xI_ofNat, gi_si_eq, gi_n1, gi_n2, gl_sl_eq, gl_n1, gl_n2, gi_sl, gl_si, forall_eq, true_implies, false_implies, not_true_eq_false, not_false_eq_true, and_true, true_and, implies_true, and_self, c0, m1]
    exact hQ
  · by_cases c1 : w = 1
    · rw [if_neg c0, if_pos c1] at hQ
      simp (disch := omega) only [fa_lit0, xI_le_T, xI_le_F, xI_lt_T, xI_lt_F, xI_eq_T, xI_eq_F, xN_a, xN_b, xN_c, xN_d, xN_e, xN_f, xN_g, xN_h, xI_add, xI_mul, xI_sub, xI_tn, xI_in, xI_ofNat, gi_si_eq, gi_n1, gi_n2, gl_sl_eq, gl_n1, gl_n2, gi_sl, gl_si, forall_eq, true_implies, false_implies, not_true_eq_false, not_false_eq_true, and_true, true_and, implies_true, and_self, c1, m2]
      exact hQ
    · by_cases c2 : w = 2
      · rw [if_neg c0, if_neg c1, if_pos c2] at hQ
        simp (disch := omega) only [fa_lit0, xI_le_T, xI_le_F, xI_lt_T, xI_lt_F, xI_eq_T, xI_eq_F, xN_a, xN_b, xN_c, xN_d, xN_e, xN_f, xN_g, xN_h, xI_add, xI_mul, xI_sub, xI_tn, xI_in, xI_ofNat, gi_si_eq, gi_n1, gi_n2, gl_sl_eq, gl_n1, gl_n2, gi_sl, gl_si, forall_eq, true_implies, false_implies, not_true_eq_false, not_false_eq_true, and_true, true_and, implies_true, and_self, c2, h28]
        exact hQ
      · rw [if_neg c0, if_neg c1, if_neg c2] at hQ
        simp (disch := omega) only [fa_lit0, xI_le_T, xI_le_F, xI_lt_T, xI_lt_F, xI_eq_T, xI_eq_F, xN_a, xN_b, xN_c, xN_d, xN_e, xN_f, xN_g, xN_h, xI_add, xI_mul, xI_sub, xI_tn, xI_in, xI_ofNat, gi_si_eq, gi_n1, gi_n2, gl_sl_eq, gl_n1, gl_n2, gi_sl, gl_si, forall_eq, true_implies, false_implies, not_true_eq_false, not_false_eq_true, and_true, true_and, implies_true, and_self]
        exact hQ
theorem CM_of {C : Nat → Nat → Nat} {F : Nat → Nat} {D : Nat} {L T N V : Nat → Nat → Nat} {KL : Nat → Nat → Nat → Nat} {M : Mm} (h : Rel RDel M) (hd : Sta C F D L T N V KL M) : CM C F D T M M := by
  obtain ⟨hC, hB, hW, hO, hF, hG, hcw⟩ := hd.parts
  refine ⟨hW, hG, hd.2.2.2.1.2.2.1, fun k hk => ⟨(hd.2.2.2.2.1 k hk).1, (hd.2.2.2.2.1 k hk).2.2.1⟩, fun i hi => ⟨rfl, ?_⟩, fun i hi => ⟨rfl, (h.2.1 i hi).2.1⟩⟩
  rcases (h.1 i hi).2.1 with e | ⟨m, hm, e⟩
  · exact Or.inl e
  · exact Or.inr ⟨m, by omega, e⟩
theorem sw9f {a : Int32} (h : a < 0 ∨ nI 10 ≤ a) : (a.toInt < 0 ∨ 9 < a.toInt) = True := by
  apply eq_true
  rcases h with h | h
  · rw [Int32.lt_iff_toInt_lt] at h; exact Or.inl h
  · rw [Int32.le_iff_toInt_le, nI_toInt (by omega)] at h
    exact Or.inr (by omega)
theorem sw9g {a : Int32} (h : a < 0 ∨ nI 10 ≤ a) {m : Nat} (hm : m < 10) : (a = nI m) = False := eq_false (fun e => by
  rw [e] at h
  rcases h with h | h
  · exact absurd h (by rw [show (0 : Int32) = nI 0 from rfl]; simp (disch := omega) only [fa_lit0, xI_le_T, xI_le_F, xI_lt_T, xI_lt_F, xI_eq_T, xI_eq_F, xN_a, xN_b, xN_c, xN_d, xN_e, xN_f, xN_g, xN_h, xI_add, xI_mul, xI_sub, xI_tn, xI_in, xI_ofNat, gi_si_eq, gi_n1, gi_n2, gl_sl_eq, gl_n1, gl_n2, gi_sl, gl_si, forall_eq, true_implies, false_implies, not_true_eq_false, not_false_eq_true, and_true, true_and, implies_true, and_self])
  · exact absurd h (by simp (disch := omega) only [fa_lit0, xI_le_T, xI_le_F, xI_lt_T, xI_lt_F, xI_eq_T, xI_eq_F, xN_a, xN_b, xN_c, xN_d, xN_e, xN_f, xN_g, xN_h, xI_add, xI_mul, xI_sub, xI_tn, xI_in, xI_ofNat, gi_si_eq, gi_n1, gi_n2, gl_sl_eq, gl_n1, gl_n2, gi_sl, gl_si, forall_eq, true_implies, false_implies, not_true_eq_false, not_false_eq_true, and_true, true_and, implies_true, and_self]))
theorem op_count {a1 : Int32} {M : Mm} (h : Rel RDel M) : wp_B_count a1 M (fun r M1 => wp_M_count a1 M1 (fun r2 M2 => r = r2 ∧ Rel RDel M2)) := by
  obtain ⟨C, F, D, L, T, N, V, KL, hd⟩ := h.2.2.2.2.2.2.out
  obtain ⟨hC, hB, hW, hO, hF, hG, hcw⟩ := hd.parts
  have bad : (a1 < 0 ∨ nI 10 ≤ a1) → wp_B_count a1 M (fun r M1 => wp_M_count a1 M1 (fun r2 M2 => r = r2 ∧ Rel RDel M2)) := by
    intro g
    unfold wp_B_count
    rw [sw9f g]
    simp (disch := omega) only [fa_lit0, xI_le_T, xI_le_F, xI_lt_T, xI_lt_F, xI_eq_T, xI_eq_F, xN_a, xN_b, xN_c, xN_d, xN_e, xN_f, xN_g, xN_h, xI_add, xI_mul, xI_sub, xI_tn, xI_in, xI_ofNat, gi_si_eq, gi_n1, gi_n2, gl_sl_eq, gl_n1, gl_n2, gi_sl, gl_si, forall_eq, true_implies, false_implies, not_true_eq_false, not_false_eq_true, and_true, true_and, implies_true, and_self, sw9g g]
    rcases g with g | g
    · simp (disch := omega) only [fa_lit0, xI_le_T, xI_le_F, xI_lt_T, xI_lt_F, xI_eq_T, xI_eq_F, xN_a, xN_b, xN_c, xN_d, xN_e, xN_f, xN_g, xN_h, xI_add, xI_mul, xI_sub, xI_tn, xI_in, xI_ofNat, gi_si_eq, gi_n1, gi_n2, gl_sl_eq, gl_n1, gl_n2, gi_sl, gl_si, forall_eq, true_implies, false_implies, not_true_eq_false, not_false_eq_true, and_true, true_and, implies_true, and_self, wp_M_count, wp_M_in, ng_a g]; exact h
    · simp (disch := omega) only [fa_lit0, xI_le_T, xI_le_F, xI_lt_T, xI_lt_F, xI_eq_T, xI_eq_F, xN_a, xN_b, xN_c, xN_d, xN_e, xN_f, xN_g, xN_h, xI_add, xI_mul, xI_sub, xI_tn, xI_in, xI_ofNat, gi_si_eq, gi_n1, gi_n2, gl_sl_eq, gl_n1, gl_n2, gi_sl, gl_si, forall_eq, true_implies, false_implies, not_true_eq_false, not_false_eq_true, and_true, true_and, implies_true, and_self, wp_M_count, wp_M_in, bg_a g, bg_c g]; exact h
  rcases pk_ix a1 (n := 10) (by omega) with g | g | ⟨w, hw, rfl⟩
  · exact bad (Or.inl g)
  · exact bad (Or.inr g)
  · refine B_count h hd hw ?_
    simp (disch := omega) only [fa_lit0, xI_le_T, xI_le_F, xI_lt_T, xI_lt_F, xI_eq_T, xI_eq_F, xN_a, xN_b, xN_c, xN_d, xN_e, xN_f, xN_g, xN_h, xI_add, xI_mul, xI_sub, xI_tn, xI_in, xI_ofNat, gi_si_eq, gi_n1, gi_n2, gl_sl_eq, gl_n1, gl_n2, gi_sl, gl_si, forall_eq, true_implies, false_implies, not_true_eq_false, not_false_eq_true, and_true, true_and, implies_true, and_self, wp_M_count, wp_M_in]
    exact M_counted hO (CM_of h hd) hw ⟨rfl, h⟩
