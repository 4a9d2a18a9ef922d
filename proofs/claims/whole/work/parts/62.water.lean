theorem mk_bit {F : Nat → Nat} {b i : Nat} (h : ∀ i, i < 5 → F (b + i) ≤ 1) (hi : i < 5) : mk F b / 2 ^ i % 2 = F (b + i) := by
  have h0 := h 0 (by omega)
  have h1 := h 1 (by omega)
  have h2 := h 2 (by omega)
  have h3 := h 3 (by omega)
  have h4 := h 4 (by omega)
  unfold mk
  rcases (show i = 0 ∨ i = 1 ∨ i = 2 ∨ i = 3 ∨ i = 4 by omega) with rfl | rfl | rfl | rfl | rfl
  all_goals (simp only [Nat.add_zero, Nat.reducePow] at *; omega)
theorem mk_lt {F : Nat → Nat} {b : Nat} (h : ∀ i, i < 5 → F (b + i) ≤ 1) : mk F b < 32 := by
  have h0 := h 0 (by omega)
  have h1 := h 1 (by omega)
  have h2 := h 2 (by omega)
  have h3 := h 3 (by omega)
  have h4 := h 4 (by omega)
  simp only [Nat.add_zero] at h0
  unfold mk
  omega
theorem OkF.o {n : Nat} {F : Nat → Nat} (h : OkF n F) : ∀ i, i < 5 → F (0 + i) ≤ 1 := fun i hi => by rw [Nat.zero_add]; exact (h.1 i hi).1
theorem OkF.b {n : Nat} {F : Nat → Nat} (h : OkF n F) : ∀ i, i < 5 → F (20 + i) ≤ 1 := fun i hi => (h.1 i hi).2.2.2.2.1
theorem OkF.d {n : Nat} {F : Nat → Nat} (h : OkF n F) : ∀ i, i < 5 → F (25 + i) ≤ 1 := fun i hi => (h.1 i hi).2.2.2.2.2
theorem OkF.ob {n : Nat} {F : Nat → Nat} (h : OkF n F) {i : Nat} (hi : i < 5) : mk F 0 / 2 ^ i % 2 = F i := by
  have := mk_bit h.o hi
  rwa [Nat.zero_add] at this
theorem wsum_le {C : Nat → Nat → Nat} (hC : OkC C) (s : Nat) : ∀ m, m ≤ C 0 0 → wsum C s m ≤ 9 * m := by
  intro m
  induction m with
  | zero => intro _; exact Nat.zero_le _
  | succ m ih =>
    intro hm
    have h1 := ih (by omega)
    have h2 := (hC.2.2 m (by omega)).2.1.2
    show wsum C s m + s / 2 ^ m % 2 * C 2 m ≤ 9 * (m + 1)
    have h3 : s / 2 ^ m % 2 * C 2 m ≤ 1 * C 2 m := Nat.mul_le_mul_right _ (by omega)
    omega
theorem wsum_pos {C : Nat → Nat → Nat} (hC : OkC C) {s i : Nat} (hi : i < C 0 0) (hb : ¬ s / 2 ^ i % 2 = 0) : ∀ m, m ≤ C 0 0 → i < m → 0 < wsum C s m := by
  intro m
  induction m with
  | zero => intro _ h; exact absurd h (Nat.not_lt_zero i)
  | succ m ih =>
    intro hm h
    show 0 < wsum C s m + s / 2 ^ m % 2 * C 2 m
    by_cases e : i = m
    · subst e
      have h2 := (hC.2.2 i hi).2.1.1
      have : s / 2 ^ i % 2 = 1 := by omega
      rw [this]
      omega
    · have := ih (by omega) (by omega)
      omega
theorem shr_le {C : Nat → Nat → Nat} {s w : Nat} : ∀ m, shr C s w m * w ≤ C 0 1 * wsum C s m := by
  intro m
  induction m with
  | zero => exact Nat.le_of_eq (by show 0 * w = C 0 1 * 0; omega)
  | succ m ih =>
    show (shr C s w m + (if s / 2 ^ m % 2 = 0 then 0 else C 0 1 * C 2 m / w)) * w ≤ C 0 1 * (wsum C s m + s / 2 ^ m % 2 * C 2 m)
    rw [Nat.add_mul, Nat.mul_add]
    by_cases e : s / 2 ^ m % 2 = 0
    · rw [if_pos e, e]; omega
    · rw [if_neg e, show s / 2 ^ m % 2 = 1 by omega, Nat.one_mul]
      have := Nat.div_mul_le_self (C 0 1 * C 2 m) w
      omega
theorem shr_riv {C : Nat → Nat → Nat} {s m : Nat} (hm : m ≤ C 0 0) (hp : 0 < wsum C s (C 0 0)) : shr C s (wsum C s (C 0 0)) m ≤ C 0 1 := by
  have h1 := shr_le (C := C) (s := s) (w := wsum C s (C 0 0)) m
  have h2 : wsum C s m ≤ wsum C s (C 0 0) := by
    have : ∀ d, wsum C s m ≤ wsum C s (m + d) := by
      intro d
      induction d with
      | zero => exact Nat.le_refl _
      | succ d ih => exact Nat.le_trans ih (Nat.le_add_right _ _)
    have := this (C 0 0 - m)
    rwa [show m + (C 0 0 - m) = C 0 0 by omega] at this
  have h3 : shr C s (wsum C s (C 0 0)) m * wsum C s (C 0 0) ≤ C 0 1 * wsum C s (C 0 0) := Nat.le_trans h1 (Nat.mul_le_mul_left _ h2)
  exact Nat.le_of_mul_le_mul_right h3 hp
theorem cnt_mask : ∀ s, s < 32 → ∀ i, i < 5 → cnt (s &&& (2 ^ i - 1)) 5 = cnt s i ∧ (s &&& (2 ^ i - 1)) < 32 := by decide +kernel
theorem xI_div {a b : Nat} (ha : a < 2 ^ 31) (h0 : 0 < b) (hb : b < 2 ^ 31) : nI a / nI b = nI (a / b) := pk_div ha h0 hb
theorem riv_mul {C : Nat → Nat → Nat} (hC : OkC C) {i : Nat} (hi : i < C 0 0) : C 0 1 * C 2 i ≤ 243 := Nat.mul_le_mul hC.2.1 (hC.2.2 i hi).2.1.2
theorem B_waterOf {C : Nat → Nat → Nat} {M : Mm} {s i : Nat} (hC : OkC C) (hB : ChB C M) (hs : s < 32) (hi : i < C 0 0) {Q : Int32 → Mm → Prop} (h : Q (nI (wat C s i)) M) : wp_Ch_waterOf 20 (nI i) (nI s) M Q := by
  obtain ⟨b1, b2, b3⟩ := hB
  obtain ⟨k1, k2, -, -, -, -⟩ := b3 i hi
  have hn : C 0 0 ≤ 5 := hC.1
  by_cases hb : s / 2 ^ i % 2 = 0
  · unfold wat at h
    rw [if_pos hb] at h
    by_cases h4 : C 1 i = 4
    · rw [if_pos h4] at h
      simp (disch := omega) only [fa_lit0, xI_le_T, xI_le_F, xI_lt_T, xI_lt_F, xI_eq_T, xI_eq_F, xN_a, xN_b, xN_c, xN_d, xN_e, xN_f, xN_g, xN_h, xI_add, xI_mul, xI_sub, xI_tn, xI_in, xI_ofNat, gi_si_eq, gi_n1, gi_n2, gl_sl_eq, gl_n1, gl_n2, gi_sl, gl_si, forall_eq, true_implies, false_implies, not_true_eq_false, not_false_eq_true, and_true, true_and, implies_true, and_self, wp_Ch_waterOf, wp_B_hasBit, bs_r, hb, k1, h4]
      exact h
    · rw [if_neg h4] at h
      have := (hC.2.2 i hi).1
      simp (disch := omega) only [fa_lit0, xI_le_T, xI_le_F, xI_lt_T, xI_lt_F, xI_eq_T, xI_eq_F, xN_a, xN_b, xN_c, xN_d, xN_e, xN_f, xN_g, xN_h, xI_add, xI_mul, xI_sub, xI_tn, xI_in, xI_ofNat, gi_si_eq, gi_n1, gi_n2, gl_sl_eq, gl_n1, gl_n2, gi_sl, gl_si, forall_eq, true_implies, false_implies, not_true_eq_false, not_false_eq_true, and_true, true_and, implies_true, and_self, wp_Ch_waterOf, wp_B_hasBit, bs_r, hb, k1]
      exact h
  · have hw := wsum_le hC s (C 0 0) (Nat.le_refl _)
    have hp := wsum_pos hC hi hb (C 0 0) (Nat.le_refl _) hi
    unfold wat at h
    rw [if_neg hb] at h
    have hb1 : s / 2 ^ i % 2 = 1 := by omega
    simp (disch := omega) only [fa_lit0, xI_le_T, xI_le_F, xI_lt_T, xI_lt_F, xI_eq_T, xI_eq_F, xN_a, xN_b, xN_c, xN_d, xN_e, xN_f, xN_g, xN_h, xI_add, xI_mul, xI_sub, xI_tn, xI_in, xI_ofNat, gi_si_eq, gi_n1, gi_n2, gl_sl_eq, gl_n1, gl_n2, gi_sl, gl_si, forall_eq, true_implies, false_implies, not_true_eq_false, not_false_eq_true, and_true, true_and, implies_true, and_self, wp_Ch_waterOf, wp_B_hasBit, bs_r, hb1]
    have hr1 := riv_mul hC hi
    have hriv := hC.2.1
    have hdiv : C 0 1 * C 2 i / wsum C s (C 0 0) ≤ 243 := Nat.le_trans (Nat.div_le_self _ _) hr1
    have l1 : ∀ (K : Int32 → Mm → Prop), K (nI (wsum C s (C 0 0))) M → ∃ n, lp_Ch_waterOf_29 20 (nI i) (nI s) Q K n (nI 0) (nI 0) M := by
      intro K hK
      have key : ∀ (d m : Nat), m + d = C 0 0 → lp_Ch_waterOf_29 20 (nI i) (nI s) Q K (d + 1) (nI (wsum C s m)) (nI m) M := by
        intro d
        induction d with
        | zero =>
          intro m hm
          have hm : m = C 0 0 := by omega
          subst hm
          show k_Ch_waterOf_29 20 (nI i) (nI s) Q _ K _ _ M
          unfold k_Ch_waterOf_29
          simp (disch := omega) only [fa_lit0, xI_le_T, xI_le_F, xI_lt_T, xI_lt_F, xI_eq_T, xI_eq_F, xN_a, xN_b, xN_c, xN_d, xN_e, xN_f, xN_g, xN_h, xI_add, xI_mul, xI_sub, xI_tn, xI_in, xI_ofNat, gi_si_eq, gi_n1, gi_n2, gl_sl_eq, gl_n1, gl_n2, gi_sl, gl_si, forall_eq, true_implies, false_implies, not_true_eq_false, not_false_eq_true, and_true, true_and, implies_true, and_self, b1]
          exact hK
        | succ d ih =>
          intro m hm
          have := (b3 m (by omega)).2.1
          show k_Ch_waterOf_29 20 (nI i) (nI s) Q _ K _ _ M
          unfold k_Ch_waterOf_29
          simp (disch := omega) only [fa_lit0, xI_le_T, xI_le_F, xI_lt_T, xI_lt_F, xI_eq_T, xI_eq_F, xN_a, xN_b, xN_c, xN_d, xN_e, xN_f, xN_g, xN_h, xI_add, xI_mul, xI_sub, xI_tn, xI_in, xI_ofNat, gi_si_eq, gi_n1, gi_n2, gl_sl_eq, gl_n1, gl_n2, gi_sl, gl_si, forall_eq, true_implies, false_implies, not_true_eq_false, not_false_eq_true, and_true, true_and, implies_true, and_self, b1, bs_r, this]
          exact ih (m + 1) (by omega)
      exact ⟨_, key (C 0 0) 0 (by omega)⟩
    refine l1 _ ?_
    simp (disch := omega) only [fa_lit0, xI_le_T, xI_le_F, xI_lt_T, xI_lt_F, xI_eq_T, xI_eq_F, xN_a, xN_b, xN_c, xN_d, xN_e, xN_f, xN_g, xN_h, xI_add, xI_mul, xI_sub, xI_tn, xI_in, xI_ofNat, gi_si_eq, gi_n1, gi_n2, gl_sl_eq, gl_n1, gl_n2, gi_sl, gl_si, forall_eq, true_implies, false_implies, not_true_eq_false, not_false_eq_true, and_true, true_and, implies_true, and_self, b2]
    have l2 : ∀ (K : Int32 → Int32 → Mm → Prop), K (nI (wsum C s (C 0 0))) (nI (C 0 1 - shr C s (wsum C s (C 0 0)) (C 0 0))) M → ∃ n, lp_Ch_waterOf_76 20 (nI i) (nI s) Q K n (nI (wsum C s (C 0 0))) (nI (C 0 1)) (nI 0) M := by
      intro K hK
      have key : ∀ (d m : Nat), m + d = C 0 0 → lp_Ch_waterOf_76 20 (nI i) (nI s) Q K (d + 1) (nI (wsum C s (C 0 0))) (nI (C 0 1 - shr C s (wsum C s (C 0 0)) m)) (nI m) M := by
        intro d
        induction d with
        | zero =>
          intro m hm
          have hm : m = C 0 0 := by omega
          subst hm
          show k_Ch_waterOf_76 20 (nI i) (nI s) Q _ K _ _ _ M
          unfold k_Ch_waterOf_76
          simp (disch := omega) only [fa_lit0, xI_le_T, xI_le_F, xI_lt_T, xI_lt_F, xI_eq_T, xI_eq_F, xN_a, xN_b, xN_c, xN_d, xN_e, xN_f, xN_g, xN_h, xI_add, xI_mul, xI_sub, xI_tn, xI_in, xI_ofNat, gi_si_eq, gi_n1, gi_n2, gl_sl_eq, gl_n1, gl_n2, gi_sl, gl_si, forall_eq, true_implies, false_implies, not_true_eq_false, not_false_eq_true, and_true, true_and, implies_true, and_self, b1]
          exact hK
        | succ d ih =>
          intro m hm
          have hwm := (b3 m (by omega)).2.1
          have hrm := riv_mul hC (i := m) (by omega)
          have e1 := shr_riv (C := C) (s := s) (m := m) (by omega) hp
          have e2 := shr_riv (C := C) (s := s) (m := m + 1) (by omega) hp
          have e3 : shr C s (wsum C s (C 0 0)) (m + 1) = shr C s (wsum C s (C 0 0)) m + (if s / 2 ^ m % 2 = 0 then 0 else C 0 1 * C 2 m / wsum C s (C 0 0)) := rfl
          have ih1 := ih (m + 1) (by omega)
          show k_Ch_waterOf_76 20 (nI i) (nI s) Q _ K _ _ _ M
          unfold k_Ch_waterOf_76
          by_cases hbm : s / 2 ^ m % 2 = 0
          · rw [if_pos hbm] at e3
            rw [e3, Nat.add_zero] at ih1
            simp (disch := omega) only [fa_lit0, xI_le_T, xI_le_F, xI_lt_T, xI_lt_F, xI_eq_T, xI_eq_F, xN_a, xN_b, xN_c, xN_d, xN_e, xN_f, xN_g, xN_h, xI_add, xI_mul, xI_sub, xI_tn, xI_in, xI_ofNat, gi_si_eq, gi_n1, gi_n2, gl_sl_eq, gl_n1, gl_n2, gi_sl, gl_si, forall_eq, true_implies, false_implies, not_true_eq_false, not_false_eq_true, and_true, true_and, implies_true, and_self, b1, wp_B_hasBit, bs_r, hbm, k_Ch_waterOf_114, Nat.sub_zero]
            exact ih1
          · rw [if_neg hbm] at e3
            have hbm1 : s / 2 ^ m % 2 = 1 := by omega
            simp (disch := omega) only [fa_lit0, xI_le_T, xI_le_F, xI_lt_T, xI_lt_F, xI_eq_T, xI_eq_F, xN_a, xN_b, xN_c, xN_d, xN_e, xN_f, xN_g, xN_h, xI_add, xI_mul, xI_sub, xI_tn, xI_in, xI_ofNat, gi_si_eq, gi_n1, gi_n2, gl_sl_eq, gl_n1, gl_n2, gi_sl, gl_si, forall_eq, true_implies, false_implies, not_true_eq_false, not_false_eq_true, and_true, true_and, implies_true, and_self, b1, b2, wp_B_hasBit, bs_r, hbm1, k_Ch_waterOf_114, hwm, xI_div]
            rw [e3, Nat.sub_add_eq] at ih1
            exact ih1
      have := key (C 0 0) 0 (by omega)
      exact ⟨_, this⟩
    refine l2 _ ?_
    have hc := cnt_mask s hs i (by omega)
    have h2i : 1 ≤ 2 ^ i := Nat.one_le_two_pow
    simp (disch := omega) only [fa_lit0, xI_le_T, xI_le_F, xI_lt_T, xI_lt_F, xI_eq_T, xI_eq_F, xN_a, xN_b, xN_c, xN_d, xN_e, xN_f, xN_g, xN_h, xI_add, xI_mul, xI_sub, xI_tn, xI_in, xI_ofNat, gi_si_eq, gi_n1, gi_n2, gl_sl_eq, gl_n1, gl_n2, gi_sl, gl_si, forall_eq, true_implies, false_implies, not_true_eq_false, not_false_eq_true, and_true, true_and, implies_true, and_self, bs_l]
    simp (disch := omega) only [fa_lit0, xI_le_T, xI_le_F, xI_lt_T, xI_lt_F, xI_eq_T, xI_eq_F, xN_a, xN_b, xN_c, xN_d, xN_e, xN_f, xN_g, xN_h, xI_add, xI_mul, xI_sub, xI_tn, xI_in, xI_ofNat, gi_si_eq, gi_n1, gi_n2, gl_sl_eq, gl_n1, gl_n2, gi_sl, gl_si, forall_eq, true_implies, false_implies, not_true_eq_false, not_false_eq_true, and_true, true_and, implies_true, and_self, bs_and]
    refine J_bits_ok hc.2 ?_
    rw [hc.1]
    have hcl : cnt s i ≤ 5 := by
      have : ∀ m, cnt s m ≤ m := by
        intro m
        induction m with
        | zero => exact Nat.le_refl _
        | succ m ih => show cnt s m + s / 2 ^ m % 2 ≤ m + 1; omega
      have := this i
      omega
    by_cases hlt : C 0 1 - shr C s (wsum C s (C 0 0)) (C 0 0) ≤ cnt s i
    · rw [if_pos hlt] at h
      simp (disch := omega) only [fa_lit0, xI_le_T, xI_le_F, xI_lt_T, xI_lt_F, xI_eq_T, xI_eq_F, xN_a, xN_b, xN_c, xN_d, xN_e, xN_f, xN_g, xN_h, xI_add, xI_mul, xI_sub, xI_tn, xI_in, xI_ofNat, gi_si_eq, gi_n1, gi_n2, gl_sl_eq, gl_n1, gl_n2, gi_sl, gl_si, forall_eq, true_implies, false_implies, not_true_eq_false, not_false_eq_true, and_true, true_and, implies_true, and_self, b2, k2, xI_div]
      exact h
    · rw [if_neg hlt] at h
      simp (disch := omega) only [fa_lit0, xI_le_T, xI_le_F, xI_lt_T, xI_lt_F, xI_eq_T, xI_eq_F, xN_a, xN_b, xN_c, xN_d, xN_e, xN_f, xN_g, xN_h, xI_add, xI_mul, xI_sub, xI_tn, xI_in, xI_ofNat, gi_si_eq, gi_n1, gi_n2, gl_sl_eq, gl_n1, gl_n2, gi_sl, gl_si, forall_eq, true_implies, false_implies, not_true_eq_false, not_false_eq_true, and_true, true_and, implies_true, and_self, b2, k2, xI_div]
      exact h
