theorem keep_1 {k : Nat} (hk : k < 3) {M : Mm} {Q : Int32 → Mm → Prop} {K : Mm → Prop} (h : ∀ M', Sm (fun a b => a = 332 ∧ 31 * k + 0 ≤ b ∧ b < 31 * k + 31) M M' → (∀ j, j < 31 → gi M' 332 (31 * k + j) = gi M 327 (j)) → K M') : ∃ n, lp_M_keep_40 (nI k) Q K n (nI 0) M := by
  have key : ∀ (d m : Nat), m + d = 31 → ∀ M1, Sm (fun a b => a = 332 ∧ 31 * k + 0 ≤ b ∧ b < 31 * k + 31) M M1 → (∀ j, j < m → gi M1 332 (31 * k + j) = gi M 327 (j)) → lp_M_keep_40 (nI k) Q K (d + 1) (nI m) M1 := by
    intro d
    induction d with
    | zero =>
      intro m hm M1 s1 e1
      have hm : m = 31 := by omega
      subst hm
      show k_M_keep_40 (nI k) Q _ K _ M1
      unfold k_M_keep_40
      simp (disch := omega) only [fa_lit0, xI_le_T, xI_le_F, xI_lt_T, xI_lt_F, xI_eq_T, xI_eq_F, xN_a, xN_b, xN_c, xN_d, xN_e, xN_f, xN_g, xN_h, xI_add, xI_mul, xI_sub, xI_tn, xI_in, xI_ofNat, gi_si_eq, gi_n1, gi_n2, gl_sl_eq, gl_n1, gl_n2, gi_sl, gl_si, forall_eq, true_implies, false_implies, not_true_eq_false, not_false_eq_true, and_true, true_and, implies_true, and_self]
      exact h M1 s1 e1
    | succ d ih =>
      intro m hm M1 s1 e1
      have e : gi M1 327 (m) = gi M 327 (m) := s1.g (by omega)
      show k_M_keep_40 (nI k) Q _ K _ M1
      unfold k_M_keep_40
      simp (disch := omega) only [fa_lit0, xI_le_T, xI_le_F, xI_lt_T, xI_lt_F, xI_eq_T, xI_eq_F, xN_a, xN_b, xN_c, xN_d, xN_e, xN_f, xN_g, xN_h, xI_add, xI_mul, xI_sub, xI_tn, xI_in, xI_ofNat, gi_si_eq, gi_n1, gi_n2, gl_sl_eq, gl_n1, gl_n2, gi_sl, gl_si, forall_eq, true_implies, false_implies, not_true_eq_false, not_false_eq_true, and_true, true_and, implies_true, and_self, e]
      refine ih (m + 1) (by omega) _ (s1.wi ⟨rfl, by omega, by omega⟩) fun j hj => ?_
      by_cases w : j = m
      · subst w; exact gi_si_eq _ _ _ _
      · rw [gi_n2 (by omega)]; exact e1 j (by omega)
  exact ⟨_, key (31) 0 (by omega) M (Sm.refl _ M) (fun j hj => absurd hj (by omega))⟩
theorem keep_2 {k : Nat} (hk : k < 3) {M : Mm} {Q : Int32 → Mm → Prop} {K : Mm → Prop} (h : ∀ M', Sm (fun a b => a = 333 ∧ 5 * k + 0 ≤ b ∧ b < 5 * k + 5) M M' → (∀ j, j < 5 → gi M' 333 (5 * k + j) = gi M 321 (j)) → K M') : ∃ n, lp_M_keep_71 (nI k) Q K n (nI 0) M := by
  have key : ∀ (d m : Nat), m + d = 5 → ∀ M1, Sm (fun a b => a = 333 ∧ 5 * k + 0 ≤ b ∧ b < 5 * k + 5) M M1 → (∀ j, j < m → gi M1 333 (5 * k + j) = gi M 321 (j)) → lp_M_keep_71 (nI k) Q K (d + 1) (nI m) M1 := by
    intro d
    induction d with
    | zero =>
      intro m hm M1 s1 e1
      have hm : m = 5 := by omega
      subst hm
      show k_M_keep_71 (nI k) Q _ K _ M1
      unfold k_M_keep_71
      simp (disch := omega) only [fa_lit0, xI_le_T, xI_le_F, xI_lt_T, xI_lt_F, xI_eq_T, xI_eq_F, xN_a, xN_b, xN_c, xN_d, xN_e, xN_f, xN_g, xN_h, xI_add, xI_mul, xI_sub, xI_tn, xI_in, xI_ofNat, gi_si_eq, gi_n1, gi_n2, gl_sl_eq, gl_n1, gl_n2, gi_sl, gl_si, forall_eq, true_implies, false_implies, not_true_eq_false, not_false_eq_true, and_true, true_and, implies_true, and_self]
      exact h M1 s1 e1
    | succ d ih =>
      intro m hm M1 s1 e1
      have e : gi M1 321 (m) = gi M 321 (m) := s1.g (by omega)
      show k_M_keep_71 (nI k) Q _ K _ M1
      unfold k_M_keep_71
      simp (disch := omega) only [fa_lit0, xI_le_T, xI_le_F, xI_lt_T, xI_lt_F, xI_eq_T, xI_eq_F, xN_a, xN_b, xN_c, xN_d, xN_e, xN_f, xN_g, xN_h, xI_add, xI_mul, xI_sub, xI_tn, xI_in, xI_ofNat, gi_si_eq, gi_n1, gi_n2, gl_sl_eq, gl_n1, gl_n2, gi_sl, gl_si, forall_eq, true_implies, false_implies, not_true_eq_false, not_false_eq_true, and_true, true_and, implies_true, and_self, e]
      refine ih (m + 1) (by omega) _ (s1.wi ⟨rfl, by omega, by omega⟩) fun j hj => ?_
      by_cases w : j = m
      · subst w; exact gi_si_eq _ _ _ _
      · rw [gi_n2 (by omega)]; exact e1 j (by omega)
  exact ⟨_, key (5) 0 (by omega) M (Sm.refl _ M) (fun j hj => absurd hj (by omega))⟩
theorem keep_3 {k D : Nat} (hk : k < 3) (hD : D ≤ 60) {M : Mm} {Q : Int32 → Mm → Prop} (e28 : gi M 312 28 = nI D) (h : ∀ M', Sm (fun a b => a = 334 ∧ 1860 * k + 0 ≤ b ∧ b < 1860 * k + 31 * D) M M' → (∀ j, j < 31 * D → gi M' 334 (1860 * k + j) = gi M 329 (j)) → Q (nI D) M') : ∃ n, lp_M_keep_100 (nI k) Q n (nI 0) M := by
  have key : ∀ (d m : Nat), m + d = 31 * D → ∀ M1, Sm (fun a b => a = 334 ∧ 1860 * k + 0 ≤ b ∧ b < 1860 * k + 31 * D) M M1 → (∀ j, j < m → gi M1 334 (1860 * k + j) = gi M 329 (j)) → lp_M_keep_100 (nI k) Q (d + 1) (nI m) M1 := by
    intro d
    induction d with
    | zero =>
      intro m hm M1 s1 e1
      have hm : m = 31 * D := by omega
      subst hm
      have e28' : gi M1 312 28 = nI D := (s1.g (by omega)).trans e28
      show k_M_keep_100 (nI k) Q _ _ M1
      unfold k_M_keep_100
      simp (disch := omega) only [fa_lit0, xI_le_T, xI_le_F, xI_lt_T, xI_lt_F, xI_eq_T, xI_eq_F, xN_a, xN_b, xN_c, xN_d, xN_e, xN_f, xN_g, xN_h, xI_add, xI_mul, xI_sub, xI_tn, xI_in, xI_ofNat, gi_si_eq, gi_n1, gi_n2, gl_sl_eq, gl_n1, gl_n2, gi_sl, gl_si, forall_eq, true_implies, false_implies, not_true_eq_false, not_false_eq_true, and_true, true_and, implies_true, and_self, e28']
      exact h M1 s1 e1
    | succ d ih =>
      intro m hm M1 s1 e1
      have e : gi M1 329 (m) = gi M 329 (m) := s1.g (by omega)
      have e28' : gi M1 312 28 = nI D := (s1.g (by omega)).trans e28
      show k_M_keep_100 (nI k) Q _ _ M1
      unfold k_M_keep_100
      simp (disch := omega) only [fa_lit0, xI_le_T, xI_le_F, xI_lt_T, xI_lt_F, xI_eq_T, xI_eq_F, xN_a, xN_b, xN_c, xN_d, xN_e, xN_f, xN_g, xN_h, xI_add, xI_mul, xI_sub, xI_tn, xI_in, xI_ofNat, gi_si_eq, gi_n1, gi_n2, gl_sl_eq, gl_n1, gl_n2, gi_sl, gl_si, forall_eq, true_implies, false_implies, not_true_eq_false, not_false_eq_true, and_true, true_and, implies_true, and_self, e, e28']
      refine ih (m + 1) (by omega) _ (s1.wi ⟨rfl, by omega, by omega⟩) fun j hj => ?_
      by_cases w : j = m
      · subst w; exact gi_si_eq _ _ _ _
      · rw [gi_n2 (by omega)]; exact e1 j (by omega)
  exact ⟨_, key (31 * D) 0 (by omega) M (Sm.refl _ M) (fun j hj => absurd hj (by omega))⟩
theorem on_1 {k : Nat} (hk : k < 3) {M : Mm} {Q : Int32 → Mm → Prop} {K : Mm → Prop} (h : ∀ M', Sm (fun a b => a = 327 ∧ 0 ≤ b ∧ b < 31) M M' → (∀ j, j < 31 → gi M' 327 (j) = gi M 332 (31 * k + j)) → K M') : ∃ n, lp_M_on_38 (nI k) Q K n (nI 0) M := by
  have key : ∀ (d m : Nat), m + d = 31 → ∀ M1, Sm (fun a b => a = 327 ∧ 0 ≤ b ∧ b < 31) M M1 → (∀ j, j < m → gi M1 327 (j) = gi M 332 (31 * k + j)) → lp_M_on_38 (nI k) Q K (d + 1) (nI m) M1 := by
    intro d
    induction d with
    | zero =>
      intro m hm M1 s1 e1
      have hm : m = 31 := by omega
      subst hm
      show k_M_on_38 (nI k) Q _ K _ M1
      unfold k_M_on_38
      simp (disch := omega) only [fa_lit0, xI_le_T, xI_le_F, xI_lt_T, xI_lt_F, xI_eq_T, xI_eq_F, xN_a, xN_b, xN_c, xN_d, xN_e, xN_f, xN_g, xN_h, xI_add, xI_mul, xI_sub, xI_tn, xI_in, xI_ofNat, gi_si_eq, gi_n1, gi_n2, gl_sl_eq, gl_n1, gl_n2, gi_sl, gl_si, forall_eq, true_implies, false_implies, not_true_eq_false, not_false_eq_true, and_true, true_and, implies_true, and_self]
      exact h M1 s1 e1
    | succ d ih =>
      intro m hm M1 s1 e1
      have e : gi M1 332 (31 * k + m) = gi M 332 (31 * k + m) := s1.g (by omega)
      show k_M_on_38 (nI k) Q _ K _ M1
      unfold k_M_on_38
      simp (disch := omega) only [fa_lit0, xI_le_T, xI_le_F, xI_lt_T, xI_lt_F, xI_eq_T, xI_eq_F, xN_a, xN_b, xN_c, xN_d, xN_e, xN_f, xN_g, xN_h, xI_add, xI_mul, xI_sub, xI_tn, xI_in, xI_ofNat, gi_si_eq, gi_n1, gi_n2, gl_sl_eq, gl_n1, gl_n2, gi_sl, gl_si, forall_eq, true_implies, false_implies, not_true_eq_false, not_false_eq_true, and_true, true_and, implies_true, and_self, e]
      refine ih (m + 1) (by omega) _ (s1.wi ⟨rfl, by omega, by omega⟩) fun j hj => ?_
      by_cases w : j = m
      · subst w; exact gi_si_eq _ _ _ _
      · rw [gi_n2 (by omega)]; exact e1 j (by omega)
  exact ⟨_, key (31) 0 (by omega) M (Sm.refl _ M) (fun j hj => absurd hj (by omega))⟩
theorem on_2 {k : Nat} (hk : k < 3) {M : Mm} {Q : Int32 → Mm → Prop} {K : Mm → Prop} (h : ∀ M', Sm (fun a b => a = 321 ∧ 0 ≤ b ∧ b < 5) M M' → (∀ j, j < 5 → gi M' 321 (j) = gi M 333 (5 * k + j)) → K M') : ∃ n, lp_M_on_69 (nI k) Q K n (nI 0) M := by
  have key : ∀ (d m : Nat), m + d = 5 → ∀ M1, Sm (fun a b => a = 321 ∧ 0 ≤ b ∧ b < 5) M M1 → (∀ j, j < m → gi M1 321 (j) = gi M 333 (5 * k + j)) → lp_M_on_69 (nI k) Q K (d + 1) (nI m) M1 := by
    intro d
    induction d with
    | zero =>
      intro m hm M1 s1 e1
      have hm : m = 5 := by omega
      subst hm
      show k_M_on_69 (nI k) Q _ K _ M1
      unfold k_M_on_69
      simp (disch := omega) only [fa_lit0, xI_le_T, xI_le_F, xI_lt_T, xI_lt_F, xI_eq_T, xI_eq_F, xN_a, xN_b, xN_c, xN_d, xN_e, xN_f, xN_g, xN_h, xI_add, xI_mul, xI_sub, xI_tn, xI_in, xI_ofNat, gi_si_eq, gi_n1, gi_n2, gl_sl_eq, gl_n1, gl_n2, gi_sl, gl_si, forall_eq, true_implies, false_implies, not_true_eq_false, not_false_eq_true, and_true, true_and, implies_true, and_self]
      exact h M1 s1 e1
    | succ d ih =>
      intro m hm M1 s1 e1
      have e : gi M1 333 (5 * k + m) = gi M 333 (5 * k + m) := s1.g (by omega)
      show k_M_on_69 (nI k) Q _ K _ M1
      unfold k_M_on_69
      simp (disch := omega) only [fa_lit0, xI_le_T, xI_le_F, xI_lt_T, xI_lt_F, xI_eq_T, xI_eq_F, xN_a, xN_b, xN_c, xN_d, xN_e, xN_f, xN_g, xN_h, xI_add, xI_mul, xI_sub, xI_tn, xI_in, xI_ofNat, gi_si_eq, gi_n1, gi_n2, gl_sl_eq, gl_n1, gl_n2, gi_sl, gl_si, forall_eq, true_implies, false_implies, not_true_eq_false, not_false_eq_true, and_true, true_and, implies_true, and_self, e]
      refine ih (m + 1) (by omega) _ (s1.wi ⟨rfl, by omega, by omega⟩) fun j hj => ?_
      by_cases w : j = m
      · subst w; exact gi_si_eq _ _ _ _
      · rw [gi_n2 (by omega)]; exact e1 j (by omega)
  exact ⟨_, key (5) 0 (by omega) M (Sm.refl _ M) (fun j hj => absurd hj (by omega))⟩
theorem on_3 {k D : Nat} (hk : k < 3) (hD : D ≤ 60) {M : Mm} {Q : Int32 → Mm → Prop} (e28 : gi M 312 28 = nI D) (h : ∀ M', Sm (fun a b => a = 329 ∧ 0 ≤ b ∧ b < 31 * D) M M' → (∀ j, j < 31 * D → gi M' 329 (j) = gi M 334 (1860 * k + j)) → Q (nI D) M') : ∃ n, lp_M_on_98 (nI k) Q n (nI 0) M := by
  have key : ∀ (d m : Nat), m + d = 31 * D → ∀ M1, Sm (fun a b => a = 329 ∧ 0 ≤ b ∧ b < 31 * D) M M1 → (∀ j, j < m → gi M1 329 (j) = gi M 334 (1860 * k + j)) → lp_M_on_98 (nI k) Q (d + 1) (nI m) M1 := by
    intro d
    induction d with
    | zero =>
      intro m hm M1 s1 e1
      have hm : m = 31 * D := by omega
      subst hm
      have e28' : gi M1 312 28 = nI D := (s1.g (by omega)).trans e28
      show k_M_on_98 (nI k) Q _ _ M1
      unfold k_M_on_98
      simp (disch := omega) only [fa_lit0, xI_le_T, xI_le_F, xI_lt_T, xI_lt_F, xI_eq_T, xI_eq_F, xN_a, xN_b, xN_c, xN_d, xN_e, xN_f, xN_g, xN_h, xI_add, xI_mul, xI_sub, xI_tn, xI_in, xI_ofNat, gi_si_eq, gi_n1, gi_n2, gl_sl_eq, gl_n1, gl_n2, gi_sl, gl_si, forall_eq, true_implies, false_implies, not_true_eq_false, not_false_eq_true, and_true, true_and, implies_true, and_self, e28']
      exact h M1 s1 e1
    | succ d ih =>
      intro m hm M1 s1 e1
      have e : gi M1 334 (1860 * k + m) = gi M 334 (1860 * k + m) := s1.g (by omega)
      have e28' : gi M1 312 28 = nI D := (s1.g (by omega)).trans e28
      show k_M_on_98 (nI k) Q _ _ M1
      unfold k_M_on_98
      simp (disch := omega) only [fa_lit0, xI_le_T, xI_le_F, xI_lt_T, xI_lt_F, xI_eq_T, xI_eq_F, xN_a, xN_b, xN_c, xN_d, xN_e, xN_f, xN_g, xN_h, xI_add, xI_mul, xI_sub, xI_tn, xI_in, xI_ofNat, gi_si_eq, gi_n1, gi_n2, gl_sl_eq, gl_n1, gl_n2, gi_sl, gl_si, forall_eq, true_implies, false_implies, not_true_eq_false, not_false_eq_true, and_true, true_and, implies_true, and_self, e, e28']
      refine ih (m + 1) (by omega) _ (s1.wi ⟨rfl, by omega, by omega⟩) fun j hj => ?_
      by_cases w : j = m
      · subst w; exact gi_si_eq _ _ _ _
      · rw [gi_n2 (by omega)]; exact e1 j (by omega)
  exact ⟨_, key (31 * D) 0 (by omega) M (Sm.refl _ M) (fun j hj => absurd hj (by omega))⟩
theorem B_stcopy {sa sb D : Nat} {F : Nat → Nat} {L : Nat → Nat → Nat} {M : Mm} (hab : sa + 63 ≤ sb ∨ sb + 63 ≤ sa) (hD : D ≤ 60) (h1 : FlB F M (sb + 1)) (h2 : gi M sb 2 = nI D) (h3 : ∀ d, d < D → FlB (L d) M (sb + 2 + 1 + d)) {Q : Mm → Prop} (h : ∀ M', Sm (fun a b => (a = sa ∧ b = 2) ∨ a = sa + 1 ∨ (sa + 3 ≤ a ∧ a < sa + 63)) M M' → FlB F M' (sa + 1) → gi M' sa 2 = nI D → (∀ d, d < D → FlB (L d) M' (sa + 2 + 1 + d)) → Q M') : wp_St_copyFrom sa sb M Q := by
  unfold wp_St_copyFrom
  refine B_copy h1 (by omega) fun M1 s1 f1 => ?_
  have e1 : gi M1 sb 2 = nI D := (s1.g (by omega)).trans h2
  simp (disch := omega) only [fa_lit0, xI_le_T, xI_le_F, xI_lt_T, xI_lt_F, xI_eq_T, xI_eq_F, xN_a, xN_b, xN_c, xN_d, xN_e, xN_f, xN_g, xN_h, xI_add, xI_mul, xI_sub, xI_tn, xI_in, xI_ofNat, gi_si_eq, gi_n1, gi_n2, gl_sl_eq, gl_n1, gl_n2, gi_sl, gl_si, forall_eq, true_implies, false_implies, not_true_eq_false, not_false_eq_true, and_true, true_and, implies_true, and_self, e1]
  have key : ∀ (d m : Nat), m + d = D → ∀ M2, Sm (fun a b => (a = sa ∧ b = 2) ∨ a = sa + 1 ∨ (sa + 3 ≤ a ∧ a < sa + 63)) M M2 → FlB F M2 (sa + 1) → gi M2 sa 2 = nI D → (∀ q, q < m → FlB (L q) M2 (sa + 2 + 1 + q)) → lp_St_copyFrom_21 sa sb Q (d + 1) (nI m) M2 := by
    intro d
    induction d with
    | zero =>
      intro m hm M2 s2 f2 e2 l2
      have hm : m = D := by omega
      subst hm
      show k_St_copyFrom_21 sa sb Q _ _ M2
      unfold k_St_copyFrom_21
      simp (disch := omega) only [fa_lit0, xI_le_T, xI_le_F, xI_lt_T, xI_lt_F, xI_eq_T, xI_eq_F, xN_a, xN_b, xN_c, xN_d, xN_e, xN_f, xN_g, xN_h, xI_add, xI_mul, xI_sub, xI_tn, xI_in, xI_ofNat, gi_si_eq, gi_n1, gi_n2, gl_sl_eq, gl_n1, gl_n2, gi_sl, gl_si, forall_eq, true_implies, false_implies, not_true_eq_false, not_false_eq_true, and_true, true_and, implies_true, and_self, e2]
      exact h M2 s2 f2 e2 l2
    | succ d ih =>
      intro m hm M2 s2 f2 e2 l2
      have fm : FlB (L m) M2 (sb + 2 + 1 + m) := (h3 m (by omega)).sm s2 (fun b => by omega)
      show k_St_copyFrom_21 sa sb Q _ _ M2
      unfold k_St_copyFrom_21
      simp (disch := omega) only [fa_lit0, xI_le_T, xI_le_F, xI_lt_T, xI_lt_F, xI_eq_T, xI_eq_F, xN_a, xN_b, xN_c, xN_d, xN_e, xN_f, xN_g, xN_h, xI_add, xI_mul, xI_sub, xI_tn, xI_in, xI_ofNat, gi_si_eq, gi_n1, gi_n2, gl_sl_eq, gl_n1, gl_n2, gi_sl, gl_si, forall_eq, true_implies, false_implies, not_true_eq_false, not_false_eq_true, and_true, true_and, implies_true, and_self, e2]
      refine B_copy fm (by omega) fun M3 s3 f3 => ?_
      refine ih (m + 1) (by omega) M3 (s2.trans (s3.mono (fun a b w => by omega))) (f2.sm s3 (fun b => by omega)) ((s3.g (by omega)).trans e2) fun q hq => ?_
      by_cases w : q = m
      · subst w; exact f3
      · exact (l2 q (by omega)).sm s3 (fun b => by omega)
  have s2 : Sm (fun a b => (a = sa ∧ b = 2) ∨ a = sa + 1 ∨ (sa + 3 ≤ a ∧ a < sa + 63)) M (si M1 sa 2 (nI D)) := (s1.mono (fun a b w => by omega)).wi (Or.inl ⟨rfl, rfl⟩)
  refine ⟨_, key D 0 (by omega) _ s2 (f1.sm (S := fun a b => a = sa) ((Sm.refl _ M1).wi rfl) (fun b => by omega)) (gi_si_eq _ _ _ _) (fun q hq => absurd hq (by omega))⟩
theorem stOf_k {k : Nat} (hk : k < 3) : stOf (54 + 2 * k) = 123 + 63 * k := by
  rcases (show k = 0 ∨ k = 1 ∨ k = 2 by omega) with e | e | e <;> subst e <;> rfl
theorem nb0 : vp_nar .boolean (nI 0) = nI 0 := by decide
theorem nb1 : vp_nar .boolean (nI 1) = nI 1 := by decide
def upT (T : Nat → Nat → Nat) (k : Nat) (f : Nat → Nat) : Nat → Nat → Nat := fun q => if q = k then f else T q
theorem upT_eq (T : Nat → Nat → Nat) (k : Nat) (f : Nat → Nat) : upT T k f k = f := if_pos rfl
theorem upT_ne {T : Nat → Nat → Nat} {k q : Nat} {f : Nat → Nat} (h : q ≠ k) : upT T k f q = T q := if_neg h
def upK (T : Nat → Nat → Nat → Nat) (k : Nat) (f : Nat → Nat → Nat) : Nat → Nat → Nat → Nat := fun q => if q = k then f else T q
theorem upK_eq (T : Nat → Nat → Nat → Nat) (k : Nat) (f : Nat → Nat → Nat) : upK T k f k = f := if_pos rfl
theorem upK_ne {T : Nat → Nat → Nat → Nat} {k q : Nat} {f : Nat → Nat → Nat} (h : q ≠ k) : upK T k f q = T q := if_neg h
/-- the places of a kept delta -/
def SKp (k a b : Nat) : Prop := a = 54 + 2 * k ∨ a = 55 + 2 * k ∨ (123 + 63 * k ≤ a ∧ a < 186 + 63 * k) ∨ (a = 330 ∧ b = k) ∨ (a = 331 ∧ b = k) ∨ (a = 332 ∧ 31 * k ≤ b ∧ b < 31 * k + 31) ∨ (a = 333 ∧ 5 * k ≤ b ∧ b < 5 * k + 5) ∨ (a = 334 ∧ 1860 * k ≤ b ∧ b < 1860 * k + 1860)
theorem keep_fin {C : Nat → Nat → Nat} {F : Nat → Nat} {D k : Nat} {L T N V : Nat → Nat → Nat} {KL : Nat → Nat → Nat → Nat} {M M' : Mm} (h : Rel RDel M) (hd : Sta C F D L T N V KL M) (hk : k < 3) (hp : 0 < C 0 0) (s : Sm (SKp k) M M') (e1 : gi M' (54 + 2 * k) 2 = nI 1) (e2 : gi M' 330 k = nI 1) (e3 : gi M' (123 + 63 * k) 2 = nI D) (e4 : gi M' 331 k = nI D) (f1 : FlB F M' (124 + 63 * k)) (f2 : FlM F (fun j => gi M' 332 (31 * k + j))) (g : ∀ i, i < C 0 0 → gi M' (55 + 2 * k) i = nI (C 3 i) ∧ gi M' 333 (5 * k + i) = nI (C 3 i)) (l : ∀ d, d < D → FlB (L d) M' (126 + 63 * k + d) ∧ FlM (L d) (fun j => gi M' 334 (1860 * k + (31 * d + j)))) : Rel RDel M' := by
  obtain ⟨h1, h2, h3, h4, h5, h6, h7⟩ := h
  obtain ⟨d1, d2, d3, d4, d5, d6⟩ := hd
  refine ⟨h1.sm s (fun a b w => by unfold SKp; omega), h2.keep (fun k j w => s.g (by unfold SKp; omega)), h3.keep (fun k w => s.g (by unfold SKp; omega)) (s.l (by unfold SKp; omega)), h4.keep (fun k j w => s.g (by unfold SKp; omega)), h5.sm s (by unfold SKp; omega) (by unfold SKp; omega), h6.sm s (fun a b w => by unfold SKp; omega), C, F, D, L, upT T k (fun q => if q = 0 then 1 else D), upT N k (C 3), upT V k F, upK KL k L, d1.keep (fun k j w => s.g (by unfold SKp; omega)), d2.keep (fun k j w => s.g (by unfold SKp; omega)) (s.l (by unfold SKp; omega)), d3, d4.keep (fun k j w => s.g (by unfold SKp; omega)) (fun k j w1 w2 => s.l (by unfold SKp; omega)), fun q hq => ?_, fun q hq _ => hp⟩
  by_cases e : q = k
  · subst e
    rw [upT_eq, upT_eq, upT_eq, upK_eq]
    refine ⟨Nat.le_refl _, e1, e2, fun _ => ⟨d4.1, e3, e4, d2.1, d3, f1, f2, fun i hi => ⟨(d1.1.2.2 i hi).2.2.1, g i hi⟩, fun d hd => ⟨(d4.2.2.2 d hd).1, (d4.2.2.2 d hd).2.1, l d hd⟩⟩⟩
  · rw [upT_ne e, upT_ne e, upT_ne e, upK_ne e]
    obtain ⟨a1, a2, a3, a4⟩ := d5 q hq
    refine ⟨a1, (s.g (by unfold SKp; omega)).trans a2, (s.g (by unfold SKp; omega)).trans a3, fun ht => ?_⟩
    obtain ⟨c1, c2, c3, c4, c5, c6, c7, c8, c9⟩ := a4 ht
    have := d1.1.1
    refine ⟨c1, (s.g (by unfold SKp; omega)).trans c2, (s.g (by unfold SKp; omega)).trans c3, c4, c5, c6.sm s (fun b => by unfold SKp; omega), c7.keep (fun j hj => s.g (by unfold SKp; omega)), fun i hi => ?_, fun d hd => ?_⟩
    · obtain ⟨b1, b2, b3⟩ := c8 i hi
      exact ⟨b1, (s.g (by unfold SKp; omega)).trans b2, (s.g (by unfold SKp; omega)).trans b3⟩
    · obtain ⟨b1, b2, b3, b4⟩ := c9 d hd
      exact ⟨b1, b2, b3.sm s (fun b => by unfold SKp; omega), b4.keep (fun j hj => s.g (by unfold SKp; omega))⟩
theorem Sm.cp {S : Nat → Nat → Prop} {M M' : Mm} (h : Sm S M M') {k0 k1 sp dp n : Nat} (hk : ∀ b, S k1 b) : Sm S M (cpi M' k0 k1 sp dp n) := fun a b q => by
  refine ⟨?_, ?_⟩
  · rw [gi_cpi, if_neg (fun w => q (by rw [w]; exact hk b))]; exact (h a b q).1
  · rw [gl_cpi]; exact (h a b q).2
theorem cp5 {M : Mm} {k0 k1 b : Nat} (hb : b < 5) : gi (cpi M k0 k1 0 0 5) k1 b = gi M k0 b := by
  rw [gi_cpi, if_pos rfl, pk_cpy_in (by omega) (by omega), Nat.sub_zero, Nat.zero_add]
theorem op_keep {a1 : Int32} {M : Mm} (h : Rel RDel M) : wp_B_keep a1 M (fun r M1 => wp_M_keep a1 M1 (fun r2 M2 => r = r2 ∧ Rel RDel M2)) := by
  obtain ⟨C, F, D, L, T, N, V, KL, hd⟩ := h.2.2.2.2.2.2.out
  obtain ⟨hC, hB, hW, hO, hF, hG, -⟩ := hd.parts
  have hn := hC.1
  have b1 := hB.1
  have m1 := hW.2.1
  have hd' := hd
  obtain ⟨-, -, h30, ⟨l1, l2, l3, l4⟩, -, -⟩ := hd'
  rcases pk_ix a1 (n := 3) (by omega) with g | g | ⟨k, hk, rfl⟩
  · simp (disch := omega) only [fa_lit0, xI_le_T, xI_le_F, xI_lt_T, xI_lt_F, xI_eq_T, xI_eq_F, xN_a, xN_b, xN_c, xN_d, xN_e, xN_f, xN_g, xN_h, xI_add, xI_mul, xI_sub, xI_tn, xI_in, xI_ofNat, gi_si_eq, gi_n1, gi_n2, gl_sl_eq, gl_n1, gl_n2, gi_sl, gl_si, forall_eq, true_implies, false_implies, not_true_eq_false, not_false_eq_true, and_true, true_and, implies_true, and_self, wp_B_keep, wp_M_keep, wp_M_in, ng_a g]
    exact h
  · simp (disch := omega) only [fa_lit0, xI_le_T, xI_le_F, xI_lt_T, xI_lt_F, xI_eq_T, xI_eq_F, xN_a, xN_b, xN_c, xN_d, xN_e, xN_f, xN_g, xN_h, xI_add, xI_mul, xI_sub, xI_tn, xI_in, xI_ofNat, gi_si_eq, gi_n1, gi_n2, gl_sl_eq, gl_n1, gl_n2, gi_sl, gl_si, forall_eq, true_implies, false_implies, not_true_eq_false, not_false_eq_true, and_true, true_and, implies_true, and_self, wp_B_keep, wp_M_keep, wp_M_in, bg_a g, bg_c g]
    exact h
  · by_cases c : C 0 0 = 0
    · simp (disch := omega) only [fa_lit0, xI_le_T, xI_le_F, xI_lt_T, xI_lt_F, xI_eq_T, xI_eq_F, xN_a, xN_b, xN_c, xN_d, xN_e, xN_f, xN_g, xN_h, xI_add, xI_mul, xI_sub, xI_tn, xI_in, xI_ofNat, gi_si_eq, gi_n1, gi_n2, gl_sl_eq, gl_n1, gl_n2, gi_sl, gl_si, forall_eq, true_implies, false_implies, not_true_eq_false, not_false_eq_true, and_true, true_and, implies_true, and_self, wp_B_keep, wp_M_keep, wp_M_in, b1, m1, c]
      exact h
    · simp (disch := omega) only [fa_lit0, xI_le_T, xI_le_F, xI_lt_T, xI_lt_F, xI_eq_T, xI_eq_F, xN_a, xN_b, xN_c, xN_d, xN_e, xN_f, xN_g, xN_h, xI_add, xI_mul, xI_sub, xI_tn, xI_in, xI_ofNat, gi_si_eq, gi_n1, gi_n2, gl_sl_eq, gl_n1, gl_n2, gi_sl, gl_si, forall_eq, true_implies, false_implies, not_true_eq_false, not_false_eq_true, and_true, true_and, implies_true, and_self, wp_B_keep, b1, stOf_k hk]
      refine B_stcopy (sb := 60) (by omega) l1 hF l2 (fun d hd => (l4 d hd).2.2.1) fun M1 s1 f1 e1 g1 => ?_
      simp (disch := omega) only [fa_lit0, xI_le_T, xI_le_F, xI_lt_T, xI_lt_F, xI_eq_T, xI_eq_F, xN_a, xN_b, xN_c, xN_d, xN_e, xN_f, xN_g, xN_h, xI_add, xI_mul, xI_sub, xI_tn, xI_in, xI_ofNat, gi_si_eq, gi_n1, gi_n2, gl_sl_eq, gl_n1, gl_n2, gi_sl, gl_si, forall_eq, true_implies, false_implies, not_true_eq_false, not_false_eq_true, and_true, true_and, implies_true, and_self, Nat.le_refl]
      have r60' : gi (cpi M1 23 (54 + 2 * k + 1) 0 0 5) 60 2 = nI D := by rw [gi_cpi, if_neg (by omega), s1.g (by omega)]; exact l2
      have s2 : Sm (fun a b => a = 54 + 2 * k ∨ a = 54 + 2 * k + 1 ∨ (123 + 63 * k ≤ a ∧ a < 186 + 63 * k)) M (si (cpi M1 23 (54 + 2 * k + 1) 0 0 5) (54 + 2 * k) 2 (nI 1)) := ((s1.mono (fun a b w => by omega)).cp (fun b => Or.inr (Or.inl rfl))).wi (Or.inl rfl)
      have s3 : Sm (fun a b => a = 54 + 2 * k ∨ a = 54 + 2 * k + 1) M1 (si (cpi M1 23 (54 + 2 * k + 1) 0 0 5) (54 + 2 * k) 2 (nI 1)) := ((Sm.refl _ M1).cp (fun b => Or.inr rfl)).wi (Or.inl rfl)
      have n2 : ∀ i, i < C 0 0 → gi (si (cpi M1 23 (54 + 2 * k + 1) 0 0 5) (54 + 2 * k) 2 (nI 1)) (54 + 2 * k + 1) i = nI (C 3 i) := fun i hi => by
        rw [gi_n1 (by omega), cp5 (by omega), s1.g (by omega)]
        exact (hB.2.2 i hi).2.2.1
      have t2 : gi (si (cpi M1 23 (54 + 2 * k + 1) 0 0 5) (54 + 2 * k) 2 (nI 1)) (54 + 2 * k) 2 = nI 1 := gi_si_eq _ _ _ _
      have f3 := f1.sm s3 (fun b => by omega)
      have g3 : ∀ d, d < D → FlB (L d) _ (123 + 63 * k + 2 + 1 + d) := fun d hd => (g1 d hd).sm s3 (fun b => by omega)
      have e3 := (s3.g (a := 123 + 63 * k) (b := 2) (by omega)).trans e1
      generalize si (cpi M1 23 (54 + 2 * k + 1) 0 0 5) (54 + 2 * k) 2 (nI 1) = M2 at *
      have r60 : gi M2 60 2 = nI D := (s2.g (by omega)).trans l2
      have w2 : MW C M2 := hW.sm s2 (fun a b w => by omega)
      have q28 : gi M2 312 28 = nI D := (s2.g (by omega)).trans l3
      simp (disch := omega) only [fa_lit0, xI_le_T, xI_le_F, xI_lt_T, xI_lt_F, xI_eq_T, xI_eq_F, xN_a, xN_b, xN_c, xN_d, xN_e, xN_f, xN_g, xN_h, xI_add, xI_mul, xI_sub, xI_tn, xI_in, xI_ofNat, gi_si_eq, gi_n1, gi_n2, gl_sl_eq, gl_n1, gl_n2, gi_sl, gl_si, forall_eq, true_implies, false_implies, not_true_eq_false, not_false_eq_true, and_true, true_and, implies_true, and_self, wp_M_keep, wp_M_in, w2.2.1, q28, nb1, r60]
      refine keep_1 hk fun M3 s4 r4 => ?_
      refine keep_2 hk fun M4 s5 r5 => ?_
      have u1 : Sm (fun a b => (a = 330 ∧ b = k) ∨ (a = 331 ∧ b = k)) M2 (si (si M2 330 k (nI 1)) 331 k (nI D)) := ((Sm.refl _ M2).wi (Or.inl ⟨rfl, rfl⟩)).wi (Or.inr ⟨rfl, rfl⟩)
      have u2 : Sm (fun a b => (a = 330 ∧ b = k) ∨ (a = 331 ∧ b = k) ∨ (a = 332 ∧ 31 * k ≤ b ∧ b < 31 * k + 31) ∨ (a = 333 ∧ 5 * k ≤ b ∧ b < 5 * k + 5)) M2 M4 := ((u1.mono (fun a b w => by omega)).trans (s4.mono (fun a b w => by omega))).trans (s5.mono (fun a b w => by omega))
      refine keep_3 hk l1 ((u2.g (by omega)).trans q28) fun M5 s6 r6 => ?_
      refine ⟨r60', ?_⟩
      have u3 : Sm (fun a b => (a = 330 ∧ b = k) ∨ (a = 331 ∧ b = k) ∨ (a = 332 ∧ 31 * k ≤ b ∧ b < 31 * k + 31) ∨ (a = 333 ∧ 5 * k ≤ b ∧ b < 5 * k + 5) ∨ (a = 334 ∧ 1860 * k ≤ b ∧ b < 1860 * k + 1860)) M2 M5 := (u2.mono (fun a b w => by omega)).trans (s6.mono (fun a b w => by omega))
      have us : Sm (SKp k) M M5 := (s2.mono (fun a b w => by unfold SKp; omega)).trans (u3.mono (fun a b w => by unfold SKp; omega))
      refine keep_fin h hd hk (by omega) us ((u3.g (by omega)).trans t2) ?_ ((u3.g (by omega)).trans e3) ?_ (by rw [show 124 + 63 * k = 123 + 63 * k + 1 by omega]; exact f3.sm u3 (fun b => by omega)) (fun j hj => ?_) (fun i hi => ⟨?_, ?_⟩) (fun d hd => ⟨by rw [show 126 + 63 * k + d = 123 + 63 * k + 2 + 1 + d by omega]; exact (g3 d hd).sm u3 (fun b => by omega), fun j hj => ?_⟩)
      · rw [s6.g (by omega), s5.g (by omega), s4.g (by omega), gi_n1 (by omega)]; exact gi_si_eq _ _ _ _
      · rw [s6.g (by omega), s5.g (by omega), s4.g (by omega)]; exact gi_si_eq _ _ _ _
      · dsimp only
        rw [s6.g (by omega), s5.g (by omega), r4 j hj, u1.g (by omega), s2.g (by omega)]
        have := hG j hj
        dsimp only at this
        rwa [Nat.mul_zero, Nat.zero_add] at this
      · rw [u3.g (by omega)]
        have := n2 i hi
        rwa [show 54 + 2 * k + 1 = 55 + 2 * k by omega] at this
      · rw [s6.g (by omega), r5 i (by omega), s4.g (by omega), u1.g (by omega)]
        exact (w2.2.2.2 i hi).2.2.1
      · dsimp only
        rw [r6 _ (by omega), u2.g (by omega), s2.g (by omega)]
        exact (l4 d hd).2.2.2 j hj
theorem on_fin {C : Nat → Nat → Nat} {F : Nat → Nat} {D k : Nat} {L T N V : Nat → Nat → Nat} {KL : Nat → Nat → Nat → Nat} {M M' : Mm} (h : Rel RDel M) (hd : Sta C F D L T N V KL M) (hk : k < 3) (ht : T k 0 = 1) (s : Sm (fun a b => a = 23 ∨ a = 27 ∨ (a = 60 ∧ b = 2) ∨ a = 61 ∨ (63 ≤ a ∧ a < 123) ∨ (a = 312 ∧ b = 28) ∨ a = 321 ∨ (a = 327 ∧ b < 31) ∨ a = 329) M M') (e1 : gi M' 60 2 = nI (T k 1)) (e2 : gi M' 312 28 = nI (T k 1)) (f1 : FlB (V k) M' 61) (f2 : FlM (V k) (gi M' 327)) (g : ∀ i, i < C 0 0 → gi M' 23 i = nI (N k i) ∧ gi M' 321 i = nI (N k i)) (l : ∀ d, d < T k 1 → FlB (KL k d) M' (63 + d) ∧ FlM (KL k d) (fun j => gi M' 329 (31 * d + j))) (hs : ∀ C', ChS C' M') : Rel RDel M' := by
  obtain ⟨h1, h2, h3, h4, h5, h6, h7⟩ := h
  obtain ⟨⟨a1, a2, a3, a4⟩, d2, d3, d4, d5, d6⟩ := hd
  obtain ⟨k1, k2, k3, k4⟩ := d5 k hk
  obtain ⟨c1, c2, c3, c4, c5, c6, c7, c8, c9⟩ := k4 ht
  refine ⟨h1.sm s (fun a b w => by omega), h2.keep (fun k j w => s.g (by omega)), h3.keep (fun k w => s.g (by omega)) (s.l (by omega)), h4.keep (fun k j w => s.g (by omega)), h5.sm s (by omega) (by omega), h6.sm s (fun a b w => by omega), (fun r j => if r = 3 then N k j else C r j), V k, T k 1, KL k, T, N, V, KL, ⟨⟨a1.1, a1.2.1, fun i hi => ?_⟩, ⟨(s.g (by omega)).trans a2.1, (s.g (by omega)).trans a2.2.1, fun i hi => ?_⟩, ⟨(s.g (by omega)).trans a3.1, (s.g (by omega)).trans a3.2.1, fun i hi => ?_⟩, fun _ => hs _⟩, ⟨c4, f1, f2⟩, c5, ⟨c1, e1, e2, fun d hd => ⟨(c9 d hd).1, (c9 d hd).2.1, l d hd⟩⟩, d5.keep (fun k j w => s.g (by omega)) (fun k j w1 w2 => s.l (by omega)), d6⟩
  · have := a1.2.2 i hi
    exact ⟨this.1, this.2.1, (c8 i hi).1, this.2.2.2⟩
  · have := a2.2.2 i hi
    refine ⟨(s.g (by omega)).trans this.1, (s.g (by omega)).trans this.2.1, (g i hi).1, (s.g (by omega)).trans this.2.2.2.1, (s.g (by omega)).trans this.2.2.2.2.1, (s.g (by omega)).trans this.2.2.2.2.2⟩
  · have := a3.2.2 i hi
    refine ⟨(s.g (by omega)).trans this.1, (s.g (by omega)).trans this.2.1, (g i hi).2, (s.g (by omega)).trans this.2.2.2.1, (s.g (by omega)).trans this.2.2.2.2.1, (s.g (by omega)).trans this.2.2.2.2.2⟩
theorem Sm.fl {S : Nat → Nat → Prop} {M M' : Mm} (h : Sm S M M') {k n : Nat} {x : Int32} (hk : ∀ b, S k b) : Sm S M (fli M' k n x) := fun a b q => by
  refine ⟨?_, ?_⟩
  · rw [gi_fli_ne (fun w => q (by rw [w]; exact hk b))]; exact (h a b q).1
  · rw [gl_fli]; exact (h a b q).2
theorem op_on {a1 : Int32} {M : Mm} (h : Rel RDel M) : wp_B_on a1 M (fun r M1 => wp_M_on a1 M1 (fun r2 M2 => r = r2 ∧ Rel RDel M2)) := by
  obtain ⟨C, F, D, L, T, N, V, KL, hd⟩ := h.2.2.2.2.2.2.out
  obtain ⟨hC, hB, hW, hO, hF, hG, -⟩ := hd.parts
  have hn := hC.1
  have hd' := hd
  obtain ⟨-, -, -, -, d5, d6⟩ := hd'
  rcases pk_ix a1 (n := 3) (by omega) with g | g | ⟨k, hk, rfl⟩
  · simp (disch := omega) only [fa_lit0, xI_le_T, xI_le_F, xI_lt_T, xI_lt_F, xI_eq_T, xI_eq_F, xN_a, xN_b, xN_c, xN_d, xN_e, xN_f, xN_g, xN_h, xI_add, xI_mul, xI_sub, xI_tn, xI_in, xI_ofNat, gi_si_eq, gi_n1, gi_n2, gl_sl_eq, gl_n1, gl_n2, gi_sl, gl_si, forall_eq, true_implies, false_implies, not_true_eq_false, not_false_eq_true, and_true, true_and, implies_true, and_self, wp_B_on, wp_M_on, wp_M_in, ng_a g]
    exact h
  · simp (disch := omega) only [fa_lit0, xI_le_T, xI_le_F, xI_lt_T, xI_lt_F, xI_eq_T, xI_eq_F, xN_a, xN_b, xN_c, xN_d, xN_e, xN_f, xN_g, xN_h, xI_add, xI_mul, xI_sub, xI_tn, xI_in, xI_ofNat, gi_si_eq, gi_n1, gi_n2, gl_sl_eq, gl_n1, gl_n2, gi_sl, gl_si, forall_eq, true_implies, false_implies, not_true_eq_false, not_false_eq_true, and_true, true_and, implies_true, and_self, wp_B_on, wp_M_on, wp_M_in, bg_a g, bg_c g]
    exact h
  · obtain ⟨k1, k2, k3, k4⟩ := d5 k hk
    rcases (show T k 0 = 0 ∨ T k 0 = 1 by omega) with c | c
    · simp (disch := omega) only [fa_lit0, xI_le_T, xI_le_F, xI_lt_T, xI_lt_F, xI_eq_T, xI_eq_F, xN_a, xN_b, xN_c, xN_d, xN_e, xN_f, xN_g, xN_h, xI_add, xI_mul, xI_sub, xI_tn, xI_in, xI_ofNat, gi_si_eq, gi_n1, gi_n2, gl_sl_eq, gl_n1, gl_n2, gi_sl, gl_si, forall_eq, true_implies, false_implies, not_true_eq_false, not_false_eq_true, and_true, true_and, implies_true, and_self, wp_B_on, k2, c, wp_B_answerFinding, wp_M_on, wp_M_in, k3, wp_M_meets]
      exact find_pair RDel_mono h (by omega)
    · obtain ⟨c1, c2, c3, c4, c5, c6, c7, c8, c9⟩ := k4 c
      simp (disch := omega) only [fa_lit0, xI_le_T, xI_le_F, xI_lt_T, xI_lt_F, xI_eq_T, xI_eq_F, xN_a, xN_b, xN_c, xN_d, xN_e, xN_f, xN_g, xN_h, xI_add, xI_mul, xI_sub, xI_tn, xI_in, xI_ofNat, gi_si_eq, gi_n1, gi_n2, gl_sl_eq, gl_n1, gl_n2, gi_sl, gl_si, forall_eq, true_implies, false_implies, not_true_eq_false, not_false_eq_true, and_true, true_and, implies_true, and_self, wp_B_on, k2, c, stOf_k hk]
      refine B_stcopy (sa := 60) (sb := 123 + 63 * k) (F := V k) (L := KL k) (by omega) c1 (by rw [show 123 + 63 * k + 1 = 124 + 63 * k by omega]; exact c6) c2 (fun d hd => by rw [show 123 + 63 * k + 2 + 1 + d = 126 + 63 * k + d by omega]; exact (c9 d hd).2.2.1) fun M1 s1 f1 e1 g1 => ?_
      simp (disch := omega) only [fa_lit0, xI_le_T, xI_le_F, xI_lt_T, xI_lt_F, xI_eq_T, xI_eq_F, xN_a, xN_b, xN_c, xN_d, xN_e, xN_f, xN_g, xN_h, xI_add, xI_mul, xI_sub, xI_tn, xI_in, xI_ofNat, gi_si_eq, gi_n1, gi_n2, gl_sl_eq, gl_n1, gl_n2, gi_sl, gl_si, forall_eq, true_implies, false_implies, not_true_eq_false, not_false_eq_true, and_true, true_and, implies_true, and_self, Nat.le_refl, wp_Ch_forgetServed]
      refine J_fill_ok (by omega) ?_
      have s2 : Sm (fun a b => a = 23 ∨ a = 27 ∨ (a = 60 ∧ b = 2) ∨ a = 61 ∨ (63 ≤ a ∧ a < 123)) M (fli (cpi M1 (54 + 2 * k + 1) 23 0 0 5) 27 32 (-nI 1)) := ((s1.mono (fun a b w => by omega)).cp (fun b => Or.inl rfl)).fl (fun b => Or.inr (Or.inl rfl))
      have s3 : Sm (fun a b => a = 23 ∨ a = 27) M1 (fli (cpi M1 (54 + 2 * k + 1) 23 0 0 5) 27 32 (-nI 1)) := ((Sm.refl _ M1).cp (fun b => Or.inl rfl)).fl (fun b => Or.inr rfl)
      have n2 : ∀ i, i < C 0 0 → gi (fli (cpi M1 (54 + 2 * k + 1) 23 0 0 5) 27 32 (-nI 1)) 23 i = nI (N k i) := fun i hi => by
        rw [gi_fli_ne (by omega), cp5 (by omega), s1.g (by omega), show 54 + 2 * k + 1 = 55 + 2 * k by omega]
        exact (c8 i hi).2.1
      have t2 : ∀ s, s < 32 → gi (fli (cpi M1 (54 + 2 * k + 1) 23 0 0 5) 27 32 (-nI 1)) 27 s = -nI 1 := fun s hs => gi_fli_in hs
      have f3 := f1.sm s3 (fun b => by omega)
      have g3 : ∀ d, d < T k 1 → FlB (KL k d) (fli (cpi M1 (54 + 2 * k + 1) 23 0 0 5) 27 32 (-nI 1)) (63 + d) := fun d hd => (g1 d hd).sm s3 (fun b => by omega)
      have e3 := (s3.g (a := 60) (b := 2) (by omega)).trans e1
      generalize fli (cpi M1 (54 + 2 * k + 1) 23 0 0 5) 27 32 (-nI 1) = M2 at *
      have q330 : gi M2 330 k = nI (T k 0) := (s2.g (by omega)).trans k3
      have q331 : gi M2 331 k = nI (T k 1) := (s2.g (by omega)).trans c3
      simp (disch := omega) only [fa_lit0, xI_le_T, xI_le_F, xI_lt_T, xI_lt_F, xI_eq_T, xI_eq_F, xN_a, xN_b, xN_c, xN_d, xN_e, xN_f, xN_g, xN_h, xI_add, xI_mul, xI_sub, xI_tn, xI_in, xI_ofNat, gi_si_eq, gi_n1, gi_n2, gl_sl_eq, gl_n1, gl_n2, gi_sl, gl_si, forall_eq, true_implies, false_implies, not_true_eq_false, not_false_eq_true, and_true, true_and, implies_true, and_self, wp_M_on, wp_M_in, q330, c, q331, e3]
      refine on_1 hk fun M3 s4 r4 => ?_
      refine on_2 hk fun M4 s5 r5 => ?_
      have u1 : Sm (fun a b => a = 312 ∧ b = 28) M2 (si M2 312 28 (nI (T k 1))) := (Sm.refl _ M2).wi ⟨rfl, rfl⟩
      have e28 : gi M4 312 28 = nI (T k 1) := by rw [s5.g (by omega), s4.g (by omega)]; exact gi_si_eq _ _ _ _
      refine on_3 hk c1 e28 fun M5 s6 r6 => ?_
      refine ⟨rfl, ?_⟩
      have u3 : Sm (fun a b => (a = 312 ∧ b = 28) ∨ a = 321 ∨ (a = 327 ∧ b < 31) ∨ a = 329) M2 M5 := (((u1.mono (fun a b w => by omega)).trans (s4.mono (fun a b w => by omega))).trans (s5.mono (fun a b w => by omega))).trans (s6.mono (fun a b w => by omega))
      refine on_fin h hd hk c ((s2.mono (fun a b w => by omega)).trans (u3.mono (fun a b w => by omega))) ((u3.g (by omega)).trans e3) ((s6.g (by omega)).trans e28) (f3.sm u3 (fun b => by omega)) (fun j hj => ?_) (fun i hi => ⟨(u3.g (by omega)).trans (n2 i hi), ?_⟩) (fun d hd => ⟨(g3 d hd).sm u3 (fun b => by omega), fun j hj => ?_⟩) (fun C' s hs => Or.inl ((u3.g (by omega)).trans (t2 s hs)))
      · rw [s6.g (by omega), s5.g (by omega), r4 j hj, u1.g (by omega), s2.g (by omega)]
        exact c7 j hj
      · rw [s6.g (by omega), r5 i (by omega), s4.g (by omega), u1.g (by omega), s2.g (by omega)]
        exact (c8 i hi).2.2
      · dsimp only
        rw [r6 _ (by omega), s5.g (by omega), s4.g (by omega), u1.g (by omega), s2.g (by omega)]
        exact (c9 d hd).2.2.2 j hj
