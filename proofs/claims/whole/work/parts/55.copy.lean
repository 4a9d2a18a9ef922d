def cpA (M : Mm) (r i d : Nat) : Mm := (fun a b => if a = 316 ∧ b < d then M.1 315 (40 * r + (i + b)) else M.1 a b, M.2)
def cpB (M : Mm) (s d : Nat) : Mm := (fun a b => if a = 315 ∧ s ≤ b ∧ b < s + d then M.1 316 (b - s) else M.1 a b, M.2)
theorem gi_cpA (M : Mm) (r i d a b : Nat) : gi (cpA M r i d) a b = if a = 316 ∧ b < d then gi M 315 (40 * r + (i + b)) else gi M a b := rfl
theorem gl_cpA (M : Mm) (r i d a b : Nat) : gl (cpA M r i d) a b = gl M a b := rfl
theorem gi_cpB (M : Mm) (s d a b : Nat) : gi (cpB M s d) a b = if a = 315 ∧ s ≤ b ∧ b < s + d then gi M 316 (b - s) else gi M a b := rfl
theorem gl_cpB (M : Mm) (s d a b : Nat) : gl (cpB M s d) a b = gl M a b := rfl
theorem gi_cpA_ne {M : Mm} {r i d a b : Nat} (h : a ≠ 316) : gi (cpA M r i d) a b = gi M a b := by rw [gi_cpA, if_neg (fun q => h q.1)]
theorem gi_cpB_ne {M : Mm} {s d a b : Nat} (h : a ≠ 315) : gi (cpB M s d) a b = gi M a b := by rw [gi_cpB, if_neg (fun q => h q.1)]
theorem gi_cpi_ne {M : Mm} {k0 k1 sp dp n a b : Nat} (h : a ≠ k1) : gi (cpi M k0 k1 sp dp n) a b = gi M a b := by rw [gi_cpi, if_neg h]
theorem cpA_0 (M : Mm) (r i : Nat) : cpA M r i 0 = M := by
  apply Prod.ext
  · funext a b
    show (if a = 316 ∧ b < 0 then _ else M.1 a b) = M.1 a b
    rw [if_neg (by omega)]
  · rfl
theorem cpB_0 (M : Mm) (s : Nat) : cpB M s 0 = M := by
  apply Prod.ext
  · funext a b
    show (if a = 315 ∧ s ≤ b ∧ b < s + 0 then _ else M.1 a b) = M.1 a b
    rw [if_neg (by omega)]
  · rfl
theorem cpA_step (M : Mm) (r i d : Nat) : si (cpA M r i d) 316 d (gi M 315 (40 * r + (i + d))) = cpA M r i (d + 1) := by
  apply Prod.ext
  · funext a b
    show (if a = 316 ∧ b = d then M.1 315 (40 * r + (i + d)) else if a = 316 ∧ b < d then M.1 315 (40 * r + (i + b)) else M.1 a b) = if a = 316 ∧ b < d + 1 then M.1 315 (40 * r + (i + b)) else M.1 a b
    by_cases h1 : a = 316 ∧ b = d
    · rw [if_pos h1, if_pos (by omega), h1.2]
    · by_cases h2 : a = 316 ∧ b < d
      · rw [if_neg h1, if_pos h2, if_pos (by omega)]
      · rw [if_neg h1, if_neg h2, if_neg (by omega)]
  · rfl
theorem cpB_step (M : Mm) (s d : Nat) : si (cpB M s d) 315 (s + d) (gi M 316 d) = cpB M s (d + 1) := by
  apply Prod.ext
  · funext a b
    show (if a = 315 ∧ b = s + d then M.1 316 d else if a = 315 ∧ s ≤ b ∧ b < s + d then M.1 316 (b - s) else M.1 a b) = if a = 315 ∧ s ≤ b ∧ b < s + (d + 1) then M.1 316 (b - s) else M.1 a b
    by_cases h1 : a = 315 ∧ b = s + d
    · rw [if_pos h1, if_pos (by omega), h1.2, show s + d - s = d by omega]
    · by_cases h2 : a = 315 ∧ s ≤ b ∧ b < s + d
      · rw [if_neg h1, if_pos h2, if_pos (by omega)]
      · rw [if_neg h1, if_neg h2, if_neg (by omega)]
  · rfl
theorem M_copy_lp2 {r t i j n : Nat} (hr : r < 6) (ht : t < 6) (hj : j + n ≤ 40) {M : Mm} {Q : Int32 → Mm → Prop} (h : Q (nI 1) (cpB M (40 * t + j) n)) :
    ∃ f, lp_M_copy_136 (nI r) (nI i) (nI t) (nI j) (nI n) Q f (nI 0) M := by
  have key2 : ∀ (d k : Nat), k + d = n → lp_M_copy_136 (nI r) (nI i) (nI t) (nI j) (nI n) Q (d + 1) (nI k) (cpB M (40 * t + j) k) := by
    intro d
    induction d with
    | zero =>
      intro k hk
      have hk : k = n := by omega
      subst hk
      show k_M_copy_136 (nI r) (nI i) (nI t) (nI j) (nI k) Q _ (nI k) _
      unfold k_M_copy_136
      simp (disch := omega) only [fa_lit0, xI_le_T, xI_le_F, xI_lt_T, xI_lt_F, xI_eq_T, xI_eq_F, xN_a, xN_b, xN_c, xN_d, xN_e, xN_f, xN_g, xN_h, xI_add, xI_mul, xI_sub, xI_tn, xI_in, xI_ofNat, gi_si_eq, gi_n1, gi_n2, gl_sl_eq, gl_n1, gl_n2, gi_sl, gl_si, forall_eq, true_implies, false_implies, not_true_eq_false, not_false_eq_true, and_true, true_and, implies_true, and_self]
      exact h
    | succ d ih =>
      intro k hk
      show k_M_copy_136 (nI r) (nI i) (nI t) (nI j) (nI n) Q _ (nI k) _
      unfold k_M_copy_136
      simp (disch := omega) only [fa_lit0, xI_le_T, xI_le_F, xI_lt_T, xI_lt_F, xI_eq_T, xI_eq_F, xN_a, xN_b, xN_c, xN_d, xN_e, xN_f, xN_g, xN_h, xI_add, xI_mul, xI_sub, xI_tn, xI_in, xI_ofNat, gi_si_eq, gi_n1, gi_n2, gl_sl_eq, gl_n1, gl_n2, gi_sl, gl_si, forall_eq, true_implies, false_implies, not_true_eq_false, not_false_eq_true, and_true, true_and, implies_true, and_self, gi_cpB_ne, cpB_step]
      exact ih (k + 1) (by omega)
  have := key2 n 0 (by omega)
  rw [cpB_0] at this
  exact ⟨_, this⟩
theorem M_copy_lp {r t i j n : Nat} (hr : r < 6) (ht : t < 6) (hi : i + n ≤ 40) {M : Mm} {Q : Int32 → Mm → Prop} {K : Mm → Prop} (h : K (cpA M r i n)) :
    ∃ f, lp_M_copy_104 (nI r) (nI i) (nI t) (nI j) (nI n) Q K f (nI 0) M := by
  have key : ∀ (d k : Nat), k + d = n → lp_M_copy_104 (nI r) (nI i) (nI t) (nI j) (nI n) Q K (d + 1) (nI k) (cpA M r i k) := by
    intro d
    induction d with
    | zero =>
      intro k hk
      have hk : k = n := by omega
      subst hk
      show k_M_copy_104 (nI r) (nI i) (nI t) (nI j) (nI k) Q _ K (nI k) _
      unfold k_M_copy_104
      simp (disch := omega) only [fa_lit0, xI_le_T, xI_le_F, xI_lt_T, xI_lt_F, xI_eq_T, xI_eq_F, xN_a, xN_b, xN_c, xN_d, xN_e, xN_f, xN_g, xN_h, xI_add, xI_mul, xI_sub, xI_tn, xI_in, xI_ofNat, gi_si_eq, gi_n1, gi_n2, gl_sl_eq, gl_n1, gl_n2, gi_sl, gl_si, forall_eq, true_implies, false_implies, not_true_eq_false, not_false_eq_true, and_true, true_and, implies_true, and_self]
      exact h
    | succ d ih =>
      intro k hk
      show k_M_copy_104 (nI r) (nI i) (nI t) (nI j) (nI n) Q _ K (nI k) _
      unfold k_M_copy_104
      simp (disch := omega) only [fa_lit0, xI_le_T, xI_le_F, xI_lt_T, xI_lt_F, xI_eq_T, xI_eq_F, xN_a, xN_b, xN_c, xN_d, xN_e, xN_f, xN_g, xN_h, xI_add, xI_mul, xI_sub, xI_tn, xI_in, xI_ofNat, gi_si_eq, gi_n1, gi_n2, gl_sl_eq, gl_n1, gl_n2, gi_sl, gl_si, forall_eq, true_implies, false_implies, not_true_eq_false, not_false_eq_true, and_true, true_and, implies_true, and_self, wp_M_rowAt, gi_cpA_ne, cpA_step]
      exact ih (k + 1) (by omega)
  have := key n 0 (by omega)
  rw [cpA_0] at this
  exact ⟨_, this⟩
theorem cc_T {m i n : Nat} (hm : m < 2 ^ 20) (hi : i < 2 ^ 31) (hn : n < 2 ^ 31) (h : m < i + n) : (nI m - nI n < nI i) = True := eq_true (by
  rw [Int32.lt_iff_toInt_lt, Int32.toInt_sub, nI_toInt (by omega), nI_toInt hn, nI_toInt hi, Int.bmod_eq_of_le (by omega) (by omega)]
  omega)
theorem cc_F {m i n : Nat} (hm : m < 2 ^ 20) (hi : i < 2 ^ 31) (hn : n < 2 ^ 31) (h : i + n ≤ m) : (nI m - nI n < nI i) = False := eq_false (fun q => by
  rw [Int32.lt_iff_toInt_lt, Int32.toInt_sub, nI_toInt (by omega), nI_toInt hn, nI_toInt hi, Int.bmod_eq_of_le (by omega) (by omega)] at q
  omega)
theorem cl_T {m i n : Nat} (hm : m < 2 ^ 20) (hi : i < 2 ^ 31) (hn : n < 2 ^ 31) (h : m < i + n) : (nI 0 < lg_cmp ((nI i).toInt64 + (nI n).toInt64) (nI m).toInt64) = True := eq_true (by
  show (0 : Int32) < _
  rw [lg_cmp_gt, nI_l hi, nI_l hn, nI_l (by omega), lN_add, pk_lLT (by omega) (by omega)]
  exact h)
theorem cl_F {m i n : Nat} (hm : m < 2 ^ 20) (hi : i < 2 ^ 31) (hn : n < 2 ^ 31) (h : i + n ≤ m) : (nI 0 < lg_cmp ((nI i).toInt64 + (nI n).toInt64) (nI m).toInt64) = False := eq_false (fun q => by
  have q : (0 : Int32) < _ := q
  rw [lg_cmp_gt, nI_l hi, nI_l hn, nI_l (by omega), lN_add, pk_lLT (by omega) (by omega)] at q
  omega)
theorem ce_T {m i n : Nat} (hm : m < 2 ^ 20) (hi : i < 2 ^ 31) (hn : n < 2 ^ 31) (h : i + n ≤ m) : (lg_cmp ((nI i).toInt64 + (nI n).toInt64) (nI m).toInt64 ≤ nI 0) = True := eq_true (by
  show _ ≤ (0 : Int32)
  rw [lg_cmp_le, nI_l hi, nI_l hn, nI_l (by omega), lN_add, pk_lLE (by omega) (by omega)]
  exact h)
theorem ce_F {m i n : Nat} (hm : m < 2 ^ 20) (hi : i < 2 ^ 31) (hn : n < 2 ^ 31) (h : m < i + n) : (lg_cmp ((nI i).toInt64 + (nI n).toInt64) (nI m).toInt64 ≤ nI 0) = False := eq_false (fun q => by
  have q : _ ≤ (0 : Int32) := q
  rw [lg_cmp_le, nI_l hi, nI_l hn, nI_l (by omega), lN_add, pk_lLE (by omega) (by omega)] at q
  omega)
theorem copy_pair {RD : Mm → Prop} (hRD : Mono RD) {M : Mm} (h : Rel RD M) {r t i j n m1 m2 : Nat} (hr : r < 6) (ht : t < 6) (h1 : m1 ≤ 40) (h2 : m2 ≤ 40) (hi : i + n ≤ m1) (hj : j + n ≤ m2) (e1 : gi M 314 r = nI m1) (e2 : gi M 314 t = nI m2) :
    Rel RD (cpB (cpA (cpi M (7 + r) (7 + t) i j n) r i n) (40 * t + j) n) := by
  obtain ⟨q1, q2, q3, q4, q5, q6, q7⟩ := h
  refine ⟨?_, q2.keep ?_, q3.keep ?_ rfl, q4.keep ?_, q5.keep ?_ ?_, q6.keep ?_, hRD _ _ ?_ q7⟩
  · intro q hq
    obtain ⟨g1, g2, g3⟩ := q1 q hq
    refine ⟨?_, ?_, fun b m hm h4 h5 => ?_⟩
    · simp (disch := omega) only [fa_lit0, xI_le_T, xI_le_F, xI_lt_T, xI_lt_F, xI_eq_T, xI_eq_F, xN_a, xN_b, xN_c, xN_d, xN_e, xN_f, xN_g, xN_h, xI_add, xI_mul, xI_sub, xI_tn, xI_in, xI_ofNat, gi_si_eq, gi_n1, gi_n2, gl_sl_eq, gl_n1, gl_n2, gi_sl, gl_si, forall_eq, true_implies, false_implies, not_true_eq_false, not_false_eq_true, and_true, true_and, implies_true, and_self, gi_cpB_ne, gi_cpA_ne, gi_cpi_ne]; exact g1
    · simp (disch := omega) only [fa_lit0, xI_le_T, xI_le_F, xI_lt_T, xI_lt_F, xI_eq_T, xI_eq_F, xN_a, xN_b, xN_c, xN_d, xN_e, xN_f, xN_g, xN_h, xI_add, xI_mul, xI_sub, xI_tn, xI_in, xI_ofNat, gi_si_eq, gi_n1, gi_n2, gl_sl_eq, gl_n1, gl_n2, gi_sl, gl_si, forall_eq, true_implies, false_implies, not_true_eq_false, not_false_eq_true, and_true, true_and, implies_true, and_self, gi_cpB_ne, gi_cpA_ne, gi_cpi_ne]; exact g2
    · have hm : gi M 314 q = nI m := by
        revert hm
        simp (disch := omega) only [fa_lit0, xI_le_T, xI_le_F, xI_lt_T, xI_lt_F, xI_eq_T, xI_eq_F, xN_a, xN_b, xN_c, xN_d, xN_e, xN_f, xN_g, xN_h, xI_add, xI_mul, xI_sub, xI_tn, xI_in, xI_ofNat, gi_si_eq, gi_n1, gi_n2, gl_sl_eq, gl_n1, gl_n2, gi_sl, gl_si, forall_eq, true_implies, false_implies, not_true_eq_false, not_false_eq_true, and_true, true_and, implies_true, and_self, gi_cpB_ne, gi_cpA_ne, gi_cpi_ne]
        exact id
      have g4 := g3 b m hm h4 h5
      rw [gi_cpB_ne (by omega), gi_cpA_ne (by omega), gi_cpB, gi_cpi]
      by_cases e : q = t
      · subst e
        rw [if_pos rfl]
        by_cases hb : j ≤ b ∧ b < j + n
        · rw [pk_cpy_in hb.1 hb.2, if_pos (by omega), gi_cpA, if_pos (by omega)]
          simp (disch := omega) only [fa_lit0, xI_le_T, xI_le_F, xI_lt_T, xI_lt_F, xI_eq_T, xI_eq_F, xN_a, xN_b, xN_c, xN_d, xN_e, xN_f, xN_g, xN_h, xI_add, xI_mul, xI_sub, xI_tn, xI_in, xI_ofNat, gi_si_eq, gi_n1, gi_n2, gl_sl_eq, gl_n1, gl_n2, gi_sl, gl_si, forall_eq, true_implies, false_implies, not_true_eq_false, not_false_eq_true, and_true, true_and, implies_true, and_self, gi_cpi_ne]
          rw [show 40 * q + b - (40 * q + j) = b - j by omega]
          exact (q1 r hr).2.2 (i + (b - j)) m1 e1 h1 (by omega)
        · rw [pk_cpy_out (by omega), if_neg (by omega)]
          simp (disch := omega) only [fa_lit0, xI_le_T, xI_le_F, xI_lt_T, xI_lt_F, xI_eq_T, xI_eq_F, xN_a, xN_b, xN_c, xN_d, xN_e, xN_f, xN_g, xN_h, xI_add, xI_mul, xI_sub, xI_tn, xI_in, xI_ofNat, gi_si_eq, gi_n1, gi_n2, gl_sl_eq, gl_n1, gl_n2, gi_sl, gl_si, forall_eq, true_implies, false_implies, not_true_eq_false, not_false_eq_true, and_true, true_and, implies_true, and_self, gi_cpA_ne, gi_cpi_ne]
          exact g4
      · rw [if_neg (by omega), if_neg (by omega)]
        simp (disch := omega) only [fa_lit0, xI_le_T, xI_le_F, xI_lt_T, xI_lt_F, xI_eq_T, xI_eq_F, xN_a, xN_b, xN_c, xN_d, xN_e, xN_f, xN_g, xN_h, xI_add, xI_mul, xI_sub, xI_tn, xI_in, xI_ofNat, gi_si_eq, gi_n1, gi_n2, gl_sl_eq, gl_n1, gl_n2, gi_sl, gl_si, forall_eq, true_implies, false_implies, not_true_eq_false, not_false_eq_true, and_true, true_and, implies_true, and_self, gi_cpA_ne, gi_cpi_ne]
        exact g4
  · intro k j hk; simp (disch := omega) only [fa_lit0, xI_le_T, xI_le_F, xI_lt_T, xI_lt_F, xI_eq_T, xI_eq_F, xN_a, xN_b, xN_c, xN_d, xN_e, xN_f, xN_g, xN_h, xI_add, xI_mul, xI_sub, xI_tn, xI_in, xI_ofNat, gi_si_eq, gi_n1, gi_n2, gl_sl_eq, gl_n1, gl_n2, gi_sl, gl_si, forall_eq, true_implies, false_implies, not_true_eq_false, not_false_eq_true, and_true, true_and, implies_true, and_self, gi_cpB_ne, gi_cpA_ne, gi_cpi_ne]
  · intro k hk; simp (disch := omega) only [fa_lit0, xI_le_T, xI_le_F, xI_lt_T, xI_lt_F, xI_eq_T, xI_eq_F, xN_a, xN_b, xN_c, xN_d, xN_e, xN_f, xN_g, xN_h, xI_add, xI_mul, xI_sub, xI_tn, xI_in, xI_ofNat, gi_si_eq, gi_n1, gi_n2, gl_sl_eq, gl_n1, gl_n2, gi_sl, gl_si, forall_eq, true_implies, false_implies, not_true_eq_false, not_false_eq_true, and_true, true_and, implies_true, and_self, gi_cpB_ne, gi_cpA_ne, gi_cpi_ne]
  · intro k j hk; simp (disch := omega) only [fa_lit0, xI_le_T, xI_le_F, xI_lt_T, xI_lt_F, xI_eq_T, xI_eq_F, xN_a, xN_b, xN_c, xN_d, xN_e, xN_f, xN_g, xN_h, xI_add, xI_mul, xI_sub, xI_tn, xI_in, xI_ofNat, gi_si_eq, gi_n1, gi_n2, gl_sl_eq, gl_n1, gl_n2, gi_sl, gl_si, forall_eq, true_implies, false_implies, not_true_eq_false, not_false_eq_true, and_true, true_and, implies_true, and_self, gi_cpB_ne, gi_cpA_ne, gi_cpi_ne]
  · simp (disch := omega) only [fa_lit0, xI_le_T, xI_le_F, xI_lt_T, xI_lt_F, xI_eq_T, xI_eq_F, xN_a, xN_b, xN_c, xN_d, xN_e, xN_f, xN_g, xN_h, xI_add, xI_mul, xI_sub, xI_tn, xI_in, xI_ofNat, gi_si_eq, gi_n1, gi_n2, gl_sl_eq, gl_n1, gl_n2, gi_sl, gl_si, forall_eq, true_implies, false_implies, not_true_eq_false, not_false_eq_true, and_true, true_and, implies_true, and_self, gi_cpB_ne, gi_cpA_ne, gi_cpi_ne]
  · simp (disch := omega) only [fa_lit0, xI_le_T, xI_le_F, xI_lt_T, xI_lt_F, xI_eq_T, xI_eq_F, xN_a, xN_b, xN_c, xN_d, xN_e, xN_f, xN_g, xN_h, xI_add, xI_mul, xI_sub, xI_tn, xI_in, xI_ofNat, gi_si_eq, gi_n1, gi_n2, gl_sl_eq, gl_n1, gl_n2, gi_sl, gl_si, forall_eq, true_implies, false_implies, not_true_eq_false, not_false_eq_true, and_true, true_and, implies_true, and_self, gi_cpB_ne, gi_cpA_ne, gi_cpi_ne]
  · intro k j hk; simp (disch := omega) only [fa_lit0, xI_le_T, xI_le_F, xI_lt_T, xI_lt_F, xI_eq_T, xI_eq_F, xN_a, xN_b, xN_c, xN_d, xN_e, xN_f, xN_g, xN_h, xI_add, xI_mul, xI_sub, xI_tn, xI_in, xI_ofNat, gi_si_eq, gi_n1, gi_n2, gl_sl_eq, gl_n1, gl_n2, gi_sl, gl_si, forall_eq, true_implies, false_implies, not_true_eq_false, not_false_eq_true, and_true, true_and, implies_true, and_self, gl_cpB, gl_cpA, gl_cpi]
  · intro k j hk
    unfold Dset at hk
    exact ⟨by simp (disch := omega) only [fa_lit0, xI_le_T, xI_le_F, xI_lt_T, xI_lt_F, xI_eq_T, xI_eq_F, xN_a, xN_b, xN_c, xN_d, xN_e, xN_f, xN_g, xN_h, xI_add, xI_mul, xI_sub, xI_tn, xI_in, xI_ofNat, gi_si_eq, gi_n1, gi_n2, gl_sl_eq, gl_n1, gl_n2, gi_sl, gl_si, forall_eq, true_implies, false_implies, not_true_eq_false, not_false_eq_true, and_true, true_and, implies_true, and_self, gi_cpB_ne, gi_cpA_ne, gi_cpi_ne], by simp (disch := omega) only [fa_lit0, xI_le_T, xI_le_F, xI_lt_T, xI_lt_F, xI_eq_T, xI_eq_F, xN_a, xN_b, xN_c, xN_d, xN_e, xN_f, xN_g, xN_h, xI_add, xI_mul, xI_sub, xI_tn, xI_in, xI_ofNat, gi_si_eq, gi_n1, gi_n2, gl_sl_eq, gl_n1, gl_n2, gi_sl, gl_si, forall_eq, true_implies, false_implies, not_true_eq_false, not_false_eq_true, and_true, true_and, implies_true, and_self, gl_cpB, gl_cpA, gl_cpi]⟩
theorem op_copy {RD : Mm → Prop} (hRD : Mono RD) {a1 a2 a3 a4 a5 : Int32} {M : Mm} (h : Rel RD M) : wp_B_copy a1 a2 a3 a4 a5 M (fun r M1 => wp_M_copy a1 a2 a3 a4 a5 M1 (fun r2 M2 => r = r2 ∧ Rel RD M2)) := by
  rcases pk_ix a1 (n := 6) (by omega) with g | g | ⟨r, hr, rfl⟩
  · simp (disch := omega) only [fa_lit0, xI_le_T, xI_le_F, xI_lt_T, xI_lt_F, xI_eq_T, xI_eq_F, xN_a, xN_b, xN_c, xN_d, xN_e, xN_f, xN_g, xN_h, xI_add, xI_mul, xI_sub, xI_tn, xI_in, xI_ofNat, gi_si_eq, gi_n1, gi_n2, gl_sl_eq, gl_n1, gl_n2, gi_sl, gl_si, forall_eq, true_implies, false_implies, not_true_eq_false, not_false_eq_true, and_true, true_and, implies_true, and_self, wp_B_copy, wp_Sh_knows, wp_M_copy, wp_M_isRow, wp_M_in, ng_a g, zb_0]; exact h
  · simp (disch := omega) only [fa_lit0, xI_le_T, xI_le_F, xI_lt_T, xI_lt_F, xI_eq_T, xI_eq_F, xN_a, xN_b, xN_c, xN_d, xN_e, xN_f, xN_g, xN_h, xI_add, xI_mul, xI_sub, xI_tn, xI_in, xI_ofNat, gi_si_eq, gi_n1, gi_n2, gl_sl_eq, gl_n1, gl_n2, gi_sl, gl_si, forall_eq, true_implies, false_implies, not_true_eq_false, not_false_eq_true, and_true, true_and, implies_true, and_self, wp_B_copy, wp_Sh_knows, wp_M_copy, wp_M_isRow, wp_M_in, bg_a g, bg_b g, bg_c g, zb_0, shN_4]; exact h
  rcases pk_ix a3 (n := 6) (by omega) with g | g | ⟨t, ht, rfl⟩
  · simp (disch := omega) only [fa_lit0, xI_le_T, xI_le_F, xI_lt_T, xI_lt_F, xI_eq_T, xI_eq_F, xN_a, xN_b, xN_c, xN_d, xN_e, xN_f, xN_g, xN_h, xI_add, xI_mul, xI_sub, xI_tn, xI_in, xI_ofNat, gi_si_eq, gi_n1, gi_n2, gl_sl_eq, gl_n1, gl_n2, gi_sl, gl_si, forall_eq, true_implies, false_implies, not_true_eq_false, not_false_eq_true, and_true, true_and, implies_true, and_self, wp_B_copy, wp_Sh_knows, wp_M_copy, wp_M_isRow, wp_M_in, ng_a g, zb_0, zb_1, shN_4]; exact h
  · simp (disch := omega) only [fa_lit0, xI_le_T, xI_le_F, xI_lt_T, xI_lt_F, xI_eq_T, xI_eq_F, xN_a, xN_b, xN_c, xN_d, xN_e, xN_f, xN_g, xN_h, xI_add, xI_mul, xI_sub, xI_tn, xI_in, xI_ofNat, gi_si_eq, gi_n1, gi_n2, gl_sl_eq, gl_n1, gl_n2, gi_sl, gl_si, forall_eq, true_implies, false_implies, not_true_eq_false, not_false_eq_true, and_true, true_and, implies_true, and_self, wp_B_copy, wp_Sh_knows, wp_M_copy, wp_M_isRow, wp_M_in, bg_a g, bg_b g, bg_c g, zb_0, zb_1, shN_4]; exact h
  by_cases g : a5 < 0
  · simp (disch := omega) only [fa_lit0, xI_le_T, xI_le_F, xI_lt_T, xI_lt_F, xI_eq_T, xI_eq_F, xN_a, xN_b, xN_c, xN_d, xN_e, xN_f, xN_g, xN_h, xI_add, xI_mul, xI_sub, xI_tn, xI_in, xI_ofNat, gi_si_eq, gi_n1, gi_n2, gl_sl_eq, gl_n1, gl_n2, gi_sl, gl_si, forall_eq, true_implies, false_implies, not_true_eq_false, not_false_eq_true, and_true, true_and, implies_true, and_self, wp_B_copy, wp_Sh_knows, wp_M_copy, wp_M_isRow, wp_M_in, ng_b g, zb_1, shN_4, wp_B_answerFinding, wp_M_meets]
    exact find_pair hRD h (by omega)
  obtain ⟨n, hn, rfl⟩ := nI_of g
  clear g
  obtain ⟨g1, g2, g3⟩ := h.1 r hr
  obtain ⟨f1, f2, f3⟩ := h.1 t ht
  rcases g2 with e | ⟨m1, hm1, e⟩
  · rw [e] at g1
    simp (disch := omega) only [fa_lit0, xI_le_T, xI_le_F, xI_lt_T, xI_lt_F, xI_eq_T, xI_eq_F, xN_a, xN_b, xN_c, xN_d, xN_e, xN_f, xN_g, xN_h, xI_add, xI_mul, xI_sub, xI_tn, xI_in, xI_ofNat, gi_si_eq, gi_n1, gi_n2, gl_sl_eq, gl_n1, gl_n2, gi_sl, gl_si, forall_eq, true_implies, false_implies, not_true_eq_false, not_false_eq_true, and_true, true_and, implies_true, and_self, wp_B_copy, wp_Sh_knows, wp_Sh_isThere, k_B_copy_57, wp_M_copy, wp_M_isRow, wp_M_in, k_M_copy_45, zb_1, shN_4, g1, e, wp_B_answerFinding, wp_M_meets]
    exact find_pair hRD h (by omega)
  rcases f2 with e2 | ⟨m2, hm2, e2⟩
  · rw [e] at g1
    rw [e2] at f1
    simp (disch := omega) only [fa_lit0, xI_le_T, xI_le_F, xI_lt_T, xI_lt_F, xI_eq_T, xI_eq_F, xN_a, xN_b, xN_c, xN_d, xN_e, xN_f, xN_g, xN_h, xI_add, xI_mul, xI_sub, xI_tn, xI_in, xI_ofNat, gi_si_eq, gi_n1, gi_n2, gl_sl_eq, gl_n1, gl_n2, gi_sl, gl_si, forall_eq, true_implies, false_implies, not_true_eq_false, not_false_eq_true, and_true, true_and, implies_true, and_self, wp_B_copy, wp_Sh_knows, wp_Sh_isThere, k_B_copy_57, wp_M_copy, wp_M_isRow, wp_M_in, k_M_copy_45, zb_1, shN_4, g1, e, f1, e2, wp_B_answerFinding, wp_M_meets]
    exact find_pair hRD h (by omega)
  rw [e] at g1
  rw [e2] at f1
  by_cases g : a2 < 0
  · simp (disch := omega) only [fa_lit0, xI_le_T, xI_le_F, xI_lt_T, xI_lt_F, xI_eq_T, xI_eq_F, xN_a, xN_b, xN_c, xN_d, xN_e, xN_f, xN_g, xN_h, xI_add, xI_mul, xI_sub, xI_tn, xI_in, xI_ofNat, gi_si_eq, gi_n1, gi_n2, gl_sl_eq, gl_n1, gl_n2, gi_sl, gl_si, forall_eq, true_implies, false_implies, not_true_eq_false, not_false_eq_true, and_true, true_and, implies_true, and_self, wp_B_copy, wp_Sh_knows, wp_Sh_isThere, wp_Sh_hasStretch, k_B_copy_92, wp_M_copy, wp_M_isRow, wp_M_in, k_M_copy_95, zb_1, shN_4, g1, e, f1, e2, ng_a g, wp_B_answerFinding, wp_M_meets]
    exact find_pair hRD h (by omega)
  obtain ⟨i, hi, rfl⟩ := nI_of g
  clear g
  by_cases g : a4 < 0
  · by_cases c1 : m1 < i + n
    · simp (disch := omega) only [fa_lit0, xI_le_T, xI_le_F, xI_lt_T, xI_lt_F, xI_eq_T, xI_eq_F, xN_a, xN_b, xN_c, xN_d, xN_e, xN_f, xN_g, xN_h, xI_add, xI_mul, xI_sub, xI_tn, xI_in, xI_ofNat, gi_si_eq, gi_n1, gi_n2, gl_sl_eq, gl_n1, gl_n2, gi_sl, gl_si, forall_eq, true_implies, false_implies, not_true_eq_false, not_false_eq_true, and_true, true_and, implies_true, and_self, wp_B_copy, wp_Sh_knows, wp_Sh_isThere, wp_Sh_hasStretch, k_B_copy_92, wp_M_copy, wp_M_isRow, wp_M_in, k_M_copy_95, zb_1, shN_4, g1, e, f1, e2, ng_a g, cc_T, wp_B_answerFinding, wp_M_meets]
      exact find_pair hRD h (by omega)
    · simp (disch := omega) only [fa_lit0, xI_le_T, xI_le_F, xI_lt_T, xI_lt_F, xI_eq_T, xI_eq_F, xN_a, xN_b, xN_c, xN_d, xN_e, xN_f, xN_g, xN_h, xI_add, xI_mul, xI_sub, xI_tn, xI_in, xI_ofNat, gi_si_eq, gi_n1, gi_n2, gl_sl_eq, gl_n1, gl_n2, gi_sl, gl_si, forall_eq, true_implies, false_implies, not_true_eq_false, not_false_eq_true, and_true, true_and, implies_true, and_self, wp_B_copy, wp_Sh_knows, wp_Sh_isThere, wp_Sh_hasStretch, k_B_copy_92, wp_M_copy, wp_M_isRow, wp_M_in, k_M_copy_95, zb_1, shN_4, g1, e, f1, e2, ng_a g, cc_F, wp_B_answerFinding, wp_M_meets]
      exact find_pair hRD h (by omega)
  obtain ⟨j, hj, rfl⟩ := nI_of g
  clear g
  by_cases c1 : m1 < i + n
  · simp (disch := omega) only [fa_lit0, xI_le_T, xI_le_F, xI_lt_T, xI_lt_F, xI_eq_T, xI_eq_F, xN_a, xN_b, xN_c, xN_d, xN_e, xN_f, xN_g, xN_h, xI_add, xI_mul, xI_sub, xI_tn, xI_in, xI_ofNat, gi_si_eq, gi_n1, gi_n2, gl_sl_eq, gl_n1, gl_n2, gi_sl, gl_si, forall_eq, true_implies, false_implies, not_true_eq_false, not_false_eq_true, and_true, true_and, implies_true, and_self, wp_B_copy, wp_Sh_knows, wp_Sh_isThere, wp_Sh_hasStretch, k_B_copy_92, wp_M_copy, wp_M_isRow, wp_M_in, k_M_copy_95, zb_1, shN_4, g1, e, f1, e2, cc_T, cl_T, wp_B_answerFinding, wp_M_meets]
    exact find_pair hRD h (by omega)
  by_cases c2 : m2 < j + n
  · simp (disch := omega) only [fa_lit0, xI_le_T, xI_le_F, xI_lt_T, xI_lt_F, xI_eq_T, xI_eq_F, xN_a, xN_b, xN_c, xN_d, xN_e, xN_f, xN_g, xN_h, xI_add, xI_mul, xI_sub, xI_tn, xI_in, xI_ofNat, gi_si_eq, gi_n1, gi_n2, gl_sl_eq, gl_n1, gl_n2, gi_sl, gl_si, forall_eq, true_implies, false_implies, not_true_eq_false, not_false_eq_true, and_true, true_and, implies_true, and_self, wp_B_copy, wp_Sh_knows, wp_Sh_isThere, wp_Sh_hasStretch, k_B_copy_92, wp_M_copy, wp_M_isRow, wp_M_in, k_M_copy_95, zb_1, shN_4, g1, e, f1, e2, cc_T, cc_F, cl_T, cl_F, ce_F, wp_B_answerFinding, wp_M_meets]
    exact find_pair hRD h (by omega)
  simp (disch := omega) only [fa_lit0, xI_le_T, xI_le_F, xI_lt_T, xI_lt_F, xI_eq_T, xI_eq_F, xN_a, xN_b, xN_c, xN_d, xN_e, xN_f, xN_g, xN_h, xI_add, xI_mul, xI_sub, xI_tn, xI_in, xI_ofNat, gi_si_eq, gi_n1, gi_n2, gl_sl_eq, gl_n1, gl_n2, gi_sl, gl_si, forall_eq, true_implies, false_implies, not_true_eq_false, not_false_eq_true, and_true, true_and, implies_true, and_self, wp_B_copy, wp_Sh_knows, wp_Sh_isThere, wp_Sh_hasStretch, wp_Sh_move, k_B_copy_92, shN_4, shR_4, g1, f1, cc_T, cc_F]
  simp (disch := omega) only [fa_lit0, xI_le_T, xI_le_F, xI_lt_T, xI_lt_F, xI_eq_T, xI_eq_F, xN_a, xN_b, xN_c, xN_d, xN_e, xN_f, xN_g, xN_h, xI_add, xI_mul, xI_sub, xI_tn, xI_in, xI_ofNat, gi_si_eq, gi_n1, gi_n2, gl_sl_eq, gl_n1, gl_n2, gi_sl, gl_si, forall_eq, true_implies, false_implies, not_true_eq_false, not_false_eq_true, and_true, true_and, implies_true, and_self, wp_M_copy, wp_M_isRow, wp_M_in, zb_1, gi_cpi_ne, e, e2, cl_F, ce_T]
  refine ⟨by omega, by omega, M_copy_lp (i := i) (j := j) (n := n) hr ht (by omega) ?_⟩
  refine M_copy_lp2 (i := i) (j := j) (n := n) hr ht (by omega) ?_
  exact ⟨rfl, copy_pair hRD h hr ht hm1 hm2 (by omega) (by omega) e e2⟩
