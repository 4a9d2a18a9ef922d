/-! a delta begins -/
def gq (A : Nat → Nat → Nat) (v q : Nat) : Nat := if q < v then isk (A 1 q) 3 else 0
def fq (A : Nat → Nat → Nat) (v q : Nat) : Nat := if q < 5 then gq A v q else if 20 ≤ q ∧ q < 25 then gq A v (q - 20) else 0
def bm (A : Nat → Nat → Nat) : Nat → Nat
  | 0 => 0
  | v + 1 => bm A v + isk (A 1 v) 3 * 2 ^ v
theorem isk_le (q a : Nat) : isk q a ≤ 1 := by unfold isk; split <;> omega
theorem gq_le (A : Nat → Nat → Nat) (v q : Nat) : gq A v q ≤ 1 := by
  have := isk_le (A 1 q) 3
  unfold gq; split <;> omega
theorem bm_lt (A : Nat → Nat → Nat) (v : Nat) : bm A v < 2 ^ v := by
  induction v with
  | zero => exact Nat.one_pos
  | succ v ih =>
    show bm A v + isk (A 1 v) 3 * 2 ^ v < 2 ^ (v + 1)
    have h := isk_le (A 1 v) 3
    rw [Nat.pow_succ]
    rcases (show isk (A 1 v) 3 = 0 ∨ isk (A 1 v) 3 = 1 by omega) with e | e <;> rw [e] <;> omega
theorem fq_o {A : Nat → Nat → Nat} {v i : Nat} (hi : i < 5) : fq A v i = gq A v i := if_pos hi
theorem fq_b {A : Nat → Nat → Nat} {v i : Nat} (hi : i < 5) : fq A v (20 + i) = gq A v i := by
  unfold fq
  rw [if_neg (by omega), if_pos (by omega), show 20 + i - 20 = i by omega]
theorem fq_z {A : Nat → Nat → Nat} {v i : Nat} (hi : 5 ≤ i) (h2 : i < 20 ∨ 25 ≤ i) : fq A v i = 0 := by
  unfold fq
  rw [if_neg (by omega), if_neg (by omega)]
theorem bm_mk (A : Nat → Nat → Nat) {n : Nat} (hn : n ≤ 5) : gq A n 0 + 2 * gq A n 1 + 4 * gq A n 2 + 8 * gq A n 3 + 16 * gq A n 4 = bm A n := by
  unfold gq
  rcases (show n = 0 ∨ n = 1 ∨ n = 2 ∨ n = 3 ∨ n = 4 ∨ n = 5 by omega) with e | e | e | e | e | e <;> subst e <;> simp (config := { decide := true }) only [bm, if_true, if_false] <;> omega
theorem fq_m0 (A : Nat → Nat → Nat) {n : Nat} (hn : n ≤ 5) : mk (fq A n) 0 = bm A n := by
  rw [← bm_mk A hn]
  rfl
theorem fq_m20 (A : Nat → Nat → Nat) {n : Nat} (hn : n ≤ 5) : mk (fq A n) 20 = bm A n := by
  rw [← bm_mk A hn]
  rfl
theorem fq_ok (A : Nat → Nat → Nat) (n : Nat) : OkF n (fq A n) := by
  have z : ∀ i, 5 ≤ i → (i < 20 ∨ 25 ≤ i) → fq A n i = 0 := fun i a b => fq_z a b
  refine ⟨fun i hi => ?_, by rw [z 30 (by omega) (by omega)]; omega, fun i h1 h2 => ?_⟩
  · have := gq_le A n i
    rw [fq_o hi, fq_b hi, z (5 + i) (by omega) (by omega), z (10 + i) (by omega) (by omega), z (15 + i) (by omega) (by omega), z (25 + i) (by omega) (by omega)]
    omega
  · have : gq A n i = 0 := if_neg (by omega)
    rw [fq_o h2, fq_b h2, z (5 + i) (by omega) (by omega), z (10 + i) (by omega) (by omega), z (15 + i) (by omega) (by omega), z (25 + i) (by omega) (by omega)]
    omega
theorem or_0 (x : Int32) : x ||| nI 0 = x := Int32.or_zero
theorem bm_or (A : Nat → Nat → Nat) {v : Nat} (hv : v < 5) (e : isk (A 1 v) 3 = 1) : nI (bm A v) ||| nI (2 ^ v) = nI (bm A (v + 1)) := by
  have h := bm_lt A v
  have h5 : bm A v < 32 := lt_32 h (by omega)
  have := bset_or (bm A v) h5 v hv
  rw [bs_l (by omega)] at this
  rw [this]
  unfold bset
  rw [Nat.div_eq_of_lt h]
  show nI (bm A v - 0 % 2 * 2 ^ v + 1 * 2 ^ v) = nI (bm A v + isk (A 1 v) 3 * 2 ^ v)
  rw [e, Nat.zero_mod, Nat.zero_mul, Nat.sub_zero]
theorem B_begin {A : Nat → Nat → Nat} {M : Mm} (hC : OkC A) (hB : ChB A M) {Q : Mm → Prop} (hQ : ∀ M', Sm (fun a _ => a = 61) M M' → FlB (fq A (A 0 0)) M' 61 → Q M') : wp_Fl_begin 61 20 M Q := by
  have hn := hC.1
  unfold wp_Fl_begin
  have key : ∀ K : Mm → Prop, (∀ M', Sm (fun a _ => a = 61) M M' → gi M' 61 0 = nI 0 → gi M' 61 2 = nI (bm A (A 0 0)) → K M') → ∀ f v M', v + f = A 0 0 → Sm (fun a _ => a = 61) M M' → gi M' 61 0 = nI 0 → gi M' 61 2 = nI (bm A v) → lp_Fl_begin_12 61 20 Q K (f + 1) (nI v) M' := by
    intro K hK f
    induction f with
    | zero =>
      intro v M' hv s e0 e2
      have : v = A 0 0 := by omega
      subst this
      show k_Fl_begin_12 61 20 Q _ K (nI (A 0 0)) M'
      unfold k_Fl_begin_12
      have b1 := (s.g (a := 20) (b := 7) (by omega)).trans hB.1
      simp (disch := omega) only [fa_lit0, xI_le_T, xI_le_F, xI_lt_T, xI_lt_F, xI_eq_T, xI_eq_F, xN_a, xN_b, xN_c, xN_d, xN_e, xN_f, xN_g, xN_h, xI_add, xI_mul, xI_sub, xI_tn, xI_in, xI_ofNat, gi_si_eq, gi_n1, gi_n2, gl_sl_eq, gl_n1, gl_n2, gi_sl, gl_si, forall_eq, true_implies, false_implies, not_true_eq_false, not_false_eq_true, and_true, true_and, implies_true, and_self, b1]
      exact hK M' s e0 e2
    | succ f ih =>
      intro v M' hv s e0 e2
      show k_Fl_begin_12 61 20 Q _ K (nI v) M'
      unfold k_Fl_begin_12
      have b1 := (s.g (a := 20) (b := 7) (by omega)).trans hB.1
      have hB' : ChB A M' := hB.sm s (fun a b q => by omega)
      simp (disch := omega) only [fa_lit0, xI_le_T, xI_le_F, xI_lt_T, xI_lt_F, xI_eq_T, xI_eq_F, xN_a, xN_b, xN_c, xN_d, xN_e, xN_f, xN_g, xN_h, xI_add, xI_mul, xI_sub, xI_tn, xI_in, xI_ofNat, gi_si_eq, gi_n1, gi_n2, gl_sl_eq, gl_n1, gl_n2, gi_sl, gl_si, forall_eq, true_implies, false_implies, not_true_eq_false, not_false_eq_true, and_true, true_and, implies_true, and_self, b1]
      refine B_isOf hC hB' (by omega) (by omega) (by omega) ?_
      rcases (show isk (A 1 v) 3 = 0 ∨ isk (A 1 v) 3 = 1 by have := isk_le (A 1 v) 3; omega) with e | e
      · have eb : bm A (v + 1) = bm A v := by
          show bm A v + isk (A 1 v) 3 * 2 ^ v = bm A v
          rw [e, Nat.zero_mul, Nat.add_zero]
        simp (disch := omega) only [fa_lit0, xI_le_T, xI_le_F, xI_lt_T, xI_lt_F, xI_eq_T, xI_eq_F, xN_a, xN_b, xN_c, xN_d, xN_e, xN_f, xN_g, xN_h, xI_add, xI_mul, xI_sub, xI_tn, xI_in, xI_ofNat, gi_si_eq, gi_n1, gi_n2, gl_sl_eq, gl_n1, gl_n2, gi_sl, gl_si, forall_eq, true_implies, false_implies, not_true_eq_false, not_false_eq_true, and_true, true_and, implies_true, and_self, e, k_Fl_begin_41, e2, or_0]
        refine ih (v + 1) _ (by omega) (s.wi rfl) (by simp (disch := omega) only [fa_lit0, xI_le_T, xI_le_F, xI_lt_T, xI_lt_F, xI_eq_T, xI_eq_F, xN_a, xN_b, xN_c, xN_d, xN_e, xN_f, xN_g, xN_h, xI_add, xI_mul, xI_sub, xI_tn, xI_in, xI_ofNat, gi_si_eq, gi_n1, gi_n2, gl_sl_eq, gl_n1, gl_n2, gi_sl, gl_si, forall_eq, true_implies, false_implies, not_true_eq_false, not_false_eq_true, and_true, true_and, implies_true, and_self, e0]) ?_
        rw [eb]; simp (disch := omega) only [fa_lit0, xI_le_T, xI_le_F, xI_lt_T, xI_lt_F, xI_eq_T, xI_eq_F, xN_a, xN_b, xN_c, xN_d, xN_e, xN_f, xN_g, xN_h, xI_add, xI_mul, xI_sub, xI_tn, xI_in, xI_ofNat, gi_si_eq, gi_n1, gi_n2, gl_sl_eq, gl_n1, gl_n2, gi_sl, gl_si, forall_eq, true_implies, false_implies, not_true_eq_false, not_false_eq_true, and_true, true_and, implies_true, and_self]
      · simp (disch := omega) only [fa_lit0, xI_le_T, xI_le_F, xI_lt_T, xI_lt_F, xI_eq_T, xI_eq_F, xN_a, xN_b, xN_c, xN_d, xN_e, xN_f, xN_g, xN_h, xI_add, xI_mul, xI_sub, xI_tn, xI_in, xI_ofNat, gi_si_eq, gi_n1, gi_n2, gl_sl_eq, gl_n1, gl_n2, gi_sl, gl_si, forall_eq, true_implies, false_implies, not_true_eq_false, not_false_eq_true, and_true, true_and, implies_true, and_self, e, k_Fl_begin_41, e2, bs_l, bm_or A (show v < 5 by omega) e]
        exact ih (v + 1) _ (by omega) (s.wi rfl) (by simp (disch := omega) only [fa_lit0, xI_le_T, xI_le_F, xI_lt_T, xI_lt_F, xI_eq_T, xI_eq_F, xN_a, xN_b, xN_c, xN_d, xN_e, xN_f, xN_g, xN_h, xI_add, xI_mul, xI_sub, xI_tn, xI_in, xI_ofNat, gi_si_eq, gi_n1, gi_n2, gl_sl_eq, gl_n1, gl_n2, gi_sl, gl_si, forall_eq, true_implies, false_implies, not_true_eq_false, not_false_eq_true, and_true, true_and, implies_true, and_self, e0]) (by simp (disch := omega) only [fa_lit0, xI_le_T, xI_le_F, xI_lt_T, xI_lt_F, xI_eq_T, xI_eq_F, xN_a, xN_b, xN_c, xN_d, xN_e, xN_f, xN_g, xN_h, xI_add, xI_mul, xI_sub, xI_tn, xI_in, xI_ofNat, gi_si_eq, gi_n1, gi_n2, gl_sl_eq, gl_n1, gl_n2, gi_sl, gl_si, forall_eq, true_implies, false_implies, not_true_eq_false, not_false_eq_true, and_true, true_and, implies_true, and_self])
  refine ⟨A 0 0 + 1, key _ ?_ (A 0 0) 0 _ (by omega) (((Sm.refl (fun a _ => a = 61) M).wi rfl).wi rfl) (by simp (disch := omega) only [fa_lit0, xI_le_T, xI_le_F, xI_lt_T, xI_lt_F, xI_eq_T, xI_eq_F, xN_a, xN_b, xN_c, xN_d, xN_e, xN_f, xN_g, xN_h, xI_add, xI_mul, xI_sub, xI_tn, xI_in, xI_ofNat, gi_si_eq, gi_n1, gi_n2, gl_sl_eq, gl_n1, gl_n2, gi_sl, gl_si, forall_eq, true_implies, false_implies, not_true_eq_false, not_false_eq_true, and_true, true_and, implies_true, and_self]) (by simp (disch := omega) only [fa_lit0, xI_le_T, xI_le_F, xI_lt_T, xI_lt_F, xI_eq_T, xI_eq_F, xN_a, xN_b, xN_c, xN_d, xN_e, xN_f, xN_g, xN_h, xI_add, xI_mul, xI_sub, xI_tn, xI_in, xI_ofNat, gi_si_eq, gi_n1, gi_n2, gl_sl_eq, gl_n1, gl_n2, gi_sl, gl_si, forall_eq, true_implies, false_implies, not_true_eq_false, not_false_eq_true, and_true, true_and, implies_true, and_self, bm])⟩
  intro M' s e0 e2
  simp (disch := omega) only [fa_lit0, xI_le_T, xI_le_F, xI_lt_T, xI_lt_F, xI_eq_T, xI_eq_F, xN_a, xN_b, xN_c, xN_d, xN_e, xN_f, xN_g, xN_h, xI_add, xI_mul, xI_sub, xI_tn, xI_in, xI_ofNat, gi_si_eq, gi_n1, gi_n2, gl_sl_eq, gl_n1, gl_n2, gi_sl, gl_si, forall_eq, true_implies, false_implies, not_true_eq_false, not_false_eq_true, and_true, true_and, implies_true, and_self, e2]
  refine hQ _ ((((((s.wi rfl).wi rfl).wi rfl).wi rfl).wl rfl)) ?_
  have z : ∀ i, 5 ≤ i → (i < 20 ∨ 25 ≤ i) → fq A (A 0 0) i = 0 := fun i a b => fq_z a b
  refine ⟨?_, ?_, ?_, ?_, ?_, ?_, ?_⟩
  · rw [z 30 (by omega) (by omega)]; simp (disch := omega) only [fa_lit0, xI_le_T, xI_le_F, xI_lt_T, xI_lt_F, xI_eq_T, xI_eq_F, xN_a, xN_b, xN_c, xN_d, xN_e, xN_f, xN_g, xN_h, xI_add, xI_mul, xI_sub, xI_tn, xI_in, xI_ofNat, gi_si_eq, gi_n1, gi_n2, gl_sl_eq, gl_n1, gl_n2, gi_sl, gl_si, forall_eq, true_implies, false_implies, not_true_eq_false, not_false_eq_true, and_true, true_and, implies_true, and_self, e0]
  · rw [fq_m0 A hn]; simp (disch := omega) only [fa_lit0, xI_le_T, xI_le_F, xI_lt_T, xI_lt_F, xI_eq_T, xI_eq_F, xN_a, xN_b, xN_c, xN_d, xN_e, xN_f, xN_g, xN_h, xI_add, xI_mul, xI_sub, xI_tn, xI_in, xI_ofNat, gi_si_eq, gi_n1, gi_n2, gl_sl_eq, gl_n1, gl_n2, gi_sl, gl_si, forall_eq, true_implies, false_implies, not_true_eq_false, not_false_eq_true, and_true, true_and, implies_true, and_self]
  · rw [fq_m20 A hn]; simp (disch := omega) only [fa_lit0, xI_le_T, xI_le_F, xI_lt_T, xI_lt_F, xI_eq_T, xI_eq_F, xN_a, xN_b, xN_c, xN_d, xN_e, xN_f, xN_g, xN_h, xI_add, xI_mul, xI_sub, xI_tn, xI_in, xI_ofNat, gi_si_eq, gi_n1, gi_n2, gl_sl_eq, gl_n1, gl_n2, gi_sl, gl_si, forall_eq, true_implies, false_implies, not_true_eq_false, not_false_eq_true, and_true, true_and, implies_true, and_self, e2]
  · unfold mk
    rw [z 25 (by omega) (by omega), z (25 + 1) (by omega) (by omega), z (25 + 2) (by omega) (by omega), z (25 + 3) (by omega) (by omega), z (25 + 4) (by omega) (by omega)]; simp (disch := omega) only [fa_lit0, xI_le_T, xI_le_F, xI_lt_T, xI_lt_F, xI_eq_T, xI_eq_F, xN_a, xN_b, xN_c, xN_d, xN_e, xN_f, xN_g, xN_h, xI_add, xI_mul, xI_sub, xI_tn, xI_in, xI_ofNat, gi_si_eq, gi_n1, gi_n2, gl_sl_eq, gl_n1, gl_n2, gi_sl, gl_si, forall_eq, true_implies, false_implies, not_true_eq_false, not_false_eq_true, and_true, true_and, implies_true, and_self]
  · unfold p16
    rw [z 5 (by omega) (by omega), z (5 + 1) (by omega) (by omega), z (5 + 2) (by omega) (by omega), z (5 + 3) (by omega) (by omega), z (5 + 4) (by omega) (by omega)]; simp (disch := omega) only [fa_lit0, xI_le_T, xI_le_F, xI_lt_T, xI_lt_F, xI_eq_T, xI_eq_F, xN_a, xN_b, xN_c, xN_d, xN_e, xN_f, xN_g, xN_h, xI_add, xI_mul, xI_sub, xI_tn, xI_in, xI_ofNat, gi_si_eq, gi_n1, gi_n2, gl_sl_eq, gl_n1, gl_n2, gi_sl, gl_si, forall_eq, true_implies, false_implies, not_true_eq_false, not_false_eq_true, and_true, true_and, implies_true, and_self]
  · unfold p16
    rw [z 10 (by omega) (by omega), z (10 + 1) (by omega) (by omega), z (10 + 2) (by omega) (by omega), z (10 + 3) (by omega) (by omega), z (10 + 4) (by omega) (by omega)]; simp (disch := omega) only [fa_lit0, xI_le_T, xI_le_F, xI_lt_T, xI_lt_F, xI_eq_T, xI_eq_F, xN_a, xN_b, xN_c, xN_d, xN_e, xN_f, xN_g, xN_h, xI_add, xI_mul, xI_sub, xI_tn, xI_in, xI_ofNat, gi_si_eq, gi_n1, gi_n2, gl_sl_eq, gl_n1, gl_n2, gi_sl, gl_si, forall_eq, true_implies, false_implies, not_true_eq_false, not_false_eq_true, and_true, true_and, implies_true, and_self]
  · unfold p256
    rw [z 15 (by omega) (by omega), z (15 + 1) (by omega) (by omega), z (15 + 2) (by omega) (by omega), z (15 + 3) (by omega) (by omega), z (15 + 4) (by omega) (by omega)]
    rw [gl_sl_eq]; rfl
theorem M_dz {a1 : Int32} {M : Mm} {Q : Int32 → Mm → Prop} {K : Mm → Prop} (hK : K (fli M 327 31 (nI 0))) : ∃ n, lp_M_delta_55 a1 Q K n (nI 0) M := by
  have z : ∀ f v, v + f = 31 → lp_M_delta_55 a1 Q K (f + 1) (nI v) (fli M 327 v (nI 0)) := by
    intro f
    induction f with
    | zero =>
      intro v hv
      have : v = 31 := by omega
      subst this
      show k_M_delta_55 a1 Q _ K (nI 31) _
      unfold k_M_delta_55
      simp (disch := omega) only [fa_lit0, xI_le_T, xI_le_F, xI_lt_T, xI_lt_F, xI_eq_T, xI_eq_F, xN_a, xN_b, xN_c, xN_d, xN_e, xN_f, xN_g, xN_h, xI_add, xI_mul, xI_sub, xI_tn, xI_in, xI_ofNat, gi_si_eq, gi_n1, gi_n2, gl_sl_eq, gl_n1, gl_n2, gi_sl, gl_si, forall_eq, true_implies, false_implies, not_true_eq_false, not_false_eq_true, and_true, true_and, implies_true, and_self]
      exact hK
    | succ f ih =>
      intro v hv
      show k_M_delta_55 a1 Q _ K (nI v) _
      unfold k_M_delta_55
      simp (disch := omega) only [fa_lit0, xI_le_T, xI_le_F, xI_lt_T, xI_lt_F, xI_eq_T, xI_eq_F, xN_a, xN_b, xN_c, xN_d, xN_e, xN_f, xN_g, xN_h, xI_add, xI_mul, xI_sub, xI_tn, xI_in, xI_ofNat, gi_si_eq, gi_n1, gi_n2, gl_sl_eq, gl_n1, gl_n2, gi_sl, gl_si, forall_eq, true_implies, false_implies, not_true_eq_false, not_false_eq_true, and_true, true_and, implies_true, and_self, fli_step]
      exact ih (v + 1) (by omega)
  have zz := z 31 0 (by omega)
  rw [fli_0] at zz
  exact ⟨31 + 1, zz⟩
def SD (a b : Nat) : Prop := (319 ≤ a ∧ a ≤ 324) ∨ a = 327
theorem M_da {A : Nat → Nat → Nat} {a1 : Int32} {M : Mm} {Q : Int32 → Mm → Prop} {K : Mm → Prop} (hC : OkC A) (g10 : gi M 312 10 = nI (A 0 0)) (g5 : ∀ i, i < A 0 0 → gi M 325 (5 * i) = nI (A 1 i) ∧ gi M 325 (5 * i + 1) = nI (A 2 i) ∧ gi M 325 (5 * i + 2) = nI (A 3 i) ∧ gi M 325 (5 * i + 3) = nI (A 4 i) ∧ gi M 325 (5 * i + 4) = nI (A 5 i)) (g6 : ∀ i, i < 5 → gi M 326 i = nI (A 6 i)) (hz : ∀ j, j < 31 → gi M 327 j = nI 0) (hK : ∀ M', Sm SD M M' → (∀ i, i < A 0 0 → gi M' 319 i = nI (A 1 i) ∧ gi M' 320 i = nI (A 2 i) ∧ gi M' 321 i = nI (A 3 i) ∧ gi M' 322 i = nI (A 4 i) ∧ gi M' 323 i = nI (A 5 i) ∧ gi M' 324 i = nI (A 6 i)) → (∀ j, j < 31 → gi M' 327 j = nI (fq A (A 0 0) j)) → K M') : ∃ n, lp_M_delta_76 a1 Q K n (nI 0) M := by
  have hn := hC.1
  have key : ∀ f v M', v + f = A 0 0 → Sm SD M M' → (∀ i, i < v → gi M' 319 i = nI (A 1 i) ∧ gi M' 320 i = nI (A 2 i) ∧ gi M' 321 i = nI (A 3 i) ∧ gi M' 322 i = nI (A 4 i) ∧ gi M' 323 i = nI (A 5 i) ∧ gi M' 324 i = nI (A 6 i)) → (∀ j, j < 31 → gi M' 327 j = nI (fq A v j)) → lp_M_delta_76 a1 Q K (f + 1) (nI v) M' := by
    intro f
    induction f with
    | zero =>
      intro v M' hv s h1 h2
      have : v = A 0 0 := by omega
      subst this
      show k_M_delta_76 a1 Q _ K (nI (A 0 0)) M'
      unfold k_M_delta_76
      have b1 := (s.g (a := 312) (b := 10) (by unfold SD; omega)).trans g10
      simp (disch := omega) only [fa_lit0, xI_le_T, xI_le_F, xI_lt_T, xI_lt_F, xI_eq_T, xI_eq_F, xN_a, xN_b, xN_c, xN_d, xN_e, xN_f, xN_g, xN_h, xI_add, xI_mul, xI_sub, xI_tn, xI_in, xI_ofNat, gi_si_eq, gi_n1, gi_n2, gl_sl_eq, gl_n1, gl_n2, gi_sl, gl_si, forall_eq, true_implies, false_implies, not_true_eq_false, not_false_eq_true, and_true, true_and, implies_true, and_self, b1]
      exact hK M' s h1 h2
    | succ f ih =>
      intro v M' hv s h1 h2
      show k_M_delta_76 a1 Q _ K (nI v) M'
      unfold k_M_delta_76
      have b1 := (s.g (a := 312) (b := 10) (by unfold SD; omega)).trans g10
      obtain ⟨q1, q2, q3, q4, q5⟩ := g5 v (by omega)
      have q6 := g6 v (by omega)
      have r1 := (s.g (a := 325) (b := 5 * v) (by unfold SD; omega)).trans q1
      have r2 := (s.g (a := 325) (b := 5 * v + 1) (by unfold SD; omega)).trans q2
      have r3 := (s.g (a := 325) (b := 5 * v + 2) (by unfold SD; omega)).trans q3
      have r4 := (s.g (a := 325) (b := 5 * v + 3) (by unfold SD; omega)).trans q4
      have r5 := (s.g (a := 325) (b := 5 * v + 4) (by unfold SD; omega)).trans q5
      have r6 := (s.g (a := 326) (b := v) (by unfold SD; omega)).trans q6
      have hk := (hC.2.2 v (by omega)).1
      have fin : ∀ x, x = isk (A 1 v) 3 → lp_M_delta_76 a1 Q K (f + 1) (nI (v + 1)) (si (si (si (si (si (si (si (si M' 319 v (nI (A 1 v))) 320 v (nI (A 2 v))) 321 v (nI (A 3 v))) 322 v (nI (A 4 v))) 323 v (nI (A 5 v))) 324 v (nI (A 6 v))) 327 v (nI x)) 327 (20 + v) (nI x)) := by
        intro x hx
        refine ih (v + 1) _ (by omega) ((((((((s.wi (Or.inl (by omega))).wi (Or.inl (by omega))).wi (Or.inl (by omega))).wi (Or.inl (by omega))).wi (Or.inl (by omega))).wi (Or.inl (by omega))).wi (Or.inr rfl)).wi (Or.inr rfl)) (fun i hi => ?_) (fun j hj => ?_)
        · by_cases c : i = v
          · subst c
            simp (disch := omega) only [fa_lit0, xI_le_T, xI_le_F, xI_lt_T, xI_lt_F, xI_eq_T, xI_eq_F, xN_a, xN_b, xN_c, xN_d, xN_e, xN_f, xN_g, xN_h, xI_add, xI_mul, xI_sub, xI_tn, xI_in, xI_ofNat, gi_si_eq, gi_n1, gi_n2, gl_sl_eq, gl_n1, gl_n2, gi_sl, gl_si, forall_eq, true_implies, false_implies, not_true_eq_false, not_false_eq_true, and_true, true_and, implies_true, and_self]
          · simp (disch := omega) only [fa_lit0, xI_le_T, xI_le_F, xI_lt_T, xI_lt_F, xI_eq_T, xI_eq_F, xN_a, xN_b, xN_c, xN_d, xN_e, xN_f, xN_g, xN_h, xI_add, xI_mul, xI_sub, xI_tn, xI_in, xI_ofNat, gi_si_eq, gi_n1, gi_n2, gl_sl_eq, gl_n1, gl_n2, gi_sl, gl_si, forall_eq, true_implies, false_implies, not_true_eq_false, not_false_eq_true, and_true, true_and, implies_true, and_self, h1 i (by omega)]
        · have h2 := h2 j hj
          by_cases c1 : j = v
          · subst c1
            rw [fq_o (by omega), show gq A (j + 1) j = x from (if_pos (by omega)).trans hx.symm]
            simp (disch := omega) only [fa_lit0, xI_le_T, xI_le_F, xI_lt_T, xI_lt_F, xI_eq_T, xI_eq_F, xN_a, xN_b, xN_c, xN_d, xN_e, xN_f, xN_g, xN_h, xI_add, xI_mul, xI_sub, xI_tn, xI_in, xI_ofNat, gi_si_eq, gi_n1, gi_n2, gl_sl_eq, gl_n1, gl_n2, gi_sl, gl_si, forall_eq, true_implies, false_implies, not_true_eq_false, not_false_eq_true, and_true, true_and, implies_true, and_self]
          · by_cases c2 : j = 20 + v
            · subst c2
              rw [fq_b (by omega), show gq A (v + 1) v = x from (if_pos (by omega)).trans hx.symm]
              simp (disch := omega) only [fa_lit0, xI_le_T, xI_le_F, xI_lt_T, xI_lt_F, xI_eq_T, xI_eq_F, xN_a, xN_b, xN_c, xN_d, xN_e, xN_f, xN_g, xN_h, xI_add, xI_mul, xI_sub, xI_tn, xI_in, xI_ofNat, gi_si_eq, gi_n1, gi_n2, gl_sl_eq, gl_n1, gl_n2, gi_sl, gl_si, forall_eq, true_implies, false_implies, not_true_eq_false, not_false_eq_true, and_true, true_and, implies_true, and_self]
            · have : fq A (v + 1) j = fq A v j := by
                unfold fq gq
                by_cases d1 : j < 5
                · rw [if_pos d1, if_pos d1]
                  by_cases d2 : j < v
                  · rw [if_pos d2, if_pos (by omega)]
                  · rw [if_neg d2, if_neg (by omega)]
                · rw [if_neg d1, if_neg d1]
                  by_cases d3 : 20 ≤ j ∧ j < 25
                  · rw [if_pos d3, if_pos d3]
                    by_cases d2 : j - 20 < v
                    · rw [if_pos d2, if_pos (by omega)]
                    · rw [if_neg d2, if_neg (by omega)]
                  · rw [if_neg d3, if_neg d3]
              rw [this]
              simp (disch := omega) only [fa_lit0, xI_le_T, xI_le_F, xI_lt_T, xI_lt_F, xI_eq_T, xI_eq_F, xN_a, xN_b, xN_c, xN_d, xN_e, xN_f, xN_g, xN_h, xI_add, xI_mul, xI_sub, xI_tn, xI_in, xI_ofNat, gi_si_eq, gi_n1, gi_n2, gl_sl_eq, gl_n1, gl_n2, gi_sl, gl_si, forall_eq, true_implies, false_implies, not_true_eq_false, not_false_eq_true, and_true, true_and, implies_true, and_self, h2]
      simp (disch := omega) only [fa_lit0, xI_le_T, xI_le_F, xI_lt_T, xI_lt_F, xI_eq_T, xI_eq_F, xN_a, xN_b, xN_c, xN_d, xN_e, xN_f, xN_g, xN_h, xI_add, xI_mul, xI_sub, xI_tn, xI_in, xI_ofNat, gi_si_eq, gi_n1, gi_n2, gl_sl_eq, gl_n1, gl_n2, gi_sl, gl_si, forall_eq, true_implies, false_implies, not_true_eq_false, not_false_eq_true, and_true, true_and, implies_true, and_self, b1, r1, r2, r3, r4, r5, r6]
      by_cases k3 : A 1 v = 3
      · have f1 := fin 1 (by unfold isk; rw [if_pos (by omega)])
        rw [k3] at f1
        simp (disch := omega) only [fa_lit0, xI_le_T, xI_le_F, xI_lt_T, xI_lt_F, xI_eq_T, xI_eq_F, xN_a, xN_b, xN_c, xN_d, xN_e, xN_f, xN_g, xN_h, xI_add, xI_mul, xI_sub, xI_tn, xI_in, xI_ofNat, gi_si_eq, gi_n1, gi_n2, gl_sl_eq, gl_n1, gl_n2, gi_sl, gl_si, forall_eq, true_implies, false_implies, not_true_eq_false, not_false_eq_true, and_true, true_and, implies_true, and_self, k3, k_M_delta_194, k_M_delta_199, k_M_delta_214, k_M_delta_232]
        exact f1
      · by_cases k5 : A 1 v = 5
        · have f1 := fin 1 (by unfold isk; rw [if_pos (by omega)])
          rw [k5] at f1
          simp (disch := omega) only [fa_lit0, xI_le_T, xI_le_F, xI_lt_T, xI_lt_F, xI_eq_T, xI_eq_F, xN_a, xN_b, xN_c, xN_d, xN_e, xN_f, xN_g, xN_h, xI_add, xI_mul, xI_sub, xI_tn, xI_in, xI_ofNat, gi_si_eq, gi_n1, gi_n2, gl_sl_eq, gl_n1, gl_n2, gi_sl, gl_si, forall_eq, true_implies, false_implies, not_true_eq_false, not_false_eq_true, and_true, true_and, implies_true, and_self, k5, k_M_delta_194, k_M_delta_199, k_M_delta_214, k_M_delta_232]
          exact f1
        · have f1 := fin 0 (by unfold isk; rw [if_neg (by omega)])
          simp (disch := omega) only [fa_lit0, xI_le_T, xI_le_F, xI_lt_T, xI_lt_F, xI_eq_T, xI_eq_F, xN_a, xN_b, xN_c, xN_d, xN_e, xN_f, xN_g, xN_h, xI_add, xI_mul, xI_sub, xI_tn, xI_in, xI_ofNat, gi_si_eq, gi_n1, gi_n2, gl_sl_eq, gl_n1, gl_n2, gi_sl, gl_si, forall_eq, true_implies, false_implies, not_true_eq_false, not_false_eq_true, and_true, true_and, implies_true, and_self, k_M_delta_194, k_M_delta_199, k_M_delta_214, k_M_delta_232]
          exact f1
  refine ⟨A 0 0 + 1, key (A 0 0) 0 M (by omega) (Sm.refl _ M) (fun i hi => absurd hi (Nat.not_lt_zero i)) (fun j hj => ?_)⟩
  rw [hz j hj]
  have : fq A 0 j = 0 := by
    unfold fq gq
    rw [if_neg (Nat.not_lt_zero j), if_neg (Nat.not_lt_zero _)]
    split
    · rfl
    · split <;> rfl
  rw [this]
theorem OkP.chart {w : Nat} {A : Nat → Nat → Nat} (h : OkP w A) : OkC A := by
  obtain ⟨h1, h2, h3, h4, h5, h6⟩ := h
  refine ⟨h1, h3, fun i hi => ?_⟩
  obtain ⟨a1, a2, a3, a4, a5⟩ := h4 i hi
  obtain ⟨b1, b2⟩ := h5 i (by omega)
  exact ⟨a1, a2, a3, a4, a5, b1, b2⟩
def SDel (a b : Nat) : Prop := (20 ≤ a ∧ a ≤ 39) ∨ (54 ≤ a ∧ a ≤ 61) ∨ (a = 312 ∧ (b = 10 ∨ b = 11 ∨ (18 ≤ b ∧ b ≤ 22) ∨ b = 28)) ∨ (319 ≤ a ∧ a ≤ 327) ∨ a = 330
def S46 (a b : Nat) : Prop := (a = 312 ∧ (b = 10 ∨ b = 11 ∨ (18 ≤ b ∧ b ≤ 22))) ∨ a = 325 ∨ a = 326 ∨ a = 327
theorem op_delta {a1 : Int32} {M : Mm} (h : Rel RDel M) : wp_B_delta a1 M (fun r M1 => wp_M_delta a1 M1 (fun r2 M2 => r = r2 ∧ Rel RDel M2)) := by
  obtain ⟨C, F, D, L, T', N, V, KL, hd⟩ := h.2.2.2.2.2.2.out
  rcases pk_ix a1 (n := 4) (by omega) with g | g | ⟨T, hT, rfl⟩
  · simp (disch := omega) only [fa_lit0, xI_le_T, xI_le_F, xI_lt_T, xI_lt_F, xI_eq_T, xI_eq_F, xN_a, xN_b, xN_c, xN_d, xN_e, xN_f, xN_g, xN_h, xI_add, xI_mul, xI_sub, xI_tn, xI_in, xI_ofNat, gi_si_eq, gi_n1, gi_n2, gl_sl_eq, gl_n1, gl_n2, gi_sl, gl_si, forall_eq, true_implies, false_implies, not_true_eq_false, not_false_eq_true, and_true, true_and, implies_true, and_self, wp_B_delta, wp_B_shelfRefusal, wp_Sh_knows, wp_M_delta, wp_M_isText, wp_M_in, ng_a g, zb_0]; exact h
  · simp (disch := omega) only [fa_lit0, xI_le_T, xI_le_F, xI_lt_T, xI_lt_F, xI_eq_T, xI_eq_F, xN_a, xN_b, xN_c, xN_d, xN_e, xN_f, xN_g, xN_h, xI_add, xI_mul, xI_sub, xI_tn, xI_in, xI_ofNat, gi_si_eq, gi_n1, gi_n2, gl_sl_eq, gl_n1, gl_n2, gi_sl, gl_si, forall_eq, true_implies, false_implies, not_true_eq_false, not_false_eq_true, and_true, true_and, implies_true, and_self, wp_B_delta, wp_B_shelfRefusal, wp_Sh_knows, wp_M_delta, wp_M_isText, wp_M_in, bg_a g, bg_b g, bg_c g, zb_0, shN_13]; exact h
  · obtain ⟨g1, g2, g3⟩ := h.2.1 T hT
    rcases g2 with e | ⟨m, hm, e⟩
    · rw [e] at g1
      simp (disch := omega) only [fa_lit0, xI_le_T, xI_le_F, xI_lt_T, xI_lt_F, xI_eq_T, xI_eq_F, xN_a, xN_b, xN_c, xN_d, xN_e, xN_f, xN_g, xN_h, xI_add, xI_mul, xI_sub, xI_tn, xI_in, xI_ofNat, gi_si_eq, gi_n1, gi_n2, gl_sl_eq, gl_n1, gl_n2, gi_sl, gl_si, forall_eq, true_implies, false_implies, not_true_eq_false, not_false_eq_true, and_true, true_and, implies_true, and_self, wp_B_delta, wp_B_shelfRefusal, wp_Sh_knows, wp_Sh_isThere, wp_M_delta, wp_M_isText, wp_M_in, zb_1, shN_13, g1, e, wp_B_answerFinding, wp_M_meets]
      exact find_pair RDel_mono h (by omega)
    · rw [e] at g1
      have hb := pr_b (t := fun i => gi M 318 (60 * T + i)) (m := m) m 0 0 (fun _ _ => 0) (by omega)
      have hO0 : OkP 0 (fun _ _ => 0) := ⟨Nat.zero_le _, Nat.zero_le _, Nat.zero_le _, fun i hi => absurd hi (Nat.not_lt_zero i), fun i hi => ⟨Nat.two_pow_pos _, by rw [Nat.zero_div]⟩, fun _ _ _ => rfl⟩
      have hok := pr_ok (t := fun i => gi M 318 (60 * T + i)) (m := m) m 0 0 (fun _ _ => 0) (by omega) hO0
      simp (disch := omega) only [fa_lit0, xI_le_T, xI_le_F, xI_lt_T, xI_lt_F, xI_eq_T, xI_eq_F, xN_a, xN_b, xN_c, xN_d, xN_e, xN_f, xN_g, xN_h, xI_add, xI_mul, xI_sub, xI_tn, xI_in, xI_ofNat, gi_si_eq, gi_n1, gi_n2, gl_sl_eq, gl_n1, gl_n2, gi_sl, gl_si, forall_eq, true_implies, false_implies, not_true_eq_false, not_false_eq_true, and_true, true_and, implies_true, and_self, wp_B_delta, wp_B_shelfRefusal, wp_Sh_knows, wp_Sh_isThere, shN_13, g1]
      refine B_read (j := 1) (t := fun i => gi M 318 (60 * T + i)) (by omega) hm hT g1 (fun i hi => g3 i m e hm hi) (fun M1 s1 _ => ?_)
      have e1 := (s1.g (a := 317) (b := T) (by unfold SPS; omega)).trans e
      by_cases co : pout m (pr (fun i => gi M 318 (60 * T + i)) m 0 0 (fun _ _ => 0)) = -nI 9
      · refine ⟨fun _ => ?_, fun w => absurd co w⟩
        refine B_read (j := 0) (t := fun i => gi M 318 (60 * T + i)) (by omega) hm hT ((s1.g (by unfold SPS; omega)).trans g1) (fun i hi => (s1.g (by unfold SPS; omega)).trans (g3 i m e hm hi)) (fun M2 s2 hP => ?_)
        obtain ⟨hP, hS⟩ := hP co
        have hc : (pr (fun i => gi M 318 (60 * T + i)) m 0 0 (fun _ _ => 0)).1 = 0 ∧ ¬ (pr (fun i => gi M 318 (60 * T + i)) m 0 0 (fun _ _ => 0)).2.2.2 0 0 = 0 := by
          unfold pout at co
          by_cases c1 : (pr (fun i => gi M 318 (60 * T + i)) m 0 0 (fun _ _ => 0)).1 = 0
          · refine ⟨c1, fun c2 => ?_⟩
            rw [if_pos c1, if_pos c2] at co
            exact absurd co (by simp (disch := omega) only [fa_lit0, xI_le_T, xI_le_F, xI_lt_T, xI_lt_F, xI_eq_T, xI_eq_F, xN_a, xN_b, xN_c, xN_d, xN_e, xN_f, xN_g, xN_h, xI_add, xI_mul, xI_sub, xI_tn, xI_in, xI_ofNat, gi_si_eq, gi_n1, gi_n2, gl_sl_eq, gl_n1, gl_n2, gi_sl, gl_si, forall_eq, true_implies, false_implies, not_true_eq_false, not_false_eq_true, and_true, true_and, implies_true, and_self])
          · rw [if_neg c1] at co
            exact absurd co (by simp (disch := omega) only [fa_lit0, xI_le_T, xI_le_F, xI_lt_T, xI_lt_F, xI_eq_T, xI_eq_F, xN_a, xN_b, xN_c, xN_d, xN_e, xN_f, xN_g, xN_h, xI_add, xI_mul, xI_sub, xI_tn, xI_in, xI_ofNat, gi_si_eq, gi_n1, gi_n2, gl_sl_eq, gl_n1, gl_n2, gi_sl, gl_si, forall_eq, true_implies, false_implies, not_true_eq_false, not_false_eq_true, and_true, true_and, implies_true, and_self])
        have hok := hok hc.1
        generalize ho : pr (fun i => gi M 318 (60 * T + i)) m 0 0 (fun _ _ => 0) = o at *
        have hC := hok.chart
        have hn := hC.1
        have hn0 := hc.2
        generalize hoA : o.2.2.2 = A at *
        have hB : ChB A M2 := by
          obtain ⟨p1, p2, p3, p4, p5, p6, p7, p8, p9⟩ := hP
          refine ⟨p6, p7, fun i hi => ?_⟩
          obtain ⟨c1, c2, c3, c4, c5⟩ := p8 i hi
          exact ⟨c1, c2, c3, c4, c5, p9 i (by omega)⟩
        unfold wp_St_begin
        refine B_begin hC hB (fun M3 s3 hF3 => ?_)
        refine ⟨0 + 1 + 1 + 1 + 1, ?_⟩
        have q7 := (s3.g (a := 20) (b := 7) (by omega)).trans hB.1
        generalize hM4 : si (si (si (si M3 60 2 (nI 0)) 54 2 (nI 0)) 56 2 (nI 0)) 58 2 (nI 0) = M4
        have run : ∀ (Q : Int32 → Mm → Prop), Q (nI (A 0 0)) M4 → lp_B_delta_62 (nI T) Q (0 + 1 + 1 + 1 + 1) (nI 0) (si M3 60 2 (nI 0)) := by
          intro Q hQ
          show k_B_delta_62 (nI T) Q _ (nI 0) _
          unfold k_B_delta_62
          simp (disch := omega) only [fa_lit0, xI_le_T, xI_le_F, xI_lt_T, xI_lt_F, xI_eq_T, xI_eq_F, xN_a, xN_b, xN_c, xN_d, xN_e, xN_f, xN_g, xN_h, xI_add, xI_mul, xI_sub, xI_tn, xI_in, xI_ofNat, gi_si_eq, gi_n1, gi_n2, gl_sl_eq, gl_n1, gl_n2, gi_sl, gl_si, forall_eq, true_implies, false_implies, not_true_eq_false, not_false_eq_true, and_true, true_and, implies_true, and_self]
          show k_B_delta_62 (nI T) Q _ (nI 1) _
          unfold k_B_delta_62
          simp (disch := omega) only [fa_lit0, xI_le_T, xI_le_F, xI_lt_T, xI_lt_F, xI_eq_T, xI_eq_F, xN_a, xN_b, xN_c, xN_d, xN_e, xN_f, xN_g, xN_h, xI_add, xI_mul, xI_sub, xI_tn, xI_in, xI_ofNat, gi_si_eq, gi_n1, gi_n2, gl_sl_eq, gl_n1, gl_n2, gi_sl, gl_si, forall_eq, true_implies, false_implies, not_true_eq_false, not_false_eq_true, and_true, true_and, implies_true, and_self]
          show k_B_delta_62 (nI T) Q _ (nI 2) _
          unfold k_B_delta_62
          simp (disch := omega) only [fa_lit0, xI_le_T, xI_le_F, xI_lt_T, xI_lt_F, xI_eq_T, xI_eq_F, xN_a, xN_b, xN_c, xN_d, xN_e, xN_f, xN_g, xN_h, xI_add, xI_mul, xI_sub, xI_tn, xI_in, xI_ofNat, gi_si_eq, gi_n1, gi_n2, gl_sl_eq, gl_n1, gl_n2, gi_sl, gl_si, forall_eq, true_implies, false_implies, not_true_eq_false, not_false_eq_true, and_true, true_and, implies_true, and_self]
          show k_B_delta_62 (nI T) Q _ (nI 3) _
          unfold k_B_delta_62
          simp (disch := omega) only [fa_lit0, xI_le_T, xI_le_F, xI_lt_T, xI_lt_F, xI_eq_T, xI_eq_F, xN_a, xN_b, xN_c, xN_d, xN_e, xN_f, xN_g, xN_h, xI_add, xI_mul, xI_sub, xI_tn, xI_in, xI_ofNat, gi_si_eq, gi_n1, gi_n2, gl_sl_eq, gl_n1, gl_n2, gi_sl, gl_si, forall_eq, true_implies, false_implies, not_true_eq_false, not_false_eq_true, and_true, true_and, implies_true, and_self, q7, Nat.mul_zero, Nat.mul_one, Nat.add_zero]
          rw [← hM4] at hQ
          exact hQ
        refine run _ ?_
        have s4 : Sm SDel M M4 := by
          rw [← hM4]
          exact (((((s1.mono (fun a b q => by unfold SPS at q; unfold SDel; omega)).trans (s2.mono (fun a b q => by unfold SPS at q; unfold SDel; omega))).trans (s3.mono (fun a b q => by unfold SDel; omega))).wi (by unfold SDel; omega)).wi (by unfold SDel; omega)).wi (by unfold SDel; omega) |>.wi (by unfold SDel; omega)
        have s34 : Sm (fun a _ => a = 54 ∨ a = 56 ∨ a = 58 ∨ a = 60) M3 M4 := by
          rw [← hM4]
          exact ((((Sm.refl _ M3).wi (by omega)).wi (by omega)).wi (by omega)).wi (by omega)
        have e60 : gi M4 60 2 = nI 0 := by rw [← hM4]; simp (disch := omega) only [fa_lit0, xI_le_T, xI_le_F, xI_lt_T, xI_lt_F, xI_eq_T, xI_eq_F, xN_a, xN_b, xN_c, xN_d, xN_e, xN_f, xN_g, xN_h, xI_add, xI_mul, xI_sub, xI_tn, xI_in, xI_ofNat, gi_si_eq, gi_n1, gi_n2, gl_sl_eq, gl_n1, gl_n2, gi_sl, gl_si, forall_eq, true_implies, false_implies, not_true_eq_false, not_false_eq_true, and_true, true_and, implies_true, and_self]
        have e54 : ∀ k, k < 3 → gi M4 (54 + 2 * k) 2 = nI 0 := by
          intro k hk
          rw [← hM4]
          rcases (show k = 0 ∨ k = 1 ∨ k = 2 by omega) with v | v | v <;> subst v <;> simp (disch := omega) only [fa_lit0, xI_le_T, xI_le_F, xI_lt_T, xI_lt_F, xI_eq_T, xI_eq_F, xN_a, xN_b, xN_c, xN_d, xN_e, xN_f, xN_g, xN_h, xI_add, xI_mul, xI_sub, xI_tn, xI_in, xI_ofNat, gi_si_eq, gi_n1, gi_n2, gl_sl_eq, gl_n1, gl_n2, gi_sl, gl_si, forall_eq, true_implies, false_implies, not_true_eq_false, not_false_eq_true, and_true, true_and, implies_true, and_self]
        have hB4 : ChB A M4 := (hB.sm s3 (fun a b q => by omega)).sm s34 (fun a b q => by omega)
        have hF4 : FlB (fq A (A 0 0)) M4 61 := hF3.sm s34 (fun b => by omega)
        have hS4 : ∀ s, s < 32 → gi M4 27 s = -nI 1 := fun s hs => (s34.g (by omega)).trans ((s3.g (by omega)).trans (hS s hs))
        have e4 := (s4.g (a := 317) (b := T) (by unfold SDel; omega)).trans e
        have t4 : ∀ i, i < m → gi M4 318 (60 * T + i) = (fun i => gi M 318 (60 * T + i)) i := fun i hi => s4.g (by unfold SDel; omega)
        clear hF3 s34 hB hS hM4 run q7 s3 s2 s1 hP
        simp (disch := omega) only [fa_lit0, xI_le_T, xI_le_F, xI_lt_T, xI_lt_F, xI_eq_T, xI_eq_F, xN_a, xN_b, xN_c, xN_d, xN_e, xN_f, xN_g, xN_h, xI_add, xI_mul, xI_sub, xI_tn, xI_in, xI_ofNat, gi_si_eq, gi_n1, gi_n2, gl_sl_eq, gl_n1, gl_n2, gi_sl, gl_si, forall_eq, true_implies, false_implies, not_true_eq_false, not_false_eq_true, and_true, true_and, implies_true, and_self, wp_M_delta, wp_M_isText, wp_M_in, zb_1, e4]
        refine M_faultOf (t := fun i => gi M 318 (60 * T + i)) hT hm e4 t4 (fun M5 s5 hP => ?_)
        rw [ho] at hP ⊢
        refine ⟨fun _ => ?_, fun w => absurd co w⟩
        have hP := hP co
        rw [hoA] at hP
        obtain ⟨p1, p2, p3, p5, p6, p7, p8, p9⟩ := hP
        simp (disch := omega) only [fa_lit0, xI_le_T, xI_le_F, xI_lt_T, xI_lt_F, xI_eq_T, xI_eq_F, xN_a, xN_b, xN_c, xN_d, xN_e, xN_f, xN_g, xN_h, xI_add, xI_mul, xI_sub, xI_tn, xI_in, xI_ofNat, gi_si_eq, gi_n1, gi_n2, gl_sl_eq, gl_n1, gl_n2, gi_sl, gl_si, forall_eq, true_implies, false_implies, not_true_eq_false, not_false_eq_true, and_true, true_and, implies_true, and_self, p6, p7]
        refine M_dz ?_
        have s6 : Sm SDel M (fli (si (si M5 312 10 (nI (A 0 0))) 312 11 (nI (A 0 1))) 327 31 (nI 0)) := by
          intro a b q
          have q' := q
          unfold SDel at q
          rw [gi_fli_ne (by omega), gl_fli]
          exact (((s4.trans (s5.mono (fun a b w => by unfold SQ at w; unfold SDel; omega))).wi (by unfold SDel; omega)).wi (by unfold SDel; omega)) a b q'
        have s46 : Sm S46 M4 (fli (si (si M5 312 10 (nI (A 0 0))) 312 11 (nI (A 0 1))) 327 31 (nI 0)) := by
          intro a b q
          have q' := q
          unfold S46 at q
          rw [gi_fli_ne (by omega), gl_fli]
          exact (((s5.mono (fun a b w => by unfold SQ at w; unfold S46; omega)).wi (by unfold S46; omega)).wi (by unfold S46; omega)) a b q'
        have w10 : gi (fli (si (si M5 312 10 (nI (A 0 0))) 312 11 (nI (A 0 1))) 327 31 (nI 0)) 312 10 = nI (A 0 0) := by rw [gi_fli_ne (by omega)]; simp (disch := omega) only [fa_lit0, xI_le_T, xI_le_F, xI_lt_T, xI_lt_F, xI_eq_T, xI_eq_F, xN_a, xN_b, xN_c, xN_d, xN_e, xN_f, xN_g, xN_h, xI_add, xI_mul, xI_sub, xI_tn, xI_in, xI_ofNat, gi_si_eq, gi_n1, gi_n2, gl_sl_eq, gl_n1, gl_n2, gi_sl, gl_si, forall_eq, true_implies, false_implies, not_true_eq_false, not_false_eq_true, and_true, true_and, implies_true, and_self]
        have w11 : gi (fli (si (si M5 312 10 (nI (A 0 0))) 312 11 (nI (A 0 1))) 327 31 (nI 0)) 312 11 = nI (A 0 1) := by rw [gi_fli_ne (by omega)]; simp (disch := omega) only [fa_lit0, xI_le_T, xI_le_F, xI_lt_T, xI_lt_F, xI_eq_T, xI_eq_F, xN_a, xN_b, xN_c, xN_d, xN_e, xN_f, xN_g, xN_h, xI_add, xI_mul, xI_sub, xI_tn, xI_in, xI_ofNat, gi_si_eq, gi_n1, gi_n2, gl_sl_eq, gl_n1, gl_n2, gi_sl, gl_si, forall_eq, true_implies, false_implies, not_true_eq_false, not_false_eq_true, and_true, true_and, implies_true, and_self]
        refine M_da hC w10 (fun i hi => ?_) (fun i hi => ?_) (fun j hj => gi_fli_in hj) (fun M7 s7 hc7 h27 => ?_)
        · rw [gi_fli_ne (by omega), gi_fli_ne (by omega), gi_fli_ne (by omega), gi_fli_ne (by omega), gi_fli_ne (by omega)]
          simp (disch := omega) only [fa_lit0, xI_le_T, xI_le_F, xI_lt_T, xI_lt_F, xI_eq_T, xI_eq_F, xN_a, xN_b, xN_c, xN_d, xN_e, xN_f, xN_g, xN_h, xI_add, xI_mul, xI_sub, xI_tn, xI_in, xI_ofNat, gi_si_eq, gi_n1, gi_n2, gl_sl_eq, gl_n1, gl_n2, gi_sl, gl_si, forall_eq, true_implies, false_implies, not_true_eq_false, not_false_eq_true, and_true, true_and, implies_true, and_self, p8 i hi]
        · rw [gi_fli_ne (by omega)]; simp (disch := omega) only [fa_lit0, xI_le_T, xI_le_F, xI_lt_T, xI_lt_F, xI_eq_T, xI_eq_F, xN_a, xN_b, xN_c, xN_d, xN_e, xN_f, xN_g, xN_h, xI_add, xI_mul, xI_sub, xI_tn, xI_in, xI_ofNat, gi_si_eq, gi_n1, gi_n2, gl_sl_eq, gl_n1, gl_n2, gi_sl, gl_si, forall_eq, true_implies, false_implies, not_true_eq_false, not_false_eq_true, and_true, true_and, implies_true, and_self, p9 i hi]
        generalize fli (si (si M5 312 10 (nI (A 0 0))) 312 11 (nI (A 0 1))) 327 31 (nI 0) = M6 at *
        have v10 := (s7.g (a := 312) (b := 10) (by unfold SD; omega)).trans w10
        have v11 := (s7.g (a := 312) (b := 11) (by unfold SD; omega)).trans w11
        refine ⟨0 + 1 + 1 + 1 + 1, ?_⟩
        generalize hM8 : si (si (si (si M7 312 28 (nI 0)) 330 0 (nI 0)) 330 1 (nI 0)) 330 2 (nI 0) = M8
        have run : ∀ (Q : Int32 → Mm → Prop), Q (nI (A 0 0)) M8 → lp_M_delta_246 (nI T) Q (0 + 1 + 1 + 1 + 1) (nI 0) (si M7 312 28 (nI 0)) := by
          intro Q hQ
          show k_M_delta_246 (nI T) Q _ (nI 0) _
          unfold k_M_delta_246
          simp (disch := omega) only [fa_lit0, xI_le_T, xI_le_F, xI_lt_T, xI_lt_F, xI_eq_T, xI_eq_F, xN_a, xN_b, xN_c, xN_d, xN_e, xN_f, xN_g, xN_h, xI_add, xI_mul, xI_sub, xI_tn, xI_in, xI_ofNat, gi_si_eq, gi_n1, gi_n2, gl_sl_eq, gl_n1, gl_n2, gi_sl, gl_si, forall_eq, true_implies, false_implies, not_true_eq_false, not_false_eq_true, and_true, true_and, implies_true, and_self, nb0]
          show k_M_delta_246 (nI T) Q _ (nI 1) _
          unfold k_M_delta_246
          simp (disch := omega) only [fa_lit0, xI_le_T, xI_le_F, xI_lt_T, xI_lt_F, xI_eq_T, xI_eq_F, xN_a, xN_b, xN_c, xN_d, xN_e, xN_f, xN_g, xN_h, xI_add, xI_mul, xI_sub, xI_tn, xI_in, xI_ofNat, gi_si_eq, gi_n1, gi_n2, gl_sl_eq, gl_n1, gl_n2, gi_sl, gl_si, forall_eq, true_implies, false_implies, not_true_eq_false, not_false_eq_true, and_true, true_and, implies_true, and_self, nb0]
          show k_M_delta_246 (nI T) Q _ (nI 2) _
          unfold k_M_delta_246
          simp (disch := omega) only [fa_lit0, xI_le_T, xI_le_F, xI_lt_T, xI_lt_F, xI_eq_T, xI_eq_F, xN_a, xN_b, xN_c, xN_d, xN_e, xN_f, xN_g, xN_h, xI_add, xI_mul, xI_sub, xI_tn, xI_in, xI_ofNat, gi_si_eq, gi_n1, gi_n2, gl_sl_eq, gl_n1, gl_n2, gi_sl, gl_si, forall_eq, true_implies, false_implies, not_true_eq_false, not_false_eq_true, and_true, true_and, implies_true, and_self, nb0]
          show k_M_delta_246 (nI T) Q _ (nI 3) _
          unfold k_M_delta_246
          simp (disch := omega) only [fa_lit0, xI_le_T, xI_le_F, xI_lt_T, xI_lt_F, xI_eq_T, xI_eq_F, xN_a, xN_b, xN_c, xN_d, xN_e, xN_f, xN_g, xN_h, xI_add, xI_mul, xI_sub, xI_tn, xI_in, xI_ofNat, gi_si_eq, gi_n1, gi_n2, gl_sl_eq, gl_n1, gl_n2, gi_sl, gl_si, forall_eq, true_implies, false_implies, not_true_eq_false, not_false_eq_true, and_true, true_and, implies_true, and_self, v10]
          rw [← hM8] at hQ
          exact hQ
        refine run _ ?_
        have s8 : Sm SDel M M8 := by
          rw [← hM8]
          exact ((((s6.trans (s7.mono (fun a b w => by unfold SD at w; unfold SDel; omega))).wi (by unfold SDel; omega)).wi (by unfold SDel; omega)).wi (by unfold SDel; omega)).wi (by unfold SDel; omega)
        have s78 : Sm (fun a b => (a = 312 ∧ b = 28) ∨ a = 330) M7 M8 := by
          rw [← hM8]
          exact ((((Sm.refl _ M7).wi (by omega)).wi (by omega)).wi (by omega)).wi (by omega)
        have s48 : Sm (fun a b => a = 312 ∨ (319 ≤ a ∧ a ≤ 327) ∨ a = 330) M4 M8 := ((s46.mono (fun a b w => by unfold S46 at w; omega)).trans (s7.mono (fun a b w => by unfold SD at w; omega))).trans (s78.mono (fun a b w => by omega))
        have e28 : gi M8 312 28 = nI 0 := by rw [← hM8]; simp (disch := omega) only [fa_lit0, xI_le_T, xI_le_F, xI_lt_T, xI_lt_F, xI_eq_T, xI_eq_F, xN_a, xN_b, xN_c, xN_d, xN_e, xN_f, xN_g, xN_h, xI_add, xI_mul, xI_sub, xI_tn, xI_in, xI_ofNat, gi_si_eq, gi_n1, gi_n2, gl_sl_eq, gl_n1, gl_n2, gi_sl, gl_si, forall_eq, true_implies, false_implies, not_true_eq_false, not_false_eq_true, and_true, true_and, implies_true, and_self]
        have e330 : ∀ k, k < 3 → gi M8 330 k = nI 0 := by
          intro k hk
          rw [← hM8]
          rcases (show k = 0 ∨ k = 1 ∨ k = 2 by omega) with v | v | v <;> subst v <;> simp (disch := omega) only [fa_lit0, xI_le_T, xI_le_F, xI_lt_T, xI_lt_F, xI_eq_T, xI_eq_F, xN_a, xN_b, xN_c, xN_d, xN_e, xN_f, xN_g, xN_h, xI_add, xI_mul, xI_sub, xI_tn, xI_in, xI_ofNat, gi_si_eq, gi_n1, gi_n2, gl_sl_eq, gl_n1, gl_n2, gi_sl, gl_si, forall_eq, true_implies, false_implies, not_true_eq_false, not_false_eq_true, and_true, true_and, implies_true, and_self]
        refine ⟨rfl, ?_⟩
        obtain ⟨r1, r2, r3, r4, r5, r6, r7⟩ := h
        refine ⟨r1.sm s8 (fun a b q => by unfold SDel; omega), r2.keep (fun k j q => s8.g (by unfold SDel; omega)), r3.keep (fun k q => s8.g (by unfold SDel; omega)) (s8.l (by unfold SDel; omega)), r4.keep (fun k j q => s8.g (by unfold SDel; omega)), r5.sm s8 (by unfold SDel; omega) (by unfold SDel; omega), r6.sm s8 (fun a b q => by unfold SDel; omega), ?_⟩
        refine ⟨A, fq A (A 0 0), 0, fun _ _ => 0, fun _ _ => 0, fun _ _ => 0, fun _ _ => 0, fun _ _ _ => 0, ⟨hC, hB4.sm s48 (fun a b q => by omega), ⟨(s78.g (by omega)).trans v10, (s78.g (by omega)).trans v11, fun i hi => ?_⟩, fun _ s hs => Or.inl ((s48.g (by omega)).trans (hS4 s hs))⟩, ⟨fq_ok A _, hF4.sm s48 (fun b => by omega), fun j hj => (s78.g (by omega)).trans (h27 j hj)⟩, ?_, ⟨Nat.zero_le _, (s48.g (by omega)).trans e60, e28, fun d hd => absurd hd (Nat.not_lt_zero d)⟩, fun k hk => ⟨Nat.zero_le _, (s48.g (by omega)).trans (e54 k hk), e330 k hk, fun v => absurd v Nat.zero_ne_one⟩, fun k _ v => absurd v Nat.zero_ne_one⟩
        · obtain ⟨c1, c2, c3, c4, c5, c6⟩ := hc7 i hi
          exact ⟨(s78.g (by omega)).trans c1, (s78.g (by omega)).trans c2, (s78.g (by omega)).trans c3, (s78.g (by omega)).trans c4, (s78.g (by omega)).trans c5, (s78.g (by omega)).trans c6⟩
        · rw [fq_z (by omega) (by omega)]; exact Nat.le_refl 0
      · refine ⟨fun w => absurd w co, fun _ => ?_⟩
        simp (disch := omega) only [fa_lit0, xI_le_T, xI_le_F, xI_lt_T, xI_lt_F, xI_eq_T, xI_eq_F, xN_a, xN_b, xN_c, xN_d, xN_e, xN_f, xN_g, xN_h, xI_add, xI_mul, xI_sub, xI_tn, xI_in, xI_ofNat, gi_si_eq, gi_n1, gi_n2, gl_sl_eq, gl_n1, gl_n2, gi_sl, gl_si, forall_eq, true_implies, false_implies, not_true_eq_false, not_false_eq_true, and_true, true_and, implies_true, and_self, wp_M_delta, wp_M_isText, wp_M_in, zb_1, e1]
        refine M_faultOf (t := fun i => gi M 318 (60 * T + i)) hT hm e1 (fun i hi => s1.g (by unfold SPS; omega)) (fun M2 s2 _ => ?_)
        refine ⟨fun w => absurd w co, fun _ => ?_⟩
        first | (refine ⟨rfl, ?_⟩; show Rel RDel M2) | show Rel RDel M2
        have s : Sm Asw M M2 := (s1.mono (fun a b q => by unfold SPS at q; unfold Asw; omega)).trans (s2.mono (fun a b q => by unfold SQ at q; unfold Asw; omega))
        have s3 : Sm (fun a b => (28 ≤ a ∧ a ≤ 39) ∨ SQ a b) M M2 := (s1.mono (fun a b q => by unfold SPS at q; omega)).trans (s2.mono (fun a b q => Or.inr q))
        refine h.fin hd s (fun hn => ?_) (h.1.sm s3 (fun a b q => by unfold SQ; omega)) (h.2.2.2.2.1.sm s3 (by unfold SQ; omega) (by unfold SQ; omega)) (h.2.2.2.2.2.1.sm s3 (fun a b q => by unfold SQ; omega))
        exact (hd.parts.2.2.2.2.2.2 hn).2.2.sm s3 (fun b => by unfold SQ; omega)
