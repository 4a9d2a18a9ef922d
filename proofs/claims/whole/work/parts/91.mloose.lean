/-! the reference loosens -/
theorem cn_sj {b : Nat → Nat} (hb : ∀ q, b q ≤ 1) : ∀ N t, t < cn b N → ∃ p, p < N ∧ b p = 1 ∧ cn b p = t := by
  intro N
  induction N with
  | zero => intro t h; exact absurd h (Nat.not_lt_zero t)
  | succ N ih =>
    intro t h
    have h : t < cn b N + b N := h
    have := hb N
    by_cases c : t < cn b N
    · obtain ⟨p, h1, h2, h3⟩ := ih t c
      exact ⟨p, by omega, h2, h3⟩
    · exact ⟨N, by omega, by omega, by omega⟩
theorem cnt_4 : ∀ m, m < 32 → ∀ i, i < 5 → m / 2 ^ i % 2 = 0 → cnt m 5 ≤ 4 := by decide +kernel
theorem bk_20 {W : Nat → Nat} {n : Nat} (hn : n ≤ 5) (hW : ∀ i, i < n → W i < 2 ^ n ∧ W i / 2 ^ i % 2 = 0) (R : Nat → Nat) {S : Nat} (hS : S < 2 ^ n) : ct (bk W n R S) ≤ 20 := by
  have h : ∀ i, i < 5 → cnt (bk W n R S i) 5 ≤ 4 := by
    intro i hi
    refine cnt_4 _ (bk_lt hn R S i) i hi ?_
    rw [bk_bit hn R S i hi]
    by_cases c : i < n
    · rw [if_neg (by have := (hW i c).2; omega)]
    · rw [if_neg (by omega)]
  have := h 0 (by omega)
  have := h 1 (by omega)
  have := h 2 (by omega)
  have := h 3 (by omega)
  have := h 4 (by omega)
  unfold ct
  omega
abbrev prm (n : Nat) (R : Nat → Nat) : Prop := (∀ i, i < n → R i < n) ∧ ∀ i j, i < n → j < n → i ≠ j → R i ≠ R j
theorem M_layB {C : Nat → Nat → Nat} {M : Mm} {R : Nat → Nat} (hW : MW C M) (hR : ∀ i, i < C 0 0 → gi M 339 i = nI (R i)) (hp : prm (C 0 0) R) {Q : Int32 → Mm → Prop} (hQ : ∀ M', Sm (fun a _ => a = 337) M M' → LI M' 337 (bk (C 6) (C 0 0) R (2 ^ C 0 0 - 1)) → Q (nI (ct (bk (C 6) (C 0 0) R (2 ^ C 0 0 - 1)))) M') : wp_M_layBack M Q := by
  have hC := hW.1
  have hn := hC.1
  have hp5 := p5 hn
  have hp0 : 0 < 2 ^ C 0 0 := Nat.two_pow_pos _
  have hWW : ∀ i, i < C 0 0 → C 6 i < 2 ^ C 0 0 ∧ C 6 i / 2 ^ i % 2 = 0 := fun i hi => (hC.2.2 i hi).2.2.2.2.2
  have c20 := bk_20 hn hWW R (S := 2 ^ C 0 0 - 1) (by omega)
  have bq : ∀ i j, i < 5 → j < 8 → be (bk (C 6) (C 0 0) R (2 ^ C 0 0 - 1)) (8 * i + j) = if i < C 0 0 ∧ j < C 0 0 ∧ C 6 i / 2 ^ j % 2 = 1 ∧ ¬ R j ≤ R i then 1 else 0 := by
    intro i j hi hj
    by_cases c : j < 5
    · rw [be_at _ c, bk_bit hn R _ i c, k_full _ hn i hi, k_full _ hn j c]
      by_cases d : i < C 0 0
      · rw [if_pos d]
        by_cases e : j < C 0 0
        · rw [if_pos e]
          have z := (hWW i d).2
          by_cases f : j = i
          · subst f
            rw [if_neg (by omega), if_neg (by omega)]
          · have := hp.2 j i e d f
            split <;> split <;> first | rfl | (exfalso; omega)
        · rw [if_neg (by omega), if_neg (by omega)]
      · rw [if_neg d, if_neg (by omega), if_neg (by omega)]
    · rw [be_z _ (by omega) hj, if_neg (by omega)]
  have r40 := row40 (bk (C 6) (C 0 0) R (2 ^ C 0 0 - 1))
  have hbl := be_le (bk (C 6) (C 0 0) R (2 ^ C 0 0 - 1))
  generalize bk (C 6) (C 0 0) R (2 ^ C 0 0 - 1) = B at *
  have big : ∀ q, 8 * C 0 0 ≤ q → q < 40 → be B q = 0 := by
    intro q h1 h2
    have := bq (q / 8) (q % 8) (by omega) (by omega)
    rw [show 8 * (q / 8) + q % 8 = q by omega, if_neg (by omega)] at this
    exact this
  have cnb : ∀ d, 8 * C 0 0 + d ≤ 40 → cn (be B) (8 * C 0 0 + d) = cn (be B) (8 * C 0 0) := by
    intro d
    induction d with
    | zero => intro _; rfl
    | succ d ih =>
      intro h
      show cn (be B) (8 * C 0 0 + d) + be B (8 * C 0 0 + d) = _
      rw [ih (by omega), big _ (by omega) (by omega), Nat.add_zero]
  have cnt40 : cn (be B) (8 * C 0 0) = ct B := by
    have := cnb (40 - 8 * C 0 0) (by omega)
    rw [show 8 * C 0 0 + (40 - 8 * C 0 0) = 40 by omega, r40.1] at this
    exact this.symm
  unfold wp_M_layBack
  have key : ∀ f q M', q + f = 8 * C 0 0 → Sm (fun a _ => a = 337) M M' → (∀ p, p < q → be B p = 1 → gi M' 337 (cn (be B) p) = nI p) → lp_M_layBack_4 Q (f + 1) (nI (cn (be B) q)) (nI q) M' := by
    intro f
    induction f with
    | zero =>
      intro q M' hq s hI
      have hq : q = 8 * C 0 0 := by omega
      subst hq
      show k_M_layBack_4 Q _ _ _ M'
      unfold k_M_layBack_4
      simp (disch := omega) only [fa_lit0, xI_le_T, xI_le_F, xI_lt_T, xI_lt_F, xI_eq_T, xI_eq_F, xN_a, xN_b, xN_c, xN_d, xN_e, xN_f, xN_g, xN_h, xI_add, xI_mul, xI_sub, xI_tn, xI_in, xI_ofNat, gi_si_eq, gi_n1, gi_n2, gl_sl_eq, gl_n1, gl_n2, gi_sl, gl_si, forall_eq, true_implies, false_implies, not_true_eq_false, not_false_eq_true, and_true, true_and, implies_true, and_self, (s.g (a := 312) (b := 10) (by omega)).trans hW.2.1]
      rw [cnt40]
      refine hQ M' s (fun p hp hb => ?_)
      by_cases c : p < 8 * C 0 0
      · exact hI p c hb
      · rw [big p (by omega) hp] at hb; omega
    | succ f ih =>
      intro q M' hq s hI
      show k_M_layBack_4 Q _ _ _ M'
      unfold k_M_layBack_4
      have w' : MW C M' := hW.sm s (fun a b w => by omega)
      have hi : q / 8 < C 0 0 := by omega
      have bb := bq (q / 8) (q % 8) (by omega) (by omega)
      rw [show 8 * (q / 8) + q % 8 = q by omega] at bb
      have cq : cn (be B) (q + 1) = cn (be B) q + be B q := rfl
      have ih0 : be B q = 0 → lp_M_layBack_4 Q (f + 1) (nI (cn (be B) q)) (nI (q + 1)) M' := by
        intro z
        have := ih (q + 1) M' (by omega) s (fun p hp hb => by
          by_cases d : p = q
          · subst d; omega
          · exact hI p (by omega) hb)
        rw [cq, z, Nat.add_zero] at this
        exact this
      have q8 : q - q / 8 * 8 = q % 8 := by omega
      simp (disch := omega) only [fa_lit0, xI_le_T, xI_le_F, xI_lt_T, xI_lt_F, xI_eq_T, xI_eq_F, xN_a, xN_b, xN_c, xN_d, xN_e, xN_f, xN_g, xN_h, xI_add, xI_mul, xI_sub, xI_tn, xI_in, xI_ofNat, gi_si_eq, gi_n1, gi_n2, gl_sl_eq, gl_n1, gl_n2, gi_sl, gl_si, forall_eq, true_implies, false_implies, not_true_eq_false, not_false_eq_true, and_true, true_and, implies_true, and_self, w'.2.1, xI_div, q8]
      by_cases c : C 0 0 ≤ q % 8
      · have z : be B q = 0 := by rw [bb, if_neg (by omega)]
        simp (disch := omega) only [fa_lit0, xI_le_T, xI_le_F, xI_lt_T, xI_lt_F, xI_eq_T, xI_eq_F, xN_a, xN_b, xN_c, xN_d, xN_e, xN_f, xN_g, xN_h, xI_add, xI_mul, xI_sub, xI_tn, xI_in, xI_ofNat, gi_si_eq, gi_n1, gi_n2, gl_sl_eq, gl_n1, gl_n2, gi_sl, gl_si, forall_eq, true_implies, false_implies, not_true_eq_false, not_false_eq_true, and_true, true_and, implies_true, and_self, k_M_layBack_75]
        exact ih0 z
      · have e6 := (w'.2.2.2 (q / 8) hi).2.2.2.2.2
        have l6 := lt_32 (hWW (q / 8) hi).1 hn
        have r1 := (s.g (a := 339) (b := q / 8) (by omega)).trans (hR (q / 8) hi)
        have r2 := (s.g (a := 339) (b := q % 8) (by omega)).trans (hR (q % 8) (by omega))
        have b1 := hp.1 (q / 8) hi
        have b2 := hp.1 (q % 8) (by omega)
        simp (disch := omega) only [fa_lit0, xI_le_T, xI_le_F, xI_lt_T, xI_lt_F, xI_eq_T, xI_eq_F, xN_a, xN_b, xN_c, xN_d, xN_e, xN_f, xN_g, xN_h, xI_add, xI_mul, xI_sub, xI_tn, xI_in, xI_ofNat, gi_si_eq, gi_n1, gi_n2, gl_sl_eq, gl_n1, gl_n2, gi_sl, gl_si, forall_eq, true_implies, false_implies, not_true_eq_false, not_false_eq_true, and_true, true_and, implies_true, and_self, e6]
        refine M_has l6 (by omega) ?_
        by_cases d : C 6 (q / 8) / 2 ^ (q % 8) % 2 = 1
        · simp (disch := omega) only [fa_lit0, xI_le_T, xI_le_F, xI_lt_T, xI_lt_F, xI_eq_T, xI_eq_F, xN_a, xN_b, xN_c, xN_d, xN_e, xN_f, xN_g, xN_h, xI_add, xI_mul, xI_sub, xI_tn, xI_in, xI_ofNat, gi_si_eq, gi_n1, gi_n2, gl_sl_eq, gl_n1, gl_n2, gi_sl, gl_si, forall_eq, true_implies, false_implies, not_true_eq_false, not_false_eq_true, and_true, true_and, implies_true, and_self, d, r1, r2]
          by_cases e : R (q % 8) ≤ R (q / 8)
          · have z : be B q = 0 := by rw [bb, if_neg (by omega)]
            simp (disch := omega) only [fa_lit0, xI_le_T, xI_le_F, xI_lt_T, xI_lt_F, xI_eq_T, xI_eq_F, xN_a, xN_b, xN_c, xN_d, xN_e, xN_f, xN_g, xN_h, xI_add, xI_mul, xI_sub, xI_tn, xI_in, xI_ofNat, gi_si_eq, gi_n1, gi_n2, gl_sl_eq, gl_n1, gl_n2, gi_sl, gl_si, forall_eq, true_implies, false_implies, not_true_eq_false, not_false_eq_true, and_true, true_and, implies_true, and_self, k_M_layBack_75]
            exact ih0 z
          · have z : be B q = 1 := by rw [bb, if_pos ⟨hi, by omega, d, e⟩]
            have mo := cn_mo (be B) (39 - q) (q + 1)
            rw [show q + 1 + (39 - q) = 40 by omega, r40.1, cq, z] at mo
            simp (disch := omega) only [fa_lit0, xI_le_T, xI_le_F, xI_lt_T, xI_lt_F, xI_eq_T, xI_eq_F, xN_a, xN_b, xN_c, xN_d, xN_e, xN_f, xN_g, xN_h, xI_add, xI_mul, xI_sub, xI_tn, xI_in, xI_ofNat, gi_si_eq, gi_n1, gi_n2, gl_sl_eq, gl_n1, gl_n2, gi_sl, gl_si, forall_eq, true_implies, false_implies, not_true_eq_false, not_false_eq_true, and_true, true_and, implies_true, and_self, k_M_layBack_75]
            have := ih (q + 1) (si M' 337 (cn (be B) q) (nI q)) (by omega) (s.wi rfl) (fun p hp hb => by
              by_cases d : p = q
              · subst d; rw [gi_si_eq]
              · have : cn (be B) (p + 1) ≤ cn (be B) q := by
                  have := cn_mo (be B) (q - (p + 1)) (p + 1)
                  rwa [show p + 1 + (q - (p + 1)) = q by omega] at this
                have e : cn (be B) (p + 1) = cn (be B) p + be B p := rfl
                rw [gi_n2 (by omega)]
                exact hI p (by omega) hb)
            rw [cq, z] at this
            exact this
        · have d0 : C 6 (q / 8) / 2 ^ (q % 8) % 2 = 0 := by omega
          have z : be B q = 0 := by rw [bb, if_neg (by omega)]
          simp (disch := omega) only [fa_lit0, xI_le_T, xI_le_F, xI_lt_T, xI_lt_F, xI_eq_T, xI_eq_F, xN_a, xN_b, xN_c, xN_d, xN_e, xN_f, xN_g, xN_h, xI_add, xI_mul, xI_sub, xI_tn, xI_in, xI_ofNat, gi_si_eq, gi_n1, gi_n2, gl_sl_eq, gl_n1, gl_n2, gi_sl, gl_si, forall_eq, true_implies, false_implies, not_true_eq_false, not_false_eq_true, and_true, true_and, implies_true, and_self, d0, k_M_layBack_75]
          exact ih0 z
  exact ⟨8 * C 0 0 + 1, key (8 * C 0 0) 0 M (by omega) (Sm.refl _ M) (fun p hp => by omega)⟩
theorem M_ahead {B B' : Nat → Nat} {M : Mm} (h20 : ct B ≤ 20) (he : ct B = ct B') (h7 : LI M 337 B) (h8 : LI M 338 B') {Q : Int32 → Mm → Prop} (h1 : vl B' < vl B → Q (nI 1) M) (h0 : ¬ vl B' < vl B → Q (nI 0) M) : wp_M_isAhead (nI (ct B)) M Q := by
  have r40 := row40 B
  have r40' := row40 B'
  unfold wp_M_isAhead
  have run : ∀ (K : Int32 → Mm → Prop) t0, t0 ≤ ct B → (∀ t, t < t0 → gi M 337 t = gi M 338 t) → (t0 = ct B ∨ ¬ gi M 337 t0 = gi M 338 t0) → K (nI t0) M → ∀ f t, t + f = t0 → lp_M_isAhead_2 (nI (ct B)) Q K (f + 1) (nI t) M := by
    intro K t0 ht0 heq hend hK f
    induction f with
    | zero =>
      intro t ht
      have : t = t0 := by omega
      subst this
      show k_M_isAhead_2 (nI (ct B)) Q _ K _ M
      unfold k_M_isAhead_2
      by_cases c : t = ct B
      · subst c
        simp (disch := omega) only [fa_lit0, xI_le_T, xI_le_F, xI_lt_T, xI_lt_F, xI_eq_T, xI_eq_F, xN_a, xN_b, xN_c, xN_d, xN_e, xN_f, xN_g, xN_h, xI_add, xI_mul, xI_sub, xI_tn, xI_in, xI_ofNat, gi_si_eq, gi_n1, gi_n2, gl_sl_eq, gl_n1, gl_n2, gi_sl, gl_si, forall_eq, true_implies, false_implies, not_true_eq_false, not_false_eq_true, and_true, true_and, implies_true, and_self]
        exact hK
      · have d : ¬ gi M 337 t = gi M 338 t := by
          rcases hend with w | w
          · exact absurd w c
          · exact w
        simp (disch := omega) only [fa_lit0, xI_le_T, xI_le_F, xI_lt_T, xI_lt_F, xI_eq_T, xI_eq_F, xN_a, xN_b, xN_c, xN_d, xN_e, xN_f, xN_g, xN_h, xI_add, xI_mul, xI_sub, xI_tn, xI_in, xI_ofNat, gi_si_eq, gi_n1, gi_n2, gl_sl_eq, gl_n1, gl_n2, gi_sl, gl_si, forall_eq, true_implies, false_implies, not_true_eq_false, not_false_eq_true, and_true, true_and, implies_true, and_self]
        exact ⟨fun _ => hK, fun w => absurd w d⟩
    | succ f ih =>
      intro t ht
      show k_M_isAhead_2 (nI (ct B)) Q _ K _ M
      unfold k_M_isAhead_2
      simp (disch := omega) only [fa_lit0, xI_le_T, xI_le_F, xI_lt_T, xI_lt_F, xI_eq_T, xI_eq_F, xN_a, xN_b, xN_c, xN_d, xN_e, xN_f, xN_g, xN_h, xI_add, xI_mul, xI_sub, xI_tn, xI_in, xI_ofNat, gi_si_eq, gi_n1, gi_n2, gl_sl_eq, gl_n1, gl_n2, gi_sl, gl_si, forall_eq, true_implies, false_implies, not_true_eq_false, not_false_eq_true, and_true, true_and, implies_true, and_self]
      refine ⟨fun w => absurd (heq t (by omega)) w, fun _ => ?_⟩
      exact ih (t + 1) (by omega)
  rcases fst_df (be B) (be B') 40 with h | ⟨q, hq, hb, hne⟩
  · have ev : vl B = vl B' := by rw [← r40.2, ← r40'.2]; exact (cn_eq 40 h).2
    refine ⟨ct B + 1, run _ (ct B) (Nat.le_refl _) (fun t ht => ?_) (Or.inl rfl) ?_ (ct B) 0 (by omega)⟩
    · obtain ⟨p, p1, p2, p3⟩ := cn_sj (be_le B) 40 t (by rw [r40.1]; exact ht)
      have e := (cn_eq p (fun x hx => h x (by omega))).1
      have a1 := h7 p p1 p2
      have a2 := h8 p p1 (by rw [← h p p1]; exact p2)
      rw [p3] at a1
      rw [← e, p3] at a2
      rw [a1, a2]
    · unfold k_M_isAhead_28
      simp (disch := omega) only [fa_lit0, xI_le_T, xI_le_F, xI_lt_T, xI_lt_F, xI_eq_T, xI_eq_F, xN_a, xN_b, xN_c, xN_d, xN_e, xN_f, xN_g, xN_h, xI_add, xI_mul, xI_sub, xI_tn, xI_in, xI_ofNat, gi_si_eq, gi_n1, gi_n2, gl_sl_eq, gl_n1, gl_n2, gi_sl, gl_si, forall_eq, true_implies, false_implies, not_true_eq_false, not_false_eq_true, and_true, true_and, implies_true, and_self]
      exact h0 (by omega)
  · have e := (cn_eq q hb).1
    have heq : ∀ t, t < cn (be B) q → gi M 337 t = gi M 338 t := by
      intro t ht
      obtain ⟨p, p1, p2, p3⟩ := cn_sj (be_le B) q t ht
      have e := (cn_eq p (fun x hx => hb x (by omega))).1
      have a1 := h7 p (by omega) p2
      have a2 := h8 p (by omega) (by rw [← hb p p1]; exact p2)
      rw [p3] at a1
      rw [← e, p3] at a2
      rw [a1, a2]
    have l1 := be_le B q
    have l2 := be_le B' q
    have s1 : cn (be B) (q + 1) = cn (be B) q + be B q := rfl
    have s2 : cn (be B') (q + 1) = cn (be B') q + be B' q := rfl
    have m1 := cn_mo (be B) (39 - q) (q + 1)
    have m2 := cn_mo (be B') (39 - q) (q + 1)
    rw [show q + 1 + (39 - q) = 40 by omega] at m1 m2
    rw [r40.1] at m1
    rw [r40'.1] at m2
    rcases (show (be B q = 1 ∧ be B' q = 0) ∨ (be B' q = 1 ∧ be B q = 0) by omega) with ⟨w1, w2⟩ | ⟨w1, w2⟩
    · have lt := vs_lt (be_le B) (be_le B') hq hb w1 w2
      rw [r40.2, r40'.2] at lt
      have a1 := h7 q hq w1
      obtain ⟨p, p1, p2, p3, p4⟩ := cn_nx (be_le B') (40 - q) q (by rw [show q + (40 - q) = 40 by omega, r40'.1]; omega)
      have pq : p ≠ q := fun v => by subst v; omega
      have a2 := h8 p (by omega) p3
      rw [p4, ← e] at a2
      refine ⟨cn (be B) q + 1, run _ (cn (be B) q) (by omega) heq (Or.inr ?_) ?_ (cn (be B) q) 0 (by omega)⟩
      · rw [a1, a2]
        simp (disch := omega) only [fa_lit0, xI_le_T, xI_le_F, xI_lt_T, xI_lt_F, xI_eq_T, xI_eq_F, xN_a, xN_b, xN_c, xN_d, xN_e, xN_f, xN_g, xN_h, xI_add, xI_mul, xI_sub, xI_tn, xI_in, xI_ofNat, gi_si_eq, gi_n1, gi_n2, gl_sl_eq, gl_n1, gl_n2, gi_sl, gl_si, forall_eq, true_implies, false_implies, not_true_eq_false, not_false_eq_true, and_true, true_and, implies_true, and_self]
      · unfold k_M_isAhead_28
        simp (disch := omega) only [fa_lit0, xI_le_T, xI_le_F, xI_lt_T, xI_lt_F, xI_eq_T, xI_eq_F, xN_a, xN_b, xN_c, xN_d, xN_e, xN_f, xN_g, xN_h, xI_add, xI_mul, xI_sub, xI_tn, xI_in, xI_ofNat, gi_si_eq, gi_n1, gi_n2, gl_sl_eq, gl_n1, gl_n2, gi_sl, gl_si, forall_eq, true_implies, false_implies, not_true_eq_false, not_false_eq_true, and_true, true_and, implies_true, and_self, a1, a2]
        exact h1 lt
    · have lt := vs_lt (be_le B') (be_le B) hq (fun p hp => (hb p hp).symm) w1 w2
      rw [r40.2, r40'.2] at lt
      have a2 := h8 q hq w1
      rw [← e] at a2
      obtain ⟨p, p1, p2, p3, p4⟩ := cn_nx (be_le B) (40 - q) q (by rw [show q + (40 - q) = 40 by omega, r40.1]; omega)
      have pq : p ≠ q := fun v => by subst v; omega
      have a1 := h7 p (by omega) p3
      rw [p4] at a1
      refine ⟨cn (be B) q + 1, run _ (cn (be B) q) (by omega) heq (Or.inr ?_) ?_ (cn (be B) q) 0 (by omega)⟩
      · rw [a1, a2]
        simp (disch := omega) only [fa_lit0, xI_le_T, xI_le_F, xI_lt_T, xI_lt_F, xI_eq_T, xI_eq_F, xN_a, xN_b, xN_c, xN_d, xN_e, xN_f, xN_g, xN_h, xI_add, xI_mul, xI_sub, xI_tn, xI_in, xI_ofNat, gi_si_eq, gi_n1, gi_n2, gl_sl_eq, gl_n1, gl_n2, gi_sl, gl_si, forall_eq, true_implies, false_implies, not_true_eq_false, not_false_eq_true, and_true, true_and, implies_true, and_self]
      · unfold k_M_isAhead_28
        simp (disch := omega) only [fa_lit0, xI_le_T, xI_le_F, xI_lt_T, xI_lt_F, xI_eq_T, xI_eq_F, xN_a, xN_b, xN_c, xN_d, xN_e, xN_f, xN_g, xN_h, xI_add, xI_mul, xI_sub, xI_tn, xI_in, xI_ofNat, gi_si_eq, gi_n1, gi_n2, gl_sl_eq, gl_n1, gl_n2, gi_sl, gl_si, forall_eq, true_implies, false_implies, not_true_eq_false, not_false_eq_true, and_true, true_and, implies_true, and_self, a1, a2]
        exact h0 (by omega)
/-- the best so far -/
def MB (M : Mm) (c : Nat × Nat) : Prop := (c = (100, 0) ∧ gi M 312 42 = nI 100) ∨ ∃ B : Nat → Nat, ct B ≤ 20 ∧ c = (ct B, vl B) ∧ gi M 312 42 = nI (ct B) ∧ LI M 338 B
abbrev leP (c c' : Nat × Nat) : Prop := c.1 < c'.1 ∨ (c.1 = c'.1 ∧ c'.2 ≤ c.2)
def SO (a b : Nat) : Prop := (a = 312 ∧ b = 42) ∨ a = 337 ∨ a = 338 ∨ a = 339
theorem MB.sm {M M' : Mm} {c : Nat × Nat} {S : Nat → Nat → Prop} (h : MB M c) (s : Sm S M M') (q1 : ¬ S 312 42) (q2 : ∀ b, ¬ S 338 b) : MB M' c := by
  rcases h with ⟨h1, h2⟩ | ⟨B, h1, h2, h3, h4⟩
  · exact Or.inl ⟨h1, (s.g q1).trans h2⟩
  · exact Or.inr ⟨B, h1, h2, (s.g q1).trans h3, fun q hq hb => (s.g (q2 _)).trans (h4 q hq hb)⟩
theorem M_keepB {RC : Int32 → Int32 → Mm → (Mm → Prop) → Prop} {a1 a2 : Int32} {B : Nat → Nat} {M : Mm} (h20 : ct B ≤ 20) (h7 : LI M 337 B) {Q : Mm → Prop} (hQ : ∀ M', Sm (fun a b => (a = 312 ∧ b = 42) ∨ a = 338) M M' → MB M' (ct B, vl B) → Q M') : k_M_layOrders_37 RC a1 a2 Q (nI (ct B)) M := by
  unfold k_M_layOrders_37
  have r40 := row40 B
  have key : ∀ f v M', v + f = ct B → Sm (fun a b => (a = 312 ∧ b = 42) ∨ a = 338) M M' → gi M' 312 42 = nI (ct B) → (∀ t, t < v → gi M' 338 t = gi M 337 t) → lp_M_layOrders_45 RC a1 a2 Q (f + 1) (nI (ct B)) (nI v) M' := by
    intro f
    induction f with
    | zero =>
      intro v M' hv s e hI
      show k_M_layOrders_45 RC a1 a2 Q _ _ _ M'
      unfold k_M_layOrders_45
      simp (disch := omega) only [fa_lit0, xI_le_T, xI_le_F, xI_lt_T, xI_lt_F, xI_eq_T, xI_eq_F, xN_a, xN_b, xN_c, xN_d, xN_e, xN_f, xN_g, xN_h, xI_add, xI_mul, xI_sub, xI_tn, xI_in, xI_ofNat, gi_si_eq, gi_n1, gi_n2, gl_sl_eq, gl_n1, gl_n2, gi_sl, gl_si, forall_eq, true_implies, false_implies, not_true_eq_false, not_false_eq_true, and_true, true_and, implies_true, and_self]
      refine hQ M' s (Or.inr ⟨B, h20, rfl, e, fun q hq hb => ?_⟩)
      have cq : cn (be B) (q + 1) = cn (be B) q + be B q := rfl
      have mo := cn_mo (be B) (39 - q) (q + 1)
      rw [show q + 1 + (39 - q) = 40 by omega, r40.1] at mo
      rw [hI _ (by omega)]
      exact h7 q hq hb
    | succ f ih =>
      intro v M' hv s e hI
      show k_M_layOrders_45 RC a1 a2 Q _ _ _ M'
      unfold k_M_layOrders_45
      have e7 := s.g (a := 337) (b := v) (by omega)
      simp (disch := omega) only [fa_lit0, xI_le_T, xI_le_F, xI_lt_T, xI_lt_F, xI_eq_T, xI_eq_F, xN_a, xN_b, xN_c, xN_d, xN_e, xN_f, xN_g, xN_h, xI_add, xI_mul, xI_sub, xI_tn, xI_in, xI_ofNat, gi_si_eq, gi_n1, gi_n2, gl_sl_eq, gl_n1, gl_n2, gi_sl, gl_si, forall_eq, true_implies, false_implies, not_true_eq_false, not_false_eq_true, and_true, true_and, implies_true, and_self, e7]
      refine ih (v + 1) _ (by omega) (s.wi (Or.inr rfl)) ((gi_n1 (by omega)).trans e) (fun t ht => ?_)
      by_cases c : t = v
      · subst c; rw [gi_si_eq]
      · rw [gi_n2 c]; exact hI t (by omega)
  exact ⟨ct B + 1, key (ct B) 0 _ (by omega) ((Sm.refl (fun a b => (a = 312 ∧ b = 42) ∨ a = 338) M).wi (Or.inl ⟨rfl, rfl⟩)) (gi_si_eq _ _ _ _) (fun t ht => by omega)⟩
theorem lpLO (RC : Int32 → Int32 → Mm → (Mm → Prop) → Prop) (a1 a2 : Int32) (Q : Mm → Prop) (k : Nat) (v : Int32) (M : Mm) : lp_M_layOrders_74 RC a1 a2 Q (k + 1) v M = k_M_layOrders_74 RC a1 a2 Q (lp_M_layOrders_74 RC a1 a2 Q k) v M := rfl
theorem M_orders {C : Nat → Nat → Nat} (hC : OkC C) : ∀ d a T (R : Nat → Nat) (M : Mm) (c : Nat × Nat) (Q : Mm → Prop), a ≤ C 0 0 → C 0 0 < a + d → MW C M → (∀ i, i < a → gi M 339 i = nI (R i) ∧ R i < C 0 0) → (∀ i j, i < a → j < a → i ≠ j → R i ≠ R j) → T < 32 → (∀ v, v < C 0 0 → (T / 2 ^ v % 2 = 1 ↔ ∃ i, i < a ∧ R i = v)) → MB M c → (∀ M' c', Sm SO M M' → (∀ i, i < a → gi M' 339 i = gi M 339 i) → MB M' c' → leP c' c → (∀ R', (∀ i, i < a → R' i = R i) → prm (C 0 0) R' → leP c' (ct (bk (C 6) (C 0 0) R' (2 ^ C 0 0 - 1)), vl (bk (C 6) (C 0 0) R' (2 ^ C 0 0 - 1)))) → (c' = c ∨ ∃ R', prm (C 0 0) R' ∧ c' = (ct (bk (C 6) (C 0 0) R' (2 ^ C 0 0 - 1)), vl (bk (C 6) (C 0 0) R' (2 ^ C 0 0 - 1)))) → Q M') → wp_M_layOrders d (nI a) (nI T) M Q := by
  have hn := hC.1
  have hp5 := p5 hn
  have hp0 : 0 < 2 ^ C 0 0 := Nat.two_pow_pos _
  have hWW : ∀ i, i < C 0 0 → C 6 i < 2 ^ C 0 0 ∧ C 6 i / 2 ^ i % 2 = 0 := fun i hi => (hC.2.2 i hi).2.2.2.2.2
  intro d
  induction d with
  | zero => intro a T R M c Q h1 h2; omega
  | succ d ih =>
    intro a T R M c Q ha hd hW hR hinj hT hTb hM hQ
    show wpB_M_layOrders (wp_M_layOrders d) (nI a) (nI T) M Q
    unfold wpB_M_layOrders
    by_cases ca : a = C 0 0
    · subst ca
      simp (disch := omega) only [fa_lit0, xI_le_T, xI_le_F, xI_lt_T, xI_lt_F, xI_eq_T, xI_eq_F, xN_a, xN_b, xN_c, xN_d, xN_e, xN_f, xN_g, xN_h, xI_add, xI_mul, xI_sub, xI_tn, xI_in, xI_ofNat, gi_si_eq, gi_n1, gi_n2, gl_sl_eq, gl_n1, gl_n2, gi_sl, gl_si, forall_eq, true_implies, false_implies, not_true_eq_false, not_false_eq_true, and_true, true_and, implies_true, and_self, hW.2.1]
      have hp : prm (C 0 0) R := ⟨fun i hi => (hR i hi).2, hinj⟩
      refine M_layB hW (fun i hi => (hR i hi).1) hp (fun M1 s1 h7 => ?_)
      have c20 := bk_20 hn hWW R (S := 2 ^ C 0 0 - 1) (by omega)
      have same : ∀ R', (∀ i, i < C 0 0 → R' i = R i) → ct (bk (C 6) (C 0 0) R' (2 ^ C 0 0 - 1)) = ct (bk (C 6) (C 0 0) R (2 ^ C 0 0 - 1)) ∧ vl (bk (C 6) (C 0 0) R' (2 ^ C 0 0 - 1)) = vl (bk (C 6) (C 0 0) R (2 ^ C 0 0 - 1)) := fun R' h => key_cg (bk_cg hn (by omega) (fun i hi _ => h i hi))
      have sO : Sm SO M M1 := s1.mono (fun a b w => by unfold SO; omega)
      have keep : leP c (ct (bk (C 6) (C 0 0) R (2 ^ C 0 0 - 1)), vl (bk (C 6) (C 0 0) R (2 ^ C 0 0 - 1))) → Q M1 := by
        intro hl
        refine hQ M1 c sO (fun i hi => s1.g (by omega)) (hM.sm s1 (by omega) (fun b => by omega)) (Or.inr ⟨rfl, Nat.le_refl _⟩) (fun R' h1 h2 => ?_) (Or.inl rfl)
        rw [(same R' h1).1, (same R' h1).2]
        exact hl
      have newb : leP (ct (bk (C 6) (C 0 0) R (2 ^ C 0 0 - 1)), vl (bk (C 6) (C 0 0) R (2 ^ C 0 0 - 1))) c → k_M_layOrders_37 (wp_M_layOrders d) (nI (C 0 0)) (nI T) Q (nI (ct (bk (C 6) (C 0 0) R (2 ^ C 0 0 - 1)))) M1 := by
        intro hl
        refine M_keepB c20 h7 (fun M2 s2 hM2 => ?_)
        refine hQ M2 _ (sO.trans (s2.mono (fun a b w => by unfold SO; omega))) (fun i hi => (s2.g (by omega)).trans (s1.g (by omega))) hM2 hl (fun R' h1 h2 => ?_) (Or.inr ⟨R, hp, rfl⟩)
        rw [(same R' h1).1, (same R' h1).2]
        exact Or.inr ⟨rfl, Nat.le_refl _⟩
      generalize bk (C 6) (C 0 0) R (2 ^ C 0 0 - 1) = X at *
      rcases hM with ⟨m1, m2⟩ | ⟨B, m1, m2, m3, m4⟩
      · have e := (s1.g (a := 312) (b := 42) (by omega)).trans m2
        simp (disch := omega) only [fa_lit0, xI_le_T, xI_le_F, xI_lt_T, xI_lt_F, xI_eq_T, xI_eq_F, xN_a, xN_b, xN_c, xN_d, xN_e, xN_f, xN_g, xN_h, xI_add, xI_mul, xI_sub, xI_tn, xI_in, xI_ofNat, gi_si_eq, gi_n1, gi_n2, gl_sl_eq, gl_n1, gl_n2, gi_sl, gl_si, forall_eq, true_implies, false_implies, not_true_eq_false, not_false_eq_true, and_true, true_and, implies_true, and_self, e]
        refine newb ?_
        rw [m1]
        exact Or.inl (by dsimp only; omega)
      · have e := (s1.g (a := 312) (b := 42) (by omega)).trans m3
        have l8 : LI M1 338 B := fun q hq hb => (s1.g (by omega)).trans (m4 q hq hb)
        by_cases k1 : ct X < ct B
        · simp (disch := omega) only [fa_lit0, xI_le_T, xI_le_F, xI_lt_T, xI_lt_F, xI_eq_T, xI_eq_F, xN_a, xN_b, xN_c, xN_d, xN_e, xN_f, xN_g, xN_h, xI_add, xI_mul, xI_sub, xI_tn, xI_in, xI_ofNat, gi_si_eq, gi_n1, gi_n2, gl_sl_eq, gl_n1, gl_n2, gi_sl, gl_si, forall_eq, true_implies, false_implies, not_true_eq_false, not_false_eq_true, and_true, true_and, implies_true, and_self, e]
          refine newb ?_
          rw [m2]
          exact Or.inl k1
        · by_cases k2 : ct X = ct B
          · simp (disch := omega) only [fa_lit0, xI_le_T, xI_le_F, xI_lt_T, xI_lt_F, xI_eq_T, xI_eq_F, xN_a, xN_b, xN_c, xN_d, xN_e, xN_f, xN_g, xN_h, xI_add, xI_mul, xI_sub, xI_tn, xI_in, xI_ofNat, gi_si_eq, gi_n1, gi_n2, gl_sl_eq, gl_n1, gl_n2, gi_sl, gl_si, forall_eq, true_implies, false_implies, not_true_eq_false, not_false_eq_true, and_true, true_and, implies_true, and_self, e]
            refine M_ahead c20 k2 h7 l8 (fun w => ?_) (fun w => ?_)
            · simp (disch := omega) only [fa_lit0, xI_le_T, xI_le_F, xI_lt_T, xI_lt_F, xI_eq_T, xI_eq_F, xN_a, xN_b, xN_c, xN_d, xN_e, xN_f, xN_g, xN_h, xI_add, xI_mul, xI_sub, xI_tn, xI_in, xI_ofNat, gi_si_eq, gi_n1, gi_n2, gl_sl_eq, gl_n1, gl_n2, gi_sl, gl_si, forall_eq, true_implies, false_implies, not_true_eq_false, not_false_eq_true, and_true, true_and, implies_true, and_self]
              refine newb ?_
              rw [m2]
              exact Or.inr ⟨k2, by dsimp only; omega⟩
            · simp (disch := omega) only [fa_lit0, xI_le_T, xI_le_F, xI_lt_T, xI_lt_F, xI_eq_T, xI_eq_F, xN_a, xN_b, xN_c, xN_d, xN_e, xN_f, xN_g, xN_h, xI_add, xI_mul, xI_sub, xI_tn, xI_in, xI_ofNat, gi_si_eq, gi_n1, gi_n2, gl_sl_eq, gl_n1, gl_n2, gi_sl, gl_si, forall_eq, true_implies, false_implies, not_true_eq_false, not_false_eq_true, and_true, true_and, implies_true, and_self]
              refine keep ?_
              rw [m2]
              exact Or.inr ⟨k2.symm, by dsimp only; omega⟩
          · simp (disch := omega) only [fa_lit0, xI_le_T, xI_le_F, xI_lt_T, xI_lt_F, xI_eq_T, xI_eq_F, xN_a, xN_b, xN_c, xN_d, xN_e, xN_f, xN_g, xN_h, xI_add, xI_mul, xI_sub, xI_tn, xI_in, xI_ofNat, gi_si_eq, gi_n1, gi_n2, gl_sl_eq, gl_n1, gl_n2, gi_sl, gl_si, forall_eq, true_implies, false_implies, not_true_eq_false, not_false_eq_true, and_true, true_and, implies_true, and_self, e]
            refine keep ?_
            rw [m2]
            exact Or.inl (by dsimp only; omega)
    · simp (disch := omega) only [fa_lit0, xI_le_T, xI_le_F, xI_lt_T, xI_lt_F, xI_eq_T, xI_eq_F, xN_a, xN_b, xN_c, xN_d, xN_e, xN_f, xN_g, xN_h, xI_add, xI_mul, xI_sub, xI_tn, xI_in, xI_ofNat, gi_si_eq, gi_n1, gi_n2, gl_sl_eq, gl_n1, gl_n2, gi_sl, gl_si, forall_eq, true_implies, false_implies, not_true_eq_false, not_false_eq_true, and_true, true_and, implies_true, and_self, hW.2.1]
      have key : ∀ f v M' c', v + f = C 0 0 → Sm SO M M' → (∀ i, i < a → gi M' 339 i = gi M 339 i) → MB M' c' → leP c' c → (∀ R', (∀ i, i < a → R' i = R i) → prm (C 0 0) R' → R' a < v → leP c' (ct (bk (C 6) (C 0 0) R' (2 ^ C 0 0 - 1)), vl (bk (C 6) (C 0 0) R' (2 ^ C 0 0 - 1)))) → (c' = c ∨ ∃ R', prm (C 0 0) R' ∧ c' = (ct (bk (C 6) (C 0 0) R' (2 ^ C 0 0 - 1)), vl (bk (C 6) (C 0 0) R' (2 ^ C 0 0 - 1)))) → lp_M_layOrders_74 (wp_M_layOrders d) (nI a) (nI T) Q (f + 1) (nI v) M' := by
        intro f
        induction f with
        | zero =>
          intro v M' c' hv s h9 hM' hle hall hex
          rw [lpLO]
          unfold k_M_layOrders_74
          have w' : MW C M' := hW.sm s (fun a b w => by unfold SO; omega)
          simp (disch := omega) only [fa_lit0, xI_le_T, xI_le_F, xI_lt_T, xI_lt_F, xI_eq_T, xI_eq_F, xN_a, xN_b, xN_c, xN_d, xN_e, xN_f, xN_g, xN_h, xI_add, xI_mul, xI_sub, xI_tn, xI_in, xI_ofNat, gi_si_eq, gi_n1, gi_n2, gl_sl_eq, gl_n1, gl_n2, gi_sl, gl_si, forall_eq, true_implies, false_implies, not_true_eq_false, not_false_eq_true, and_true, true_and, implies_true, and_self, w'.2.1]
          exact hQ M' c' s h9 hM' hle (fun R' h1 h2 => hall R' h1 h2 (by have := h2.1 a (by omega); omega)) hex
        | succ f ihf =>
          intro v M' c' hv s h9 hM' hle hall hex
          rw [lpLO]
          unfold k_M_layOrders_74
          have w' : MW C M' := hW.sm s (fun a b w => by unfold SO; omega)
          simp (disch := omega) only [fa_lit0, xI_le_T, xI_le_F, xI_lt_T, xI_lt_F, xI_eq_T, xI_eq_F, xN_a, xN_b, xN_c, xN_d, xN_e, xN_f, xN_g, xN_h, xI_add, xI_mul, xI_sub, xI_tn, xI_in, xI_ofNat, gi_si_eq, gi_n1, gi_n2, gl_sl_eq, gl_n1, gl_n2, gi_sl, gl_si, forall_eq, true_implies, false_implies, not_true_eq_false, not_false_eq_true, and_true, true_and, implies_true, and_self, w'.2.1]
          refine M_has hT (by omega) ?_
          by_cases cv : T / 2 ^ v % 2 = 1
          · simp (disch := omega) only [fa_lit0, xI_le_T, xI_le_F, xI_lt_T, xI_lt_F, xI_eq_T, xI_eq_F, xN_a, xN_b, xN_c, xN_d, xN_e, xN_f, xN_g, xN_h, xI_add, xI_mul, xI_sub, xI_tn, xI_in, xI_ofNat, gi_si_eq, gi_n1, gi_n2, gl_sl_eq, gl_n1, gl_n2, gi_sl, gl_si, forall_eq, true_implies, false_implies, not_true_eq_false, not_false_eq_true, and_true, true_and, implies_true, and_self, cv, k_M_layOrders_109]
            refine ihf (v + 1) M' c' (by omega) s h9 hM' hle (fun R' h1 h2 h3 => ?_) hex
            by_cases e : R' a = v
            · obtain ⟨i, hi, hi2⟩ := (hTb v (by omega)).mp cv
              exact absurd ((h1 i hi).trans (hi2.trans e.symm)) (h2.2 i a (by omega) (by omega) (by omega))
            · exact hall R' h1 h2 (by omega)
          · have cv0 : T / 2 ^ v % 2 = 0 := by omega
            simp (disch := omega) only [fa_lit0, xI_le_T, xI_le_F, xI_lt_T, xI_lt_F, xI_eq_T, xI_eq_F, xN_a, xN_b, xN_c, xN_d, xN_e, xN_f, xN_g, xN_h, xI_add, xI_mul, xI_sub, xI_tn, xI_in, xI_ofNat, gi_si_eq, gi_n1, gi_n2, gl_sl_eq, gl_n1, gl_n2, gi_sl, gl_si, forall_eq, true_implies, false_implies, not_true_eq_false, not_false_eq_true, and_true, true_and, implies_true, and_self, cv0, k_M_layOrders_109, bset_or T hT v (show v < 5 by omega)]
            have s1 : Sm SO M' (si M' 339 a (nI v)) := (Sm.refl SO M').wi (Or.inr (Or.inr (Or.inr rfl)))
            have hbl := bset_lt T hT v (by omega) 1 (by omega)
            have fresh : ∀ i, i < a → R i ≠ v := fun i hi w => cv ((hTb v (by omega)).mpr ⟨i, hi, w⟩)
            refine ih (a + 1) (bset T v 1) (up R a v) (si M' 339 a (nI v)) c' _ (by omega) (by omega) (w'.sm s1 (fun a b w => by unfold SO; omega)) (fun i hi => ?_) (fun i j hi hj hne => ?_) hbl (fun u hu => ?_) (hM'.sm (S := fun a _ => a = 339) ((Sm.refl _ M').wi rfl) (by omega) (fun b => by omega)) (fun M2 c2 s2 h92 hM2 hle2 hall2 hex2 => ?_)
            · by_cases e : i = a
              · subst e
                rw [gi_si_eq, up_eq]
                exact ⟨rfl, by omega⟩
              · rw [gi_n2 e, up_ne e, h9 i (by omega)]
                exact hR i (by omega)
            · by_cases e : i = a
              · subst e
                rw [up_eq, up_ne (Ne.symm hne)]
                exact Ne.symm (fresh j (by omega))
              · by_cases e2 : j = a
                · subst e2
                  rw [up_eq, up_ne e]
                  exact fresh i (by omega)
                · rw [up_ne e, up_ne e2]
                  exact hinj i j (by omega) (by omega) hne
            · rw [bset_bit T hT v (by omega) 1 (by omega) u (by omega)]
              by_cases e : u = v
              · subst e
                rw [if_pos rfl]
                exact ⟨fun _ => ⟨a, by omega, up_eq _ _ _⟩, fun _ => rfl⟩
              · rw [if_neg e, hTb u hu]
                constructor
                · rintro ⟨i, hi, hi2⟩
                  exact ⟨i, by omega, by rw [up_ne (by omega)]; exact hi2⟩
                · rintro ⟨i, hi, hi2⟩
                  by_cases e2 : i = a
                  · subst e2
                    rw [up_eq] at hi2
                    exact absurd hi2.symm e
                  · rw [up_ne e2] at hi2
                    exact ⟨i, by omega, hi2⟩
            · refine ihf (v + 1) M2 c2 (by omega) ((s.trans s1).trans s2) (fun i hi => ?_) hM2 ?_ (fun R' h1 h2 h3 => ?_) ?_
              · rw [h92 i (by omega), gi_n2 (by omega), h9 i hi]
              · unfold leP at *; omega
              · by_cases e : R' a = v
                · refine hall2 R' (fun i hi => ?_) h2
                  by_cases e2 : i = a
                  · subst e2; rw [up_eq, e]
                  · rw [up_ne e2]; exact h1 i (by omega)
                · have := hall R' h1 h2 (by omega)
                  unfold leP at *
                  omega
              · rcases hex2 with w | w
                · rw [w]; exact hex
                · exact Or.inr w
      exact ⟨C 0 0 + 1, key (C 0 0) 0 M c (by omega) (Sm.refl _ M) (fun i hi => rfl) hM (Or.inr ⟨rfl, Nat.le_refl _⟩) (fun R' _ _ h3 => by omega) (Or.inl rfl)⟩
/-- a list goes into a row -/
theorem M_layRow {r k a2 n2 : Nat} {M : Mm} (hr : r < 6) (hk : k ≤ n2) (h40 : n2 ≤ 40) (h2 : a2 ≠ 314 ∧ a2 ≠ 315) {Q : Mm → Prop} (hQ : ∀ M', Sm (fun a b => (a = 314 ∧ b = r) ∨ (a = 315 ∧ 40 * r ≤ b ∧ b < 40 * r + 40)) M M' → gi M' 314 r = nI k → (∀ t, t < k → gi M' 315 (40 * r + t) = gi M a2 t) → Q M') : wp_M_layRow (nI r) a2 n2 (nI k) M Q := by
  unfold wp_M_layRow
  simp (disch := omega) only [fa_lit0, xI_le_T, xI_le_F, xI_lt_T, xI_lt_F, xI_eq_T, xI_eq_F, xN_a, xN_b, xN_c, xN_d, xN_e, xN_f, xN_g, xN_h, xI_add, xI_mul, xI_sub, xI_tn, xI_in, xI_ofNat, gi_si_eq, gi_n1, gi_n2, gl_sl_eq, gl_n1, gl_n2, gi_sl, gl_si, forall_eq, true_implies, false_implies, not_true_eq_false, not_false_eq_true, and_true, true_and, implies_true, and_self]
  have key : ∀ f v M', v + f = 40 → Sm (fun a b => (a = 314 ∧ b = r) ∨ (a = 315 ∧ 40 * r ≤ b ∧ b < 40 * r + 40)) M M' → gi M' 314 r = nI k → (∀ t, t < k → t < v → gi M' 315 (40 * r + t) = gi M a2 t) → lp_M_layRow_10 (nI r) a2 n2 (nI k) Q (f + 1) (nI v) M' := by
    intro f
    induction f with
    | zero =>
      intro v M' hv s e hI
      have : v = 40 := by omega
      subst this
      show k_M_layRow_10 (nI r) a2 n2 (nI k) Q _ _ M'
      unfold k_M_layRow_10
      simp (disch := omega) only [fa_lit0, xI_le_T, xI_le_F, xI_lt_T, xI_lt_F, xI_eq_T, xI_eq_F, xN_a, xN_b, xN_c, xN_d, xN_e, xN_f, xN_g, xN_h, xI_add, xI_mul, xI_sub, xI_tn, xI_in, xI_ofNat, gi_si_eq, gi_n1, gi_n2, gl_sl_eq, gl_n1, gl_n2, gi_sl, gl_si, forall_eq, true_implies, false_implies, not_true_eq_false, not_false_eq_true, and_true, true_and, implies_true, and_self]
      exact hQ M' s e (fun t ht => hI t ht (by omega))
    | succ f ih =>
      intro v M' hv s e hI
      show k_M_layRow_10 (nI r) a2 n2 (nI k) Q _ _ M'
      unfold k_M_layRow_10
      have fin : ∀ x, (v < k → x = gi M a2 v) → lp_M_layRow_10 (nI r) a2 n2 (nI k) Q (f + 1) (nI (v + 1)) (si M' 315 (40 * r + v) x) := by
        intro x hx
        refine ih (v + 1) _ (by omega) (s.wi (Or.inr ⟨rfl, by omega, by omega⟩)) ((gi_n1 (by omega)).trans e) (fun t ht htv => ?_)
        by_cases c : t = v
        · subst c; rw [gi_si_eq]; exact hx ht
        · rw [gi_n2 (by omega)]; exact hI t ht (by omega)
      by_cases c : k ≤ v
      · simp (disch := omega) only [fa_lit0, xI_le_T, xI_le_F, xI_lt_T, xI_lt_F, xI_eq_T, xI_eq_F, xN_a, xN_b, xN_c, xN_d, xN_e, xN_f, xN_g, xN_h, xI_add, xI_mul, xI_sub, xI_tn, xI_in, xI_ofNat, gi_si_eq, gi_n1, gi_n2, gl_sl_eq, gl_n1, gl_n2, gi_sl, gl_si, forall_eq, true_implies, false_implies, not_true_eq_false, not_false_eq_true, and_true, true_and, implies_true, and_self, k_M_layRow_42]
        exact fin _ (fun w => by omega)
      · have e2 := s.g (a := a2) (b := v) (by omega)
        simp (disch := omega) only [fa_lit0, xI_le_T, xI_le_F, xI_lt_T, xI_lt_F, xI_eq_T, xI_eq_F, xN_a, xN_b, xN_c, xN_d, xN_e, xN_f, xN_g, xN_h, xI_add, xI_mul, xI_sub, xI_tn, xI_in, xI_ofNat, gi_si_eq, gi_n1, gi_n2, gl_sl_eq, gl_n1, gl_n2, gi_sl, gl_si, forall_eq, true_implies, false_implies, not_true_eq_false, not_false_eq_true, and_true, true_and, implies_true, and_self, k_M_layRow_42, e2]
        exact fin _ (fun _ => rfl)
  exact ⟨40 + 1, key 40 0 _ (by omega) ((Sm.refl (fun a b => (a = 314 ∧ b = r) ∨ (a = 315 ∧ 40 * r ≤ b ∧ b < 40 * r + 40)) M).wi (Or.inl ⟨rfl, rfl⟩)) (gi_si_eq _ _ _ _) (fun t _ ht => by omega)⟩
