/-! the class: water known, harvests, stamps, a season -/
theorem B_served {C : Nat → Nat → Nat} {M : Mm} {s : Nat} (hW : CW C M) (hs : s < 32) {Q : Int32 → Mm → Prop} (h : ∀ M', Sm (fun a _ => a = 27) M M' → CW C M' → Q (nI (srv C s (C 0 0))) M') : wp_Ch_servedOf 20 (nI s) M Q := by
  have hW' := hW
  obtain ⟨hC, hB, hS⟩ := hW'
  obtain ⟨b1, b2, b3⟩ := hB
  have hn := hC.1
  have hl := srv_lt hC s
  have e31 : nI s &&& nI 31 = nI s := by rw [dg_31 (by omega), Nat.mod_eq_of_lt hs]
  rcases hS s hs with e | e
  · unfold wp_Ch_servedOf
    simp (disch := omega) only [fa_lit0, xI_le_T, xI_le_F, xI_lt_T, xI_lt_F, xI_eq_T, xI_eq_F, xN_a, xN_b, xN_c, xN_d, xN_e, xN_f, xN_g, xN_h, xI_add, xI_mul, xI_sub, xI_tn, xI_in, xI_ofNat, gi_si_eq, gi_n1, gi_n2, gl_sl_eq, gl_n1, gl_n2, gi_sl, gl_si, forall_eq, true_implies, false_implies, not_true_eq_false, not_false_eq_true, and_true, true_and, implies_true, and_self, e31, e]
    have key : ∀ (K : Int32 → Int32 → Mm → Prop), K (nI s) (nI (srv C s (C 0 0))) M → ∀ (d m : Nat), m + d = C 0 0 → lp_Ch_servedOf_20 20 (nI s) Q K (d + 1) (nI s) (nI (srv C s m)) (nI m) M := by
      intro K hK d
      induction d with
      | zero =>
        intro m hm
        have hm : m = C 0 0 := by omega
        subst hm
        show k_Ch_servedOf_20 20 (nI s) Q _ K _ _ _ M
        unfold k_Ch_servedOf_20
        simp (disch := omega) only [fa_lit0, xI_le_T, xI_le_F, xI_lt_T, xI_lt_F, xI_eq_T, xI_eq_F, xN_a, xN_b, xN_c, xN_d, xN_e, xN_f, xN_g, xN_h, xI_add, xI_mul, xI_sub, xI_tn, xI_in, xI_ofNat, gi_si_eq, gi_n1, gi_n2, gl_sl_eq, gl_n1, gl_n2, gi_sl, gl_si, forall_eq, true_implies, false_implies, not_true_eq_false, not_false_eq_true, and_true, true_and, implies_true, and_self, b1]
        exact hK
      | succ d ih =>
        intro m hm
        show k_Ch_servedOf_20 20 (nI s) Q _ K _ _ _ M
        unfold k_Ch_servedOf_20
        simp (disch := omega) only [fa_lit0, xI_le_T, xI_le_F, xI_lt_T, xI_lt_F, xI_eq_T, xI_eq_F, xN_a, xN_b, xN_c, xN_d, xN_e, xN_f, xN_g, xN_h, xI_add, xI_mul, xI_sub, xI_tn, xI_in, xI_ofNat, gi_si_eq, gi_n1, gi_n2, gl_sl_eq, gl_n1, gl_n2, gi_sl, gl_si, forall_eq, true_implies, false_implies, not_true_eq_false, not_false_eq_true, and_true, true_and, implies_true, and_self, b1]
        refine B_waterOf hC hW.2.1 hs (by omega) ?_
        have k3 := (b3 m (by omega)).2.2.1
        have o3 := (hC.2.2 m (by omega)).2.2.1
        have ih1 := ih (m + 1) (by omega)
        have e : srv C s (m + 1) = srv C s m + (if wat C s m < C 3 m then 0 else 2 ^ m) := rfl
        have hw : wat C s m < 2 ^ 31 := by
          unfold wat
          have := riv_mul hC (i := m) (by omega)
          have := Nat.div_le_self (C 0 1 * C 2 m) (wsum C s (C 0 0))
          split
          · split <;> omega
          · split <;> omega
        by_cases w : wat C s m < C 3 m
        · rw [if_pos w, Nat.add_zero] at e
          rw [e] at ih1
          simp (disch := omega) only [fa_lit0, xI_le_T, xI_le_F, xI_lt_T, xI_lt_F, xI_eq_T, xI_eq_F, xN_a, xN_b, xN_c, xN_d, xN_e, xN_f, xN_g, xN_h, xI_add, xI_mul, xI_sub, xI_tn, xI_in, xI_ofNat, gi_si_eq, gi_n1, gi_n2, gl_sl_eq, gl_n1, gl_n2, gi_sl, gl_si, forall_eq, true_implies, false_implies, not_true_eq_false, not_false_eq_true, and_true, true_and, implies_true, and_self, k3, k_Ch_servedOf_55, or_top0]
          exact ih1
        · rw [if_neg w] at e
          rw [e] at ih1
          have hlt := ps_lt (F := en C s) (b := 0) (fun i _ => en_le _ _ _) m (by omega)
          rw [← srv_ps] at hlt
          simp (disch := omega) only [fa_lit0, xI_le_T, xI_le_F, xI_lt_T, xI_lt_F, xI_eq_T, xI_eq_F, xN_a, xN_b, xN_c, xN_d, xN_e, xN_f, xN_g, xN_h, xI_add, xI_mul, xI_sub, xI_tn, xI_in, xI_ofNat, gi_si_eq, gi_n1, gi_n2, gl_sl_eq, gl_n1, gl_n2, gi_sl, gl_si, forall_eq, true_implies, false_implies, not_true_eq_false, not_false_eq_true, and_true, true_and, implies_true, and_self, k3, k_Ch_servedOf_55, bs_l]
          rw [or_top m (by omega) _ hlt]
          exact ih1
    refine ⟨_, key _ ?_ (C 0 0) 0 (by omega)⟩
    simp (disch := omega) only [fa_lit0, xI_le_T, xI_le_F, xI_lt_T, xI_lt_F, xI_eq_T, xI_eq_F, xN_a, xN_b, xN_c, xN_d, xN_e, xN_f, xN_g, xN_h, xI_add, xI_mul, xI_sub, xI_tn, xI_in, xI_ofNat, gi_si_eq, gi_n1, gi_n2, gl_sl_eq, gl_n1, gl_n2, gi_sl, gl_si, forall_eq, true_implies, false_implies, not_true_eq_false, not_false_eq_true, and_true, true_and, implies_true, and_self, k_Ch_servedOf_70]
    have hS' : Sm (fun a _ => a = 27) M (si M 27 s (nI (srv C s (C 0 0)))) := (Sm.refl _ M).wi rfl
    refine h _ hS' ⟨hC, hW.2.1.sm hS' (by omega), fun t ht => ?_⟩
    by_cases w : t = s
    · subst w; exact Or.inr (gi_si_eq _ _ _ _)
    · rw [gi_n2 w]; exact hS t ht
  · unfold wp_Ch_servedOf
    simp (disch := omega) only [fa_lit0, xI_le_T, xI_le_F, xI_lt_T, xI_lt_F, xI_eq_T, xI_eq_F, xN_a, xN_b, xN_c, xN_d, xN_e, xN_f, xN_g, xN_h, xI_add, xI_mul, xI_sub, xI_tn, xI_in, xI_ofNat, gi_si_eq, gi_n1, gi_n2, gl_sl_eq, gl_n1, gl_n2, gi_sl, gl_si, forall_eq, true_implies, false_implies, not_true_eq_false, not_false_eq_true, and_true, true_and, implies_true, and_self, e31, e, k_Ch_servedOf_70]
    exact h M (Sm.refl _ M) hW
theorem B_harvestable {C : Nat → Nat → Nat} {F : Nat → Nat} {M : Mm} {k : Nat} (hW : CW C M) (hO : OkF (C 0 0) F) (hF : FlB F M k) (hk : k < 20 ∨ 27 < k) {Q : Int32 → Mm → Prop} (h : ∀ M', Sm (fun a _ => a = 27) M M' → CW C M' → FlB F M' k → Q (nI (hv C F)) M') : wp_Fl_harvestable k 20 M Q := by
  have hC := hW.1
  have hn := hC.1
  have lo := mk_lt hO.o
  have ld := mk_lt hO.d
  unfold wp_Fl_harvestable
  rw [hF.2.1]
  refine B_served hW lo fun M1 s1 w1 => ?_
  have hF1 : FlB F M1 k := hF.sm s1 (by omega)
  obtain ⟨b1, b2, b3⟩ := w1.2.1
  have hl := srv_lt hC (mk F 0)
  simp (disch := omega) only [fa_lit0, xI_le_T, xI_le_F, xI_lt_T, xI_lt_F, xI_eq_T, xI_eq_F, xN_a, xN_b, xN_c, xN_d, xN_e, xN_f, xN_g, xN_h, xI_add, xI_mul, xI_sub, xI_tn, xI_in, xI_ofNat, gi_si_eq, gi_n1, gi_n2, gl_sl_eq, gl_n1, gl_n2, gi_sl, gl_si, forall_eq, true_implies, false_implies, not_true_eq_false, not_false_eq_true, and_true, true_and, implies_true, and_self, hF1.2.2.2.1]
  rw [and_not _ hl _ ld]
  have l0 := and_lt _ hl (31 - mk F 25) (by omega)
  have key : ∀ (d m : Nat), m + d = C 0 0 → ∀ t, t < 32 → (∀ j, j < 5 → t / 2 ^ j % 2 = if j < m then hb C F (mk F 0) j else if j < C 0 0 then en C (mk F 0) j * (1 - F (25 + j)) else 0) → lp_Fl_harvestable_18 k 20 Q (d + 1) (nI t) (nI m) M1 := by
    intro d
    induction d with
    | zero =>
      intro m hm t ht hbt
      have hm : m = C 0 0 := by omega
      subst hm
      show k_Fl_harvestable_18 k 20 Q _ _ _ M1
      unfold k_Fl_harvestable_18
      simp (disch := omega) only [fa_lit0, xI_le_T, xI_le_F, xI_lt_T, xI_lt_F, xI_eq_T, xI_eq_F, xN_a, xN_b, xN_c, xN_d, xN_e, xN_f, xN_g, xN_h, xI_add, xI_mul, xI_sub, xI_tn, xI_in, xI_ofNat, gi_si_eq, gi_n1, gi_n2, gl_sl_eq, gl_n1, gl_n2, gi_sl, gl_si, forall_eq, true_implies, false_implies, not_true_eq_false, not_false_eq_true, and_true, true_and, implies_true, and_self, b1]
      have : t = hv C F := by
        refine bits_ext ht (hv_lt hC F) fun j hj => ?_
        rw [hbt j hj]
        unfold hv
        rw [ps_bit (fun i => hb_le _ _ _ _) _ hn j hj]
        by_cases w : j < C 0 0
        · rw [if_pos w, if_pos w]
        · rw [if_neg w, if_neg w, if_neg w]
      rw [this]
      exact h M1 s1 w1 hF1
    | succ d ih =>
      intro m hm t ht hbt
      show k_Fl_harvestable_18 k 20 Q _ _ _ M1
      unfold k_Fl_harvestable_18
      simp (disch := omega) only [fa_lit0, xI_le_T, xI_le_F, xI_lt_T, xI_lt_F, xI_eq_T, xI_eq_F, xN_a, xN_b, xN_c, xN_d, xN_e, xN_f, xN_g, xN_h, xI_add, xI_mul, xI_sub, xI_tn, xI_in, xI_ofNat, gi_si_eq, gi_n1, gi_n2, gl_sl_eq, gl_n1, gl_n2, gi_sl, gl_si, forall_eq, true_implies, false_implies, not_true_eq_false, not_false_eq_true, and_true, true_and, implies_true, and_self, b1]
      refine B_salt hO.s hF1 (by omega) ?_
      have hm5 := hbt m (by omega)
      have hs9 := (hO.1 m (by omega)).2.1
      have hd1 := hO.d m (by omega)
      rw [if_neg (by omega), if_pos (by omega)] at hm5
      by_cases w : F (5 + m) ≤ 4
      · simp (disch := omega) only [fa_lit0, xI_le_T, xI_le_F, xI_lt_T, xI_lt_F, xI_eq_T, xI_eq_F, xN_a, xN_b, xN_c, xN_d, xN_e, xN_f, xN_g, xN_h, xI_add, xI_mul, xI_sub, xI_tn, xI_in, xI_ofNat, gi_si_eq, gi_n1, gi_n2, gl_sl_eq, gl_n1, gl_n2, gi_sl, gl_si, forall_eq, true_implies, false_implies, not_true_eq_false, not_false_eq_true, and_true, true_and, implies_true, and_self, k_Fl_harvestable_42]
        refine ih (m + 1) (by omega) t ht fun j hj => ?_
        rw [hbt j hj]
        by_cases e : j = m
        · subst e
          rw [if_neg (by omega), if_pos (by omega), if_pos (by omega)]
          unfold en hb
          by_cases v : wat C (mk F 0) j < C 3 j
          · rw [if_pos v, if_pos (Or.inl v), Nat.zero_mul]
          · rw [if_neg v, Nat.one_mul]
            by_cases u : F (25 + j) = 1
            · rw [if_pos (Or.inr (Or.inl u)), u]
            · rw [if_neg (by omega)]; omega
        · by_cases v : j < m
          · rw [if_pos v, if_pos (by omega)]
          · rw [if_neg v, if_neg (show ¬ j < m + 1 by omega)]
      · simp (disch := omega) only [fa_lit0, xI_le_T, xI_le_F, xI_lt_T, xI_lt_F, xI_eq_T, xI_eq_F, xN_a, xN_b, xN_c, xN_d, xN_e, xN_f, xN_g, xN_h, xI_add, xI_mul, xI_sub, xI_tn, xI_in, xI_ofNat, gi_si_eq, gi_n1, gi_n2, gl_sl_eq, gl_n1, gl_n2, gi_sl, gl_si, forall_eq, true_implies, false_implies, not_true_eq_false, not_false_eq_true, and_true, true_and, implies_true, and_self]
        refine B_with ht (by omega) (by omega) ?_
        simp (disch := omega) only [fa_lit0, xI_le_T, xI_le_F, xI_lt_T, xI_lt_F, xI_eq_T, xI_eq_F, xN_a, xN_b, xN_c, xN_d, xN_e, xN_f, xN_g, xN_h, xI_add, xI_mul, xI_sub, xI_tn, xI_in, xI_ofNat, gi_si_eq, gi_n1, gi_n2, gl_sl_eq, gl_n1, gl_n2, gi_sl, gl_si, forall_eq, true_implies, false_implies, not_true_eq_false, not_false_eq_true, and_true, true_and, implies_true, and_self, k_Fl_harvestable_42]
        refine ih (m + 1) (by omega) _ (bset_lt t ht m (by omega) 0 (by omega)) fun j hj => ?_
        rw [bset_bit t ht m (by omega) 0 (by omega) j hj]
        by_cases e : j = m
        · subst e
          rw [if_pos rfl, if_pos (by omega)]
          unfold hb
          rw [if_pos (by omega)]
        · rw [if_neg e, hbt j hj]
          by_cases v : j < m
          · rw [if_pos v, if_pos (by omega)]
          · rw [if_neg v, if_neg (show ¬ j < m + 1 by omega)]
  refine ⟨_, key (C 0 0) 0 (by omega) _ l0 fun j hj => ?_⟩
  rw [and_bit _ hl _ (by omega) j hj, not_bit _ ld j hj, hO.db hj, srv_ps, ps_bit (fun i => en_le _ _ _) _ hn j hj, if_neg (show ¬ j < 0 by omega)]
  by_cases w : j < C 0 0
  · rw [if_pos w, if_pos w]
  · rw [if_neg w, if_neg w, Nat.zero_mul]
def isk (q a : Nat) : Nat := if q = a ∨ (q = 4 ∧ a = 2) ∨ (q = 5 ∧ a = 3) then 1 else 0
theorem pT0 : parT.getD 0 (nI 0) = nI 0 := rfl
theorem pT1 : parT.getD 1 (nI 0) = nI 0 := rfl
theorem pT2 : parT.getD 2 (nI 0) = nI 0 := rfl
theorem pT3 : parT.getD 3 (nI 0) = nI 0 := rfl
theorem pT4 : parT.getD 4 (nI 0) = nI 2 := rfl
theorem pT5 : parT.getD 5 (nI 0) = nI 3 := rfl
theorem B_isOf {C : Nat → Nat → Nat} {M : Mm} {i a : Nat} (hC : OkC C) (hB : ChB C M) (hi : i < C 0 0) (ha : 1 ≤ a) (ha2 : a ≤ 5) {Q : Int32 → Mm → Prop} (h : Q (nI (isk (C 1 i) a)) M) : wp_Ch_isOf 20 (nI i) (nI a) M Q := by
  have hn := hC.1
  have k1 := (hB.2.2 i hi).1
  have hk := (hC.2.2 i hi).1
  unfold isk at h
  by_cases c : C 1 i = a
  · rw [if_pos (Or.inl c)] at h
    simp (disch := omega) only [fa_lit0, xI_le_T, xI_le_F, xI_lt_T, xI_lt_F, xI_eq_T, xI_eq_F, xN_a, xN_b, xN_c, xN_d, xN_e, xN_f, xN_g, xN_h, xI_add, xI_mul, xI_sub, xI_tn, xI_in, xI_ofNat, gi_si_eq, gi_n1, gi_n2, gl_sl_eq, gl_n1, gl_n2, gi_sl, gl_si, forall_eq, true_implies, false_implies, not_true_eq_false, not_false_eq_true, and_true, true_and, implies_true, and_self, wp_Ch_isOf, k1, k_Ch_isOf_24]
    exact h
  · rcases (show C 1 i = 0 ∨ C 1 i = 1 ∨ C 1 i = 2 ∨ C 1 i = 3 ∨ C 1 i = 4 ∨ C 1 i = 5 by omega) with e | e | e | e | e | e
    all_goals rw [e] at k1 h c
    · rw [if_neg (by omega)] at h
      simp (disch := omega) only [fa_lit0, xI_le_T, xI_le_F, xI_lt_T, xI_lt_F, xI_eq_T, xI_eq_F, xN_a, xN_b, xN_c, xN_d, xN_e, xN_f, xN_g, xN_h, xI_add, xI_mul, xI_sub, xI_tn, xI_in, xI_ofNat, gi_si_eq, gi_n1, gi_n2, gl_sl_eq, gl_n1, gl_n2, gi_sl, gl_si, forall_eq, true_implies, false_implies, not_true_eq_false, not_false_eq_true, and_true, true_and, implies_true, and_self, wp_Ch_isOf, k1, k_Ch_isOf_24, pT0]; exact h
    · rw [if_neg (by omega)] at h
      simp (disch := omega) only [fa_lit0, xI_le_T, xI_le_F, xI_lt_T, xI_lt_F, xI_eq_T, xI_eq_F, xN_a, xN_b, xN_c, xN_d, xN_e, xN_f, xN_g, xN_h, xI_add, xI_mul, xI_sub, xI_tn, xI_in, xI_ofNat, gi_si_eq, gi_n1, gi_n2, gl_sl_eq, gl_n1, gl_n2, gi_sl, gl_si, forall_eq, true_implies, false_implies, not_true_eq_false, not_false_eq_true, and_true, true_and, implies_true, and_self, wp_Ch_isOf, k1, k_Ch_isOf_24, pT1]; exact h
    · rw [if_neg (by omega)] at h
      simp (disch := omega) only [fa_lit0, xI_le_T, xI_le_F, xI_lt_T, xI_lt_F, xI_eq_T, xI_eq_F, xN_a, xN_b, xN_c, xN_d, xN_e, xN_f, xN_g, xN_h, xI_add, xI_mul, xI_sub, xI_tn, xI_in, xI_ofNat, gi_si_eq, gi_n1, gi_n2, gl_sl_eq, gl_n1, gl_n2, gi_sl, gl_si, forall_eq, true_implies, false_implies, not_true_eq_false, not_false_eq_true, and_true, true_and, implies_true, and_self, wp_Ch_isOf, k1, k_Ch_isOf_24, pT2]; exact h
    · rw [if_neg (by omega)] at h
      simp (disch := omega) only [fa_lit0, xI_le_T, xI_le_F, xI_lt_T, xI_lt_F, xI_eq_T, xI_eq_F, xN_a, xN_b, xN_c, xN_d, xN_e, xN_f, xN_g, xN_h, xI_add, xI_mul, xI_sub, xI_tn, xI_in, xI_ofNat, gi_si_eq, gi_n1, gi_n2, gl_sl_eq, gl_n1, gl_n2, gi_sl, gl_si, forall_eq, true_implies, false_implies, not_true_eq_false, not_false_eq_true, and_true, true_and, implies_true, and_self, wp_Ch_isOf, k1, k_Ch_isOf_24, pT3]; exact h
    · by_cases v : a = 2
      · rw [if_pos (by omega)] at h
        simp (disch := omega) only [fa_lit0, xI_le_T, xI_le_F, xI_lt_T, xI_lt_F, xI_eq_T, xI_eq_F, xN_a, xN_b, xN_c, xN_d, xN_e, xN_f, xN_g, xN_h, xI_add, xI_mul, xI_sub, xI_tn, xI_in, xI_ofNat, gi_si_eq, gi_n1, gi_n2, gl_sl_eq, gl_n1, gl_n2, gi_sl, gl_si, forall_eq, true_implies, false_implies, not_true_eq_false, not_false_eq_true, and_true, true_and, implies_true, and_self, wp_Ch_isOf, k1, k_Ch_isOf_24, pT4]; exact h
      · rw [if_neg (by omega)] at h
        simp (disch := omega) only [fa_lit0, xI_le_T, xI_le_F, xI_lt_T, xI_lt_F, xI_eq_T, xI_eq_F, xN_a, xN_b, xN_c, xN_d, xN_e, xN_f, xN_g, xN_h, xI_add, xI_mul, xI_sub, xI_tn, xI_in, xI_ofNat, gi_si_eq, gi_n1, gi_n2, gl_sl_eq, gl_n1, gl_n2, gi_sl, gl_si, forall_eq, true_implies, false_implies, not_true_eq_false, not_false_eq_true, and_true, true_and, implies_true, and_self, wp_Ch_isOf, k1, k_Ch_isOf_24, pT4]; exact h
    · by_cases v : a = 3
      · rw [if_pos (by omega)] at h
        simp (disch := omega) only [fa_lit0, xI_le_T, xI_le_F, xI_lt_T, xI_lt_F, xI_eq_T, xI_eq_F, xN_a, xN_b, xN_c, xN_d, xN_e, xN_f, xN_g, xN_h, xI_add, xI_mul, xI_sub, xI_tn, xI_in, xI_ofNat, gi_si_eq, gi_n1, gi_n2, gl_sl_eq, gl_n1, gl_n2, gi_sl, gl_si, forall_eq, true_implies, false_implies, not_true_eq_false, not_false_eq_true, and_true, true_and, implies_true, and_self, wp_Ch_isOf, k1, k_Ch_isOf_24, pT5]; exact h
      · rw [if_neg (by omega)] at h
        simp (disch := omega) only [fa_lit0, xI_le_T, xI_le_F, xI_lt_T, xI_lt_F, xI_eq_T, xI_eq_F, xN_a, xN_b, xN_c, xN_d, xN_e, xN_f, xN_g, xN_h, xI_add, xI_mul, xI_sub, xI_tn, xI_in, xI_ofNat, gi_si_eq, gi_n1, gi_n2, gl_sl_eq, gl_n1, gl_n2, gi_sl, gl_si, forall_eq, true_implies, false_implies, not_true_eq_false, not_false_eq_true, and_true, true_and, implies_true, and_self, wp_Ch_isOf, k1, k_Ch_isOf_24, pT5]; exact h
theorem xI_lt {a b : Nat} (ha : a < 2 ^ 31) (hb : b < 2 ^ 31) : (nI a < nI b) = (a < b) := by
  by_cases h : a < b
  · rw [xI_lt_T h hb, eq_true h]
  · rw [xI_lt_F (by omega) ha, eq_false h]
theorem max_m1 {a : Nat} (ha : a < 2 ^ 30) : (if (0 : Int32) < nI a - (1 : Int32) then nI a - (1 : Int32) else (0 : Int32)) = nI (a - 1) := by
  rcases (show a = 0 ∨ 1 ≤ a by omega) with e | e
  · subst e; rfl
  · have e1 : nI a - 1 = nI (a - 1) := pk_sub e
    rw [e1]
    by_cases w : 0 < a - 1
    · exact if_pos (nI_lt w (by omega))
    · rw [if_neg (fun v => w ?_), show a - 1 = 0 by omega]
      · rfl
      · exact (xI_lt (a := 0) (b := a - 1) (by omega) (by omega)).mp v
theorem SB_refl (k : Nat) : ∀ b, SB k k b := fun _ => Or.inl rfl
theorem CW.w {C : Nat → Nat → Nat} {M : Mm} {k j : Nat} {x : Int32} (h : CW C M) (hk : k < 20 ∨ 27 < k) : CW C (si M k j x) := h.sm (S := fun a _ => a = k) ((Sm.refl _ M).wi rfl) (by omega)
theorem CW.wL {C : Nat → Nat → Nat} {M : Mm} {k j : Nat} {x : Int64} (h : CW C M) (hk : k < 20 ∨ 27 < k) : CW C (sl M k j x) := h.sm (S := fun a _ => a = k) ((Sm.refl _ M).wl rfl) (by omega)
theorem B_turnSalt {n : Nat} {C : Nat → Nat → Nat} {G : Nat → Nat} {M : Mm} {k i x : Nat} (hW : CW C M) (hO : OkQ n G) (hF : FlB G M k) (hk : k < 20 ∨ 27 < k) (hi : i < C 0 0) (hx : x ≤ 1) {Q : Mm → Prop} (h : ∀ M', Sm (SB k) M M' → CW C M' → FlB (up G (5 + i) (sal C G i x)) M' k → Q M') : wp_Fl_turnSalt k 20 (nI i) (nI x) M Q := by
  have hn := hW.1.1
  have k1 := (hW.2.1.2.2 i hi).1
  have o1 := (hW.1.2.2 i hi).1
  have h9 := (hO.1 i (by omega)).2.1
  have hs9 := sal_le (C := C) (x := x) h9
  have hp := p16_lt hO.s
  have fin : k_Fl_turnSalt_49 k 20 (nI i) (nI x) Q (nI (sal C G i x)) M := by
    unfold k_Fl_turnSalt_49
    rw [hF.2.2.2.2.1]
    simp (disch := omega) only [fa_lit0, xI_le_T, xI_le_F, xI_lt_T, xI_lt_F, xI_eq_T, xI_eq_F, xN_a, xN_b, xN_c, xN_d, xN_e, xN_f, xN_g, xN_h, xI_add, xI_mul, xI_sub, xI_tn, xI_in, xI_ofNat, gi_si_eq, gi_n1, gi_n2, gl_sl_eq, gl_n1, gl_n2, gi_sl, gl_si, forall_eq, true_implies, false_implies, not_true_eq_false, not_false_eq_true, and_true, true_and, implies_true, and_self]
    rw [dg_w hp (by omega) (by omega), ← p16_up hO.s (by omega)]
    exact h _ ((Sm.refl _ M).wi (SB_refl k 4)) (hW.w hk) (hF.w4 (by omega))
  unfold wp_Fl_turnSalt
  refine B_salt hO.s hF (by omega) ?_
  rcases (show x = 0 ∨ x = 1 by omega) with e | e
  · subst e
    unfold sal at fin
    rw [if_neg (by omega)] at fin
    by_cases c : C 1 i = 1
    · rw [if_pos c] at fin
      simp (disch := omega) only [fa_lit0, xI_le_T, xI_le_F, xI_lt_T, xI_lt_F, xI_eq_T, xI_eq_F, xN_a, xN_b, xN_c, xN_d, xN_e, xN_f, xN_g, xN_h, xI_add, xI_mul, xI_sub, xI_tn, xI_in, xI_ofNat, gi_si_eq, gi_n1, gi_n2, gl_sl_eq, gl_n1, gl_n2, gi_sl, gl_si, forall_eq, true_implies, false_implies, not_true_eq_false, not_false_eq_true, and_true, true_and, implies_true, and_self, k1, c, k_Fl_turnSalt_43, xI_lt]
      rw [← apply_ite nI]
      exact fin
    · rw [if_neg c] at fin
      simp (disch := omega) only [fa_lit0, xI_le_T, xI_le_F, xI_lt_T, xI_lt_F, xI_eq_T, xI_eq_F, xN_a, xN_b, xN_c, xN_d, xN_e, xN_f, xN_g, xN_h, xI_add, xI_mul, xI_sub, xI_tn, xI_in, xI_ofNat, gi_si_eq, gi_n1, gi_n2, gl_sl_eq, gl_n1, gl_n2, gi_sl, gl_si, forall_eq, true_implies, false_implies, not_true_eq_false, not_false_eq_true, and_true, true_and, implies_true, and_self, k1, k_Fl_turnSalt_43, xI_lt]
      rw [← apply_ite nI]
      exact fin
  · subst e
    unfold sal at fin
    rw [if_pos rfl] at fin
    rw [max_m1 (by omega)]
    simp (disch := omega) only [fa_lit0, xI_le_T, xI_le_F, xI_lt_T, xI_lt_F, xI_eq_T, xI_eq_F, xN_a, xN_b, xN_c, xN_d, xN_e, xN_f, xN_g, xN_h, xI_add, xI_mul, xI_sub, xI_tn, xI_in, xI_ofNat, gi_si_eq, gi_n1, gi_n2, gl_sl_eq, gl_n1, gl_n2, gi_sl, gl_si, forall_eq, true_implies, false_implies, not_true_eq_false, not_false_eq_true, and_true, true_and, implies_true, and_self]
    exact fin
theorem B_drop {n : Nat} {C : Nat → Nat → Nat} {G : Nat → Nat} {M : Mm} {k i : Nat} (hW : CW C M) (hO : OkQ n G) (hF : FlB G M k) (hk : k < 20 ∨ 27 < k) (hi : i < 5) {Q : Mm → Prop} (h : ∀ M', Sm (SB k) M M' → CW C M' → FlB (up (up G (20 + i) 0) i 0) M' k → Q M') : wp_Fl_dropBarge k (nI i) M Q := by
  have lb := mk_lt hO.b
  have lo := mk_lt hO.o
  unfold wp_Fl_dropBarge
  rw [hF.2.2.1]
  simp (disch := omega) only [fa_lit0, xI_le_T, xI_le_F, xI_lt_T, xI_lt_F, xI_eq_T, xI_eq_F, xN_a, xN_b, xN_c, xN_d, xN_e, xN_f, xN_g, xN_h, xI_add, xI_mul, xI_sub, xI_tn, xI_in, xI_ofNat, gi_si_eq, gi_n1, gi_n2, gl_sl_eq, gl_n1, gl_n2, gi_sl, gl_si, forall_eq, true_implies, false_implies, not_true_eq_false, not_false_eq_true, and_true, true_and, implies_true, and_self]
  refine B_with lb hi (by omega) ?_
  rw [← mk_up hO.b hi]
  rw [hF.2.1]
  refine B_with lo hi (by omega) ?_
  have e := mk_up (x := 0) hO.o hi
  rw [Nat.zero_add] at e
  rw [← e]
  have h1 := (hF.w2 (x := 0) hi).w1 (x := 0) hi
  rw [show mk (up (up G (20 + i) 0) i 0) 0 = mk (up G i 0) 0 by unfold mk up; simp (disch := omega) only [Nat.zero_add, show ¬ (0 = 20 + i) by omega, show ¬ (1 = 20 + i) by omega, show ¬ (2 = 20 + i) by omega, show ¬ (3 = 20 + i) by omega, show ¬ (4 = 20 + i) by omega, if_false]] at h1
  exact h _ (((Sm.refl _ M).wi (SB_refl k 2)).wi (SB_refl k 1)) ((hW.w hk).w hk) h1
theorem B_turnSilt {n : Nat} {C : Nat → Nat → Nat} {G : Nat → Nat} {M : Mm} {k i : Nat} (hW : CW C M) (hO : OkQ n G) (hnn : i < n) (hF : FlB G M k) (hk : k < 20 ∨ 27 < k) (hi : i < C 0 0) {Q : Mm → Prop} (h : ∀ M', Sm (SB k) M M' → CW C M' → FlB (slt C G i) M' k → Q M') : wp_Fl_turnSilt k 20 (nI i) M Q := by
  have hn := hW.1.1
  have k1 := (hW.2.1.2.2 i hi).1
  have o1 := (hW.1.2.2 i hi).1
  obtain ⟨q1, -, h9, -, -⟩ := hO.1 i (by omega)
  have lo := mk_lt hO.o
  have ld := mk_lt hO.d
  have hp := p16_lt hO.t
  have fin : ∀ v, v = (if slo C G i < 9 then slo C G i else 9) → k_Fl_turnSilt_50 k 20 (nI i) Q (nI v) M := by
    intro v hv
    have hv9 : v ≤ 9 := by rw [hv]; split <;> omega
    have hO1 : OkQ n (up G (10 + i) v) := hO.u (by omega) (by omega)
    have hF1 := hF.w5 (i := i) (x := v) (by omega)
    have hW1 : CW C (si M k 5 (nI (p16 (up G (10 + i) v) 10))) := hW.w hk
    have hS1 : Sm (SB k) M (si M k 5 (nI (p16 (up G (10 + i) v) 10))) := (Sm.refl _ M).wi (SB_refl k 5)
    unfold k_Fl_turnSilt_50
    rw [hF.2.2.2.2.2.1]
    simp (disch := omega) only [fa_lit0, xI_le_T, xI_le_F, xI_lt_T, xI_lt_F, xI_eq_T, xI_eq_F, xN_a, xN_b, xN_c, xN_d, xN_e, xN_f, xN_g, xN_h, xI_add, xI_mul, xI_sub, xI_tn, xI_in, xI_ofNat, gi_si_eq, gi_n1, gi_n2, gl_sl_eq, gl_n1, gl_n2, gi_sl, gl_si, forall_eq, true_implies, false_implies, not_true_eq_false, not_false_eq_true, and_true, true_and, implies_true, and_self]
    rw [dg_w hp (by omega) (by omega), ← p16_up hO.t (by omega)]
    unfold slt at h
    by_cases w : slo C G i < 9
    · rw [if_pos w] at hv h
      subst hv
      simp (disch := omega) only [fa_lit0, xI_le_T, xI_le_F, xI_lt_T, xI_lt_F, xI_eq_T, xI_eq_F, xN_a, xN_b, xN_c, xN_d, xN_e, xN_f, xN_g, xN_h, xI_add, xI_mul, xI_sub, xI_tn, xI_in, xI_ofNat, gi_si_eq, gi_n1, gi_n2, gl_sl_eq, gl_n1, gl_n2, gi_sl, gl_si, forall_eq, true_implies, false_implies, not_true_eq_false, not_false_eq_true, and_true, true_and, implies_true, and_self]
      exact h _ hS1 hW1 hF1
    · rw [if_neg w] at hv h
      subst hv
      simp (disch := omega) only [fa_lit0, xI_le_T, xI_le_F, xI_lt_T, xI_lt_F, xI_eq_T, xI_eq_F, xN_a, xN_b, xN_c, xN_d, xN_e, xN_f, xN_g, xN_h, xI_add, xI_mul, xI_sub, xI_tn, xI_in, xI_ofNat, gi_si_eq, gi_n1, gi_n2, gl_sl_eq, gl_n1, gl_n2, gi_sl, gl_si, forall_eq, true_implies, false_implies, not_true_eq_false, not_false_eq_true, and_true, true_and, implies_true, and_self]
      rw [hF.2.2.2.1, bset_or _ ld i (by omega)]
      have e := mk_up (F := up G (10 + i) 9) (b := 25) (x := 1) hO1.d (i := i) (by omega)
      rw [show mk (up G (10 + i) 9) 25 = mk G 25 from mk_un (by omega)] at e
      rw [← e]
      refine B_drop (hW1.w hk) (hO1.u (j := 25 + i) (x := 1) (by omega) (by omega)) (hF1.w3 (by omega)) hk (by omega) fun M2 s2 w2 f2 => ?_
      exact h M2 ((hS1.wi (SB_refl k 3)).trans s2) w2 f2
  unfold wp_Fl_turnSilt
  refine B_silt hO.t hF (by omega) ?_
  rw [hF.2.1]
  refine B_has lo (by omega) ?_
  rw [hO.ob (by omega)]
  rcases (show G i = 0 ∨ G i = 1 by omega) with e | e
  · unfold slo at fin
    rw [if_neg (show ¬ G i = 1 by omega)] at fin
    simp (disch := omega) only [fa_lit0, xI_le_T, xI_le_F, xI_lt_T, xI_lt_F, xI_eq_T, xI_eq_F, xN_a, xN_b, xN_c, xN_d, xN_e, xN_f, xN_g, xN_h, xI_add, xI_mul, xI_sub, xI_tn, xI_in, xI_ofNat, gi_si_eq, gi_n1, gi_n2, gl_sl_eq, gl_n1, gl_n2, gi_sl, gl_si, forall_eq, true_implies, false_implies, not_true_eq_false, not_false_eq_true, and_true, true_and, implies_true, and_self, e]
    refine B_isOf hW.1 hW.2.1 hi (by omega) (by omega) ?_
    unfold isk
    by_cases c : C 1 i = 2 ∨ C 1 i = 4
    · rw [if_pos c] at fin
      rw [if_pos (by omega)]
      simp (disch := omega) only [fa_lit0, xI_le_T, xI_le_F, xI_lt_T, xI_lt_F, xI_eq_T, xI_eq_F, xN_a, xN_b, xN_c, xN_d, xN_e, xN_f, xN_g, xN_h, xI_add, xI_mul, xI_sub, xI_tn, xI_in, xI_ofNat, gi_si_eq, gi_n1, gi_n2, gl_sl_eq, gl_n1, gl_n2, gi_sl, gl_si, forall_eq, true_implies, false_implies, not_true_eq_false, not_false_eq_true, and_true, true_and, implies_true, and_self, k_Fl_turnSilt_45, xI_lt]
      rw [← apply_ite nI]
      exact fin _ rfl
    · rw [if_neg c] at fin
      rw [if_neg (by omega)]
      simp (disch := omega) only [fa_lit0, xI_le_T, xI_le_F, xI_lt_T, xI_lt_F, xI_eq_T, xI_eq_F, xN_a, xN_b, xN_c, xN_d, xN_e, xN_f, xN_g, xN_h, xI_add, xI_mul, xI_sub, xI_tn, xI_in, xI_ofNat, gi_si_eq, gi_n1, gi_n2, gl_sl_eq, gl_n1, gl_n2, gi_sl, gl_si, forall_eq, true_implies, false_implies, not_true_eq_false, not_false_eq_true, and_true, true_and, implies_true, and_self, k_Fl_turnSilt_45, xI_lt]
      rw [← apply_ite nI]
      exact fin _ rfl
  · unfold slo at fin
    rw [if_pos e] at fin
    rw [max_m1 (by omega)]
    simp (disch := omega) only [fa_lit0, xI_le_T, xI_le_F, xI_lt_T, xI_lt_F, xI_eq_T, xI_eq_F, xN_a, xN_b, xN_c, xN_d, xN_e, xN_f, xN_g, xN_h, xI_add, xI_mul, xI_sub, xI_tn, xI_in, xI_ofNat, gi_si_eq, gi_n1, gi_n2, gl_sl_eq, gl_n1, gl_n2, gi_sl, gl_si, forall_eq, true_implies, false_implies, not_true_eq_false, not_false_eq_true, and_true, true_and, implies_true, and_self, e]
    refine fin _ ?_
    rw [if_pos (by omega)]
theorem B_goBy {C : Nat → Nat → Nat} {F : Nat → Nat} {M : Mm} {k : Nat} (hW : CW C M) (hO : OkF (C 0 0) F) (hF : FlB F M k) (hk : k < 20 ∨ 27 < k) {Q : Int32 → Mm → Prop} (h : ∀ M', Sm (SB k) M M' → CW C M' → FlB (gob C F) M' k → Q (nI (hv C F)) M') : wp_Fl_goBy k 20 M Q := by
  have hC := hW.1
  have hn := hC.1
  have lo := mk_lt hO.o
  have lh := hv_lt hC F
  have lsv := srv_lt hC (mk F 0)
  unfold wp_Fl_goBy
  refine B_harvestable hW hO hF hk fun M1 s1 w1 f1 => ?_
  rw [f1.2.1]
  refine B_served w1 lo fun M2 s2 w2 => ?_
  have f2 : FlB F M2 k := f1.sm s2 (by omega)
  have s3 : Sm (SB k) M M2 := (s1.trans s2).mono (fun a b w => Or.inr w)
  have key : ∀ (K : Int32 → Mm → Prop), (∀ M', Sm (SB k) M M' → CW C M' → FlB (gb C F (mk F 0) (C 0 0)) M' k → K (nI (hv C F)) M') → ∀ (d m : Nat), m + d = C 0 0 → ∀ M3, Sm (SB k) M M3 → CW C M3 → FlB (gb C F (mk F 0) m) M3 k → lp_Fl_goBy_18 k 20 Q K (d + 1) (nI (hv C F)) (nI (srv C (mk F 0) (C 0 0))) (nI m) M3 := by
    intro K hK d
    induction d with
    | zero =>
      intro m hm M3 s3 w3 f3
      have hm : m = C 0 0 := by omega
      subst hm
      have b1 := w3.2.1.1
      show k_Fl_goBy_18 k 20 Q _ K _ _ _ M3
      unfold k_Fl_goBy_18
      simp (disch := omega) only [fa_lit0, xI_le_T, xI_le_F, xI_lt_T, xI_lt_F, xI_eq_T, xI_eq_F, xN_a, xN_b, xN_c, xN_d, xN_e, xN_f, xN_g, xN_h, xI_add, xI_mul, xI_sub, xI_tn, xI_in, xI_ofNat, gi_si_eq, gi_n1, gi_n2, gl_sl_eq, gl_n1, gl_n2, gi_sl, gl_si, forall_eq, true_implies, false_implies, not_true_eq_false, not_false_eq_true, and_true, true_and, implies_true, and_self, b1]
      exact hK M3 s3 w3 f3
    | succ d ih =>
      intro m hm M3 s3 w3 f3
      have b1 := w3.2.1.1
      have hq := hO.q.g (C := C) (s := mk F 0) hn m (by omega)
      have hhb := hv_bit hC F (j := m) (by omega)
      have hsb := srv_bit hC (mk F 0) (j := m) (by omega)
      have hle := hb_le C F (mk F 0) m
      have hel := en_le C (mk F 0) m
      have f4 := f3.w6 (i := m) (x := gb C F (mk F 0) m (15 + m) + hb C F (mk F 0) m) (by omega)
      have hq4 : OkQ (C 0 0) (hup C F (mk F 0) (gb C F (mk F 0) m) m) := hq.u (by omega) (by omega)
      show k_Fl_goBy_18 k 20 Q _ K _ _ _ M3
      unfold k_Fl_goBy_18
      simp (disch := omega) only [fa_lit0, xI_le_T, xI_le_F, xI_lt_T, xI_lt_F, xI_eq_T, xI_eq_F, xN_a, xN_b, xN_c, xN_d, xN_e, xN_f, xN_g, xN_h, xI_add, xI_mul, xI_sub, xI_tn, xI_in, xI_ofNat, gi_si_eq, gi_n1, gi_n2, gl_sl_eq, gl_n1, gl_n2, gi_sl, gl_si, forall_eq, true_implies, false_implies, not_true_eq_false, not_false_eq_true, and_true, true_and, implies_true, and_self, b1, bs_r, hhb]
      rw [f3.2.2.2.2.2.2, dg_hadd hle (by omega), ← p256_up (by omega)]
      refine B_has lsv (by omega) ?_
      rw [hsb]
      refine B_turnSalt (w3.wL hk) hq4 f4 hk (by omega) hel fun M5 s5 w5 f5 => ?_
      have hq5 : OkQ (C 0 0) (sup C (mk F 0) (hup C F (mk F 0) (gb C F (mk F 0) m) m) m) := by
        have := sal_le (C := C) (x := en C (mk F 0) m) (hq4.1 m (by omega)).2.1
        exact hq4.u (by omega) (by omega)
      refine B_turnSilt w5 hq5 (by omega) f5 hk (by omega) fun M6 s6 w6 f6 => ?_
      exact ih (m + 1) (by omega) M6 (((s3.wl (SB_refl k 6)).trans s5).trans s6) w6 f6
  refine ⟨_, key _ ?_ (C 0 0) 0 (by omega) M2 s3 w2 f2⟩
  intro M7 s7 w7 f7
  have e30 := f7.1
  rw [gb_30 _ hn] at e30
  simp (disch := omega) only [fa_lit0, xI_le_T, xI_le_F, xI_lt_T, xI_lt_F, xI_eq_T, xI_eq_F, xN_a, xN_b, xN_c, xN_d, xN_e, xN_f, xN_g, xN_h, xI_add, xI_mul, xI_sub, xI_tn, xI_in, xI_ofNat, gi_si_eq, gi_n1, gi_n2, gl_sl_eq, gl_n1, gl_n2, gi_sl, gl_si, forall_eq, true_implies, false_implies, not_true_eq_false, not_false_eq_true, and_true, true_and, implies_true, and_self, e30]
  exact h _ (s7.wi (SB_refl k 0)) (w7.w hk) f7.w0
