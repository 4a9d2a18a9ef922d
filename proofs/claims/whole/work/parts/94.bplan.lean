/-! the class plans -/
def t0 (tg : Nat) : Nat := if tg = 9 then 1 else 0
def tI (tg : Nat) : Int32 := if tg = 9 then -nI 9 else nI tg
def BBs (tg K : Nat) (b : Bst) (M : Mm) : Prop := gi M 40 1 = (if tg = 9 then (if b.1 = 0 then -nI 1 else nI (b.1 - 1)) else nI b.1) ∧ gi M 40 2 = nI b.2.1 ∧ (0 < b.1 → ∀ i, i < K → gi M 41 i = nI (b.2.2 i))
theorem BBs.sm {tg K : Nat} {b : Bst} {M M' : Mm} {S : Nat → Nat → Prop} (h : BBs tg K b M) (s : Sm S M M') (q1 : ¬ S 40 1) (q2 : ¬ S 40 2) (q3 : ∀ i, ¬ S 41 i) : BBs tg K b M' := by
  obtain ⟨h1, h2, h3⟩ := h
  refine ⟨(s.g q1).trans h1, (s.g q2).trans h2, fun w i hi => ?_⟩
  rw [s.g (q3 i)]; exact h3 w i hi
theorem cp3 {M : Mm} {b : Nat} (hb : b < 3) : gi (cpi M 42 41 0 0 3) 41 b = gi M 42 b := by
  rw [gi_cpi, if_pos rfl, pk_cpy_in (by omega) (by omega), Nat.sub_zero, Nat.zero_add]
theorem B_win {tg K u st : Nat} {b : Bst} {M : Mm} (hb : BBs tg K b M) (hg : GB tg b) (hu : u < 1000) (hst : st < 1000) {Q : Int32 → Mm → Prop} (h1 : bt (u + t0 tg) st b → Q (nI 1) M) (h0 : ¬ bt (u + t0 tg) st b → Q (nI 0) M) : wp_Pl_canWin (nI u) (nI st) M Q := by
  obtain ⟨e1, e2, -⟩ := hb
  obtain ⟨g1, g2, g3, g4⟩ := hg
  unfold wp_Pl_canWin
  unfold bt t0 at h1 h0
  by_cases c : tg = 9
  · rw [if_pos c] at e1 h1 h0
    by_cases d : b.1 = 0
    · rw [if_pos d] at e1
      simp (disch := omega) only [fa_lit0, xI_le_T, xI_le_F, xI_lt_T, xI_lt_F, xI_eq_T, xI_eq_F, xN_a, xN_b, xN_c, xN_d, xN_e, xN_f, xN_g, xN_h, xI_add, xI_mul, xI_sub, xI_tn, xI_in, xI_ofNat, gi_si_eq, gi_n1, gi_n2, gl_sl_eq, gl_n1, gl_n2, gi_sl, gl_si, forall_eq, true_implies, false_implies, not_true_eq_false, not_false_eq_true, and_true, true_and, implies_true, and_self, e1, e2, k_Pl_canWin_24]
      exact h1 (by omega)
    · rw [if_neg d] at e1
      by_cases k1 : b.1 - 1 < u
      · simp (disch := omega) only [fa_lit0, xI_le_T, xI_le_F, xI_lt_T, xI_lt_F, xI_eq_T, xI_eq_F, xN_a, xN_b, xN_c, xN_d, xN_e, xN_f, xN_g, xN_h, xI_add, xI_mul, xI_sub, xI_tn, xI_in, xI_ofNat, gi_si_eq, gi_n1, gi_n2, gl_sl_eq, gl_n1, gl_n2, gi_sl, gl_si, forall_eq, true_implies, false_implies, not_true_eq_false, not_false_eq_true, and_true, true_and, implies_true, and_self, e1, e2, k_Pl_canWin_24]
        exact h1 (by omega)
      · by_cases k2 : u = b.1 - 1
        · by_cases k3 : b.2.1 ≤ st
          · simp (disch := omega) only [fa_lit0, xI_le_T, xI_le_F, xI_lt_T, xI_lt_F, xI_eq_T, xI_eq_F, xN_a, xN_b, xN_c, xN_d, xN_e, xN_f, xN_g, xN_h, xI_add, xI_mul, xI_sub, xI_tn, xI_in, xI_ofNat, gi_si_eq, gi_n1, gi_n2, gl_sl_eq, gl_n1, gl_n2, gi_sl, gl_si, forall_eq, true_implies, false_implies, not_true_eq_false, not_false_eq_true, and_true, true_and, implies_true, and_self, e1, e2, k_Pl_canWin_24]
            exact h0 (by omega)
          · simp (disch := omega) only [fa_lit0, xI_le_T, xI_le_F, xI_lt_T, xI_lt_F, xI_eq_T, xI_eq_F, xN_a, xN_b, xN_c, xN_d, xN_e, xN_f, xN_g, xN_h, xI_add, xI_mul, xI_sub, xI_tn, xI_in, xI_ofNat, gi_si_eq, gi_n1, gi_n2, gl_sl_eq, gl_n1, gl_n2, gi_sl, gl_si, forall_eq, true_implies, false_implies, not_true_eq_false, not_false_eq_true, and_true, true_and, implies_true, and_self, e1, e2, k_Pl_canWin_24]
            exact h1 (by omega)
        · simp (disch := omega) only [fa_lit0, xI_le_T, xI_le_F, xI_lt_T, xI_lt_F, xI_eq_T, xI_eq_F, xN_a, xN_b, xN_c, xN_d, xN_e, xN_f, xN_g, xN_h, xI_add, xI_mul, xI_sub, xI_tn, xI_in, xI_ofNat, gi_si_eq, gi_n1, gi_n2, gl_sl_eq, gl_n1, gl_n2, gi_sl, gl_si, forall_eq, true_implies, false_implies, not_true_eq_false, not_false_eq_true, and_true, true_and, implies_true, and_self, e1, e2, k_Pl_canWin_24]
          exact h0 (by omega)
  · rw [if_neg c] at e1 h1 h0
    by_cases k1 : b.1 < u
    · simp (disch := omega) only [fa_lit0, xI_le_T, xI_le_F, xI_lt_T, xI_lt_F, xI_eq_T, xI_eq_F, xN_a, xN_b, xN_c, xN_d, xN_e, xN_f, xN_g, xN_h, xI_add, xI_mul, xI_sub, xI_tn, xI_in, xI_ofNat, gi_si_eq, gi_n1, gi_n2, gl_sl_eq, gl_n1, gl_n2, gi_sl, gl_si, forall_eq, true_implies, false_implies, not_true_eq_false, not_false_eq_true, and_true, true_and, implies_true, and_self, e1, e2, k_Pl_canWin_24]
      exact h1 (by omega)
    · by_cases k2 : u = b.1
      · by_cases k3 : b.2.1 ≤ st
        · simp (disch := omega) only [fa_lit0, xI_le_T, xI_le_F, xI_lt_T, xI_lt_F, xI_eq_T, xI_eq_F, xN_a, xN_b, xN_c, xN_d, xN_e, xN_f, xN_g, xN_h, xI_add, xI_mul, xI_sub, xI_tn, xI_in, xI_ofNat, gi_si_eq, gi_n1, gi_n2, gl_sl_eq, gl_n1, gl_n2, gi_sl, gl_si, forall_eq, true_implies, false_implies, not_true_eq_false, not_false_eq_true, and_true, true_and, implies_true, and_self, e1, e2, k_Pl_canWin_24]
          exact h0 (by omega)
        · simp (disch := omega) only [fa_lit0, xI_le_T, xI_le_F, xI_lt_T, xI_lt_F, xI_eq_T, xI_eq_F, xN_a, xN_b, xN_c, xN_d, xN_e, xN_f, xN_g, xN_h, xI_add, xI_mul, xI_sub, xI_tn, xI_in, xI_ofNat, gi_si_eq, gi_n1, gi_n2, gl_sl_eq, gl_n1, gl_n2, gi_sl, gl_si, forall_eq, true_implies, false_implies, not_true_eq_false, not_false_eq_true, and_true, true_and, implies_true, and_self, e1, e2, k_Pl_canWin_24]
          exact h1 (by omega)
      · simp (disch := omega) only [fa_lit0, xI_le_T, xI_le_F, xI_lt_T, xI_lt_F, xI_eq_T, xI_eq_F, xN_a, xN_b, xN_c, xN_d, xN_e, xN_f, xN_g, xN_h, xI_add, xI_mul, xI_sub, xI_tn, xI_in, xI_ofNat, gi_si_eq, gi_n1, gi_n2, gl_sl_eq, gl_n1, gl_n2, gi_sl, gl_si, forall_eq, true_implies, false_implies, not_true_eq_false, not_false_eq_true, and_true, true_and, implies_true, and_self, e1, e2, k_Pl_canWin_24]
        exact h0 (by omega)
theorem B_judge {tg K u st : Nat} {b : Bst} {pl : Nat → Nat} {M : Mm} (hK : K ≤ 3) (hb : BBs tg K b M) (hg : GB tg b) (hu : u < 1000) (hst : st < 1000) (hp : ∀ i, i < K → gi M 42 i = nI (pl i)) {Q : Mm → Prop} (hQ : ∀ M', Sm (fun a c => a = 41 ∨ (a = 40 ∧ (c = 1 ∨ c = 2))) M M' → BBs tg K (if bt (u + t0 tg) st b then (u + t0 tg, st, pl) else b) M' → Q M') : wp_Pl_judge (nI u) (nI st) M Q := by
  unfold wp_Pl_judge
  refine B_win hb hg hu hst (fun w => ?_) (fun w => ?_)
  · rw [if_pos w] at hQ
    simp (disch := omega) only [fa_lit0, xI_le_T, xI_le_F, xI_lt_T, xI_lt_F, xI_eq_T, xI_eq_F, xN_a, xN_b, xN_c, xN_d, xN_e, xN_f, xN_g, xN_h, xI_add, xI_mul, xI_sub, xI_tn, xI_in, xI_ofNat, gi_si_eq, gi_n1, gi_n2, gl_sl_eq, gl_n1, gl_n2, gi_sl, gl_si, forall_eq, true_implies, false_implies, not_true_eq_false, not_false_eq_true, and_true, true_and, implies_true, and_self, show ¬ (nI 0 < nI 0) by decide, show (0 + 3 ≤ 3) by omega]
    refine hQ _ ((((Sm.refl _ M).wi (Or.inr ⟨rfl, Or.inl rfl⟩)).wi (Or.inr ⟨rfl, Or.inr rfl⟩)).cp (fun b => Or.inl rfl)) ⟨?_, ?_, fun _ i hi => ?_⟩
    · rw [gi_cpi_ne (by omega)]
      simp (disch := omega) only [fa_lit0, xI_le_T, xI_le_F, xI_lt_T, xI_lt_F, xI_eq_T, xI_eq_F, xN_a, xN_b, xN_c, xN_d, xN_e, xN_f, xN_g, xN_h, xI_add, xI_mul, xI_sub, xI_tn, xI_in, xI_ofNat, gi_si_eq, gi_n1, gi_n2, gl_sl_eq, gl_n1, gl_n2, gi_sl, gl_si, forall_eq, true_implies, false_implies, not_true_eq_false, not_false_eq_true, and_true, true_and, implies_true, and_self]
      unfold t0
      by_cases c : tg = 9
      · rw [if_pos c, if_pos c, if_neg (by omega), Nat.add_sub_cancel]
      · rw [if_neg c, if_neg c, Nat.add_zero]
    · rw [gi_cpi_ne (by omega)]; simp (disch := omega) only [fa_lit0, xI_le_T, xI_le_F, xI_lt_T, xI_lt_F, xI_eq_T, xI_eq_F, xN_a, xN_b, xN_c, xN_d, xN_e, xN_f, xN_g, xN_h, xI_add, xI_mul, xI_sub, xI_tn, xI_in, xI_ofNat, gi_si_eq, gi_n1, gi_n2, gl_sl_eq, gl_n1, gl_n2, gi_sl, gl_si, forall_eq, true_implies, false_implies, not_true_eq_false, not_false_eq_true, and_true, true_and, implies_true, and_self]
    · rw [cp3 (by omega)]; simp (disch := omega) only [fa_lit0, xI_le_T, xI_le_F, xI_lt_T, xI_lt_F, xI_eq_T, xI_eq_F, xN_a, xN_b, xN_c, xN_d, xN_e, xN_f, xN_g, xN_h, xI_add, xI_mul, xI_sub, xI_tn, xI_in, xI_ofNat, gi_si_eq, gi_n1, gi_n2, gl_sl_eq, gl_n1, gl_n2, gi_sl, gl_si, forall_eq, true_implies, false_implies, not_true_eq_false, not_false_eq_true, and_true, true_and, implies_true, and_self, hp i hi]
  · rw [if_neg w] at hQ
    simp (disch := omega) only [fa_lit0, xI_le_T, xI_le_F, xI_lt_T, xI_lt_F, xI_eq_T, xI_eq_F, xN_a, xN_b, xN_c, xN_d, xN_e, xN_f, xN_g, xN_h, xI_add, xI_mul, xI_sub, xI_tn, xI_in, xI_ofNat, gi_si_eq, gi_n1, gi_n2, gl_sl_eq, gl_n1, gl_n2, gi_sl, gl_si, forall_eq, true_implies, false_implies, not_true_eq_false, not_false_eq_true, and_true, true_and, implies_true, and_self]
    exact hQ M (Sm.refl _ M) hb
theorem B_worth {tg K k r h : Nat} {M : Mm} (hK : K ≤ 3) (hk : K = k + r + 1) (hh : h < 32) (ht : tg = 9 ∨ tg < 5) (e6 : gi M 40 6 = nI K) (e7 : gi M 40 7 = tI tg) {Q : Int32 → Mm → Prop} (hQ : Q (nI (if tg = 9 then cnt h 5 else if r = 0 then h / 2 ^ tg % 2 else 0)) M) : wp_Pl_worthOf (nI h) (nI k) M Q := by
  unfold wp_Pl_worthOf
  unfold tI at e7
  by_cases c : tg = 9
  · rw [if_pos c] at e7 hQ
    simp (disch := omega) only [fa_lit0, xI_le_T, xI_le_F, xI_lt_T, xI_lt_F, xI_eq_T, xI_eq_F, xN_a, xN_b, xN_c, xN_d, xN_e, xN_f, xN_g, xN_h, xI_add, xI_mul, xI_sub, xI_tn, xI_in, xI_ofNat, gi_si_eq, gi_n1, gi_n2, gl_sl_eq, gl_n1, gl_n2, gi_sl, gl_si, forall_eq, true_implies, false_implies, not_true_eq_false, not_false_eq_true, and_true, true_and, implies_true, and_self, e7]
    exact J_bits_ok hh hQ
  · rw [if_neg c] at e7 hQ
    by_cases d : r = 0
    · rw [if_pos d] at hQ
      simp (disch := omega) only [fa_lit0, xI_le_T, xI_le_F, xI_lt_T, xI_lt_F, xI_eq_T, xI_eq_F, xN_a, xN_b, xN_c, xN_d, xN_e, xN_f, xN_g, xN_h, xI_add, xI_mul, xI_sub, xI_tn, xI_in, xI_ofNat, gi_si_eq, gi_n1, gi_n2, gl_sl_eq, gl_n1, gl_n2, gi_sl, gl_si, forall_eq, true_implies, false_implies, not_true_eq_false, not_false_eq_true, and_true, true_and, implies_true, and_self, e7, e6]
      refine B_has hh (by omega) ?_
      rcases (show h / 2 ^ tg % 2 = 0 ∨ h / 2 ^ tg % 2 = 1 by omega) with e | e
      · rw [e] at hQ; simp (disch := omega) only [fa_lit0, xI_le_T, xI_le_F, xI_lt_T, xI_lt_F, xI_eq_T, xI_eq_F, xN_a, xN_b, xN_c, xN_d, xN_e, xN_f, xN_g, xN_h, xI_add, xI_mul, xI_sub, xI_tn, xI_in, xI_ofNat, gi_si_eq, gi_n1, gi_n2, gl_sl_eq, gl_n1, gl_n2, gi_sl, gl_si, forall_eq, true_implies, false_implies, not_true_eq_false, not_false_eq_true, and_true, true_and, implies_true, and_self, e]; exact hQ
      · rw [e] at hQ; simp (disch := omega) only [fa_lit0, xI_le_T, xI_le_F, xI_lt_T, xI_lt_F, xI_eq_T, xI_eq_F, xN_a, xN_b, xN_c, xN_d, xN_e, xN_f, xN_g, xN_h, xI_add, xI_mul, xI_sub, xI_tn, xI_in, xI_ofNat, gi_si_eq, gi_n1, gi_n2, gl_sl_eq, gl_n1, gl_n2, gi_sl, gl_si, forall_eq, true_implies, false_implies, not_true_eq_false, not_false_eq_true, and_true, true_and, implies_true, and_self, e]; exact hQ
    · rw [if_neg d] at hQ
      simp (disch := omega) only [fa_lit0, xI_le_T, xI_le_F, xI_lt_T, xI_lt_F, xI_eq_T, xI_eq_F, xN_a, xN_b, xN_c, xN_d, xN_e, xN_f, xN_g, xN_h, xI_add, xI_mul, xI_sub, xI_tn, xI_in, xI_ofNat, gi_si_eq, gi_n1, gi_n2, gl_sl_eq, gl_n1, gl_n2, gi_sl, gl_si, forall_eq, true_implies, false_implies, not_true_eq_false, not_false_eq_true, and_true, true_and, implies_true, and_self, e7, e6]
      exact hQ
theorem mn_I {a b : Nat} (ha : a < 2 ^ 31) (hb : b < 2 ^ 31) : (if nI a < nI b then nI a else nI b) = nI (mnn a b) := by
  unfold mnn
  by_cases c : a < b
  · rw [if_pos (nI_lt c hb), if_pos c]
  · rw [if_neg (nI_nlt (by omega) ha), if_neg c]
theorem B_hope {C : Nat → Nat → Nat} {tg K k r c : Nat} {G : Nat → Nat} {M : Mm} (hC : OkC C) (hB : ChB C M) (hO : OkF (C 0 0) G) (hF : FlB G M c) (hK : K ≤ 3) (hk : K = k + r) (ht : tg = 9 ∨ tg < C 0 0) (e6 : gi M 40 6 = nI K) (e7 : gi M 40 7 = tI tg) (e8 : gi M 40 8 = nI (ms C tg (2 ^ C 0 0))) {Q : Int32 → Mm → Prop} (hQ : Q (nI (hp C tg r G)) M) : wp_Pl_hopeOf c (nI k) M Q := by
  have hn := hC.1
  have m5 := ms_le C tg (2 ^ C 0 0)
  have dn := dead_n hC hO
  have dl := lt_32 dn.1 hn
  have dc := cnt_n _ hn _ dn.1
  unfold wp_Pl_hopeOf
  unfold tI at e7
  unfold hp at hQ
  by_cases c9 : tg = 9
  · rw [if_pos c9] at e7 hQ
    simp (disch := omega) only [fa_lit0, xI_le_T, xI_le_F, xI_lt_T, xI_lt_F, xI_eq_T, xI_eq_F, xN_a, xN_b, xN_c, xN_d, xN_e, xN_f, xN_g, xN_h, xI_add, xI_mul, xI_sub, xI_tn, xI_in, xI_ofNat, gi_si_eq, gi_n1, gi_n2, gl_sl_eq, gl_n1, gl_n2, gi_sl, gl_si, forall_eq, true_implies, false_implies, not_true_eq_false, not_false_eq_true, and_true, true_and, implies_true, and_self, e7, e6, hF.2.2.2.1]
    refine J_bits_ok dl ?_
    simp (disch := omega) only [fa_lit0, xI_le_T, xI_le_F, xI_lt_T, xI_lt_F, xI_eq_T, xI_eq_F, xN_a, xN_b, xN_c, xN_d, xN_e, xN_f, xN_g, xN_h, xI_add, xI_mul, xI_sub, xI_tn, xI_in, xI_ofNat, gi_si_eq, gi_n1, gi_n2, gl_sl_eq, gl_n1, gl_n2, gi_sl, gl_si, forall_eq, true_implies, false_implies, not_true_eq_false, not_false_eq_true, and_true, true_and, implies_true, and_self, hB.1, e8]
    rw [mn_I (by omega) (by omega)]
    simp (disch := omega) only [fa_lit0, xI_le_T, xI_le_F, xI_lt_T, xI_lt_F, xI_eq_T, xI_eq_F, xN_a, xN_b, xN_c, xN_d, xN_e, xN_f, xN_g, xN_h, xI_add, xI_mul, xI_sub, xI_tn, xI_in, xI_ofNat, gi_si_eq, gi_n1, gi_n2, gl_sl_eq, gl_n1, gl_n2, gi_sl, gl_si, forall_eq, true_implies, false_implies, not_true_eq_false, not_false_eq_true, and_true, true_and, implies_true, and_self]
    rw [show K - k = r by omega]
    exact hQ
  · rw [if_neg c9] at e7 hQ
    by_cases d : r = 0
    · rw [if_neg (by omega)] at hQ
      simp (disch := omega) only [fa_lit0, xI_le_T, xI_le_F, xI_lt_T, xI_lt_F, xI_eq_T, xI_eq_F, xN_a, xN_b, xN_c, xN_d, xN_e, xN_f, xN_g, xN_h, xI_add, xI_mul, xI_sub, xI_tn, xI_in, xI_ofNat, gi_si_eq, gi_n1, gi_n2, gl_sl_eq, gl_n1, gl_n2, gi_sl, gl_si, forall_eq, true_implies, false_implies, not_true_eq_false, not_false_eq_true, and_true, true_and, implies_true, and_self, e7, e6]
      exact hQ
    · simp (disch := omega) only [fa_lit0, xI_le_T, xI_le_F, xI_lt_T, xI_lt_F, xI_eq_T, xI_eq_F, xN_a, xN_b, xN_c, xN_d, xN_e, xN_f, xN_g, xN_h, xI_add, xI_mul, xI_sub, xI_tn, xI_in, xI_ofNat, gi_si_eq, gi_n1, gi_n2, gl_sl_eq, gl_n1, gl_n2, gi_sl, gl_si, forall_eq, true_implies, false_implies, not_true_eq_false, not_false_eq_true, and_true, true_and, implies_true, and_self, e7, e6, hF.2.2.2.1]
      refine B_has dl (by omega) ?_
      rw [hO.db (show tg < 5 by omega)]
      have b1 := (hO.1 tg (by omega)).2.2.2.2.2
      by_cases z : G (25 + tg) = 0
      · rw [if_pos ⟨by omega, z⟩] at hQ
        simp (disch := omega) only [fa_lit0, xI_le_T, xI_le_F, xI_lt_T, xI_lt_F, xI_eq_T, xI_eq_F, xN_a, xN_b, xN_c, xN_d, xN_e, xN_f, xN_g, xN_h, xI_add, xI_mul, xI_sub, xI_tn, xI_in, xI_ofNat, gi_si_eq, gi_n1, gi_n2, gl_sl_eq, gl_n1, gl_n2, gi_sl, gl_si, forall_eq, true_implies, false_implies, not_true_eq_false, not_false_eq_true, and_true, true_and, implies_true, and_self, z, e8]
        exact hQ
      · have z1 : G (25 + tg) = 1 := by omega
        rw [if_neg (by omega)] at hQ
        simp (disch := omega) only [fa_lit0, xI_le_T, xI_le_F, xI_lt_T, xI_lt_F, xI_eq_T, xI_eq_F, xN_a, xN_b, xN_c, xN_d, xN_e, xN_f, xN_g, xN_h, xI_add, xI_mul, xI_sub, xI_tn, xI_in, xI_ofNat, gi_si_eq, gi_n1, gi_n2, gl_sl_eq, gl_n1, gl_n2, gi_sl, gl_si, forall_eq, true_implies, false_implies, not_true_eq_false, not_false_eq_true, and_true, true_and, implies_true, and_self, z1]
        exact hQ
def SPl (k a c : Nat) : Prop := (43 + 1 + k < a ∧ a ≤ 47) ∨ a = 27 ∨ a = 41 ∨ (a = 42 ∧ k ≤ c) ∨ (a = 40 ∧ (c = 1 ∨ c = 2))
theorem lpSe (RC : Int32 → Int32 → Int32 → Mm → (Mm → Prop) → Prop) (a1 a2 a3 : Int32) (Q : Mm → Prop) (f : Nat) (v : Int32) (M : Mm) : lp_Pl_search_28 RC a1 a2 a3 Q (f + 1) v M = k_Pl_search_28 RC a1 a2 a3 Q (lp_Pl_search_28 RC a1 a2 a3 Q f) v M := rfl
theorem B_search {C : Nat → Nat → Nat} (hC : OkC C) {tg K : Nat} (ht : tg = 9 ∨ tg < C 0 0) (hK : K ≤ 3) : ∀ r d k F u st pl b M (Q : Mm → Prop), k + r = K → r < d → CW C M → FlB F M (43 + 1 + k) → OkF (C 0 0) F → F 30 + r < 149 → gi M 40 6 = nI K → gi M 40 7 = tI tg → gi M 40 8 = nI (ms C tg (2 ^ C 0 0)) → BBs tg K b M → GB tg b → GW tg r (u + t0 tg) st → (∀ i, i < k → gi M 42 i = nI (pl i)) → (∀ M', Sm (SPl k) M M' → CW C M' → BBs tg K (br C tg r k F (u + t0 tg) st pl b) M' → Q M') → wp_Pl_search d (nI k) (nI u) (nI st) M Q := by
  have hn := hC.1
  have hp5 := p5 hn
  have hp0 : 0 < 2 ^ C 0 0 := Nat.two_pow_pos _
  intro r
  induction r with
  | zero =>
    intro d k F u st pl b M Q hk hd hW hF hO h30 e6 e7 e8 hb hg hw hpl hQ
    cases d with
    | zero => omega
    | succ d =>
      show wpB_Pl_search (wp_Pl_search d) (nI k) (nI u) (nI st) M Q
      unfold wpB_Pl_search
      simp (disch := omega) only [fa_lit0, xI_le_T, xI_le_F, xI_lt_T, xI_lt_F, xI_eq_T, xI_eq_F, xN_a, xN_b, xN_c, xN_d, xN_e, xN_f, xN_g, xN_h, xI_add, xI_mul, xI_sub, xI_tn, xI_in, xI_ofNat, gi_si_eq, gi_n1, gi_n2, gl_sl_eq, gl_n1, gl_n2, gi_sl, gl_si, forall_eq, true_implies, false_implies, not_true_eq_false, not_false_eq_true, and_true, true_and, implies_true, and_self, e6]
      have w1 := hw.1
      have w2 := hw.2.1
      refine B_judge hK hb hg (by omega) (by omega) (fun i hi => hpl i (by omega)) (fun M' s h => ?_)
      exact hQ M' (s.mono (fun a c q => by unfold SPl; omega)) (hW.sm s (fun a b q => by omega)) h
  | succ r ih =>
    intro d k F u st pl b M Q hk hd hW hF hO h30 e6 e7 e8 hb hg hw hpl hQ
    cases d with
    | zero => omega
    | succ d =>
      show wpB_Pl_search (wp_Pl_search d) (nI k) (nI u) (nI st) M Q
      unfold wpB_Pl_search
      simp (disch := omega) only [fa_lit0, xI_le_T, xI_le_F, xI_lt_T, xI_lt_F, xI_eq_T, xI_eq_F, xN_a, xN_b, xN_c, xN_d, xN_e, xN_f, xN_g, xN_h, xI_add, xI_mul, xI_sub, xI_tn, xI_in, xI_ofNat, gi_si_eq, gi_n1, gi_n2, gl_sl_eq, gl_n1, gl_n2, gi_sl, gl_si, forall_eq, true_implies, false_implies, not_true_eq_false, not_false_eq_true, and_true, true_and, implies_true, and_self, e6]
      have w1 := hw.1
      have w2 := hw.2.1
      have key : ∀ f v M', v + f = 2 ^ C 0 0 → Sm (SPl k) M M' → CW C M' → BBs tg K (fb (fun s b => br C tg r (k + 1) (nx C F s) (u + t0 tg + wn C tg r F s) (st + sc C F s) (up pl k s) b) v b) M' → lp_Pl_search_28 (wp_Pl_search d) (nI k) (nI u) (nI st) Q (f + 1) (nI v) M' := by
        intro f
        induction f with
        | zero =>
          intro v M' hvf s hW' hb'
          have hvf : v = 2 ^ C 0 0 := by omega
          subst hvf
          rw [lpSe]
          unfold k_Pl_search_28
          refine B_sets hC hW'.2.1 ?_
          simp (disch := omega) only [fa_lit0, xI_le_T, xI_le_F, xI_lt_T, xI_lt_F, xI_eq_T, xI_eq_F, xN_a, xN_b, xN_c, xN_d, xN_e, xN_f, xN_g, xN_h, xI_add, xI_mul, xI_sub, xI_tn, xI_in, xI_ofNat, gi_si_eq, gi_n1, gi_n2, gl_sl_eq, gl_n1, gl_n2, gi_sl, gl_si, forall_eq, true_implies, false_implies, not_true_eq_false, not_false_eq_true, and_true, true_and, implies_true, and_self]
          exact hQ M' s hW' hb'
        | succ f ihf =>
          intro v M' hvf s hW' hb'
          rw [lpSe]
          unfold k_Pl_search_28
          refine B_sets hC hW'.2.1 ?_
          simp (disch := omega) only [fa_lit0, xI_le_T, xI_le_F, xI_lt_T, xI_lt_F, xI_eq_T, xI_eq_F, xN_a, xN_b, xN_c, xN_d, xN_e, xN_f, xN_g, xN_h, xI_add, xI_mul, xI_sub, xI_tn, xI_in, xI_ofNat, gi_si_eq, gi_n1, gi_n2, gl_sl_eq, gl_n1, gl_n2, gi_sl, gl_si, forall_eq, true_implies, false_implies, not_true_eq_false, not_false_eq_true, and_true, true_and, implies_true, and_self]
          have g1 := GB_fb (C := C) (k := k) (F := F) (pl := pl) hg hw v
          have gw := hw.nx (C := C) (F := F) v
          have go : ∀ M2, Sm (SPl k) M M2 → CW C M2 → BBs tg K (fb (fun s b => br C tg r (k + 1) (nx C F s) (u + t0 tg + wn C tg r F s) (st + sc C F s) (up pl k s) b) (v + 1) b) M2 → lp_Pl_search_28 (wp_Pl_search d) (nI k) (nI u) (nI st) Q (f + 1) (nI (v + 1)) M2 := fun M2 a1 a2 a3 => ihf (v + 1) M2 (by omega) a1 a2 a3
          have efb : fb (fun s b => br C tg r (k + 1) (nx C F s) (u + t0 tg + wn C tg r F s) (st + sc C F s) (up pl k s) b) (v + 1) b = br C tg r (k + 1) (nx C F v) (u + t0 tg + wn C tg r F v) (st + sc C F v) (up pl k v) (fb (fun s b => br C tg r (k + 1) (nx C F s) (u + t0 tg + wn C tg r F s) (st + sc C F s) (up pl k s) b) v b) := rfl
          have skD := skipD hC (tg := tg) (r := r) (k := k) (F := F) (w := u + t0 tg) (st := st) (pl := pl) (b := b) (s := v) (by omega)
          rw [efb] at go
          generalize fb (fun s b => br C tg r (k + 1) (nx C F s) (u + t0 tg + wn C tg r F s) (st + sc C F s) (up pl k s) b) v b = bv at *
          have hF' : FlB F M' (43 + 1 + k) := hF.sm s (fun b => by unfold SPl; omega)
          refine B_copy (k := 43 + 1 + (k + 1)) hF' (by omega) (fun M1 s1 f1 => ?_)
          have cw1 : CW C M1 := hW'.sm s1 (fun a b q => by omega)
          refine B_stampSet cw1 hO f1 (by omega) (by omega) (fun M2 s2 cw2 f2 => ?_)
          have t2 : Sm (SPl k) M M2 := (s.trans (s1.mono (fun a b q => by unfold SPl; omega))).trans (s2.mono (fun a b q => by unfold SB at q; unfold SPl; omega))
          have bb2 : BBs tg K bv M2 := (hb'.sm s1 (by omega) (by omega) (fun i => by omega)).sm s2 (by unfold SB; omega) (by unfold SB; omega) (fun i => by unfold SB; omega)
          have ld := lt_32 (ssD_lt (C := C) (F := F) (s := v) (C 0 0) hn) hn
          have ok := hO.ss (s := v) hC (C 0 0) (Nat.le_refl _)
          by_cases cd : ssD C v F (C 0 0) = v
          · simp (disch := omega) only [fa_lit0, xI_le_T, xI_le_F, xI_lt_T, xI_lt_F, xI_eq_T, xI_eq_F, xN_a, xN_b, xN_c, xN_d, xN_e, xN_f, xN_g, xN_h, xI_add, xI_mul, xI_sub, xI_tn, xI_in, xI_ofNat, gi_si_eq, gi_n1, gi_n2, gl_sl_eq, gl_n1, gl_n2, gi_sl, gl_si, forall_eq, true_implies, false_implies, not_true_eq_false, not_false_eq_true, and_true, true_and, implies_true, and_self, cd]
            refine B_harvestable cw2 ok.1 f2 (by omega) (fun M3 s3 cw3 f3 => ?_)
            have t3 : Sm (SPl k) M M3 := t2.trans (s3.mono (fun a b q => by unfold SPl; omega))
            have bb3 : BBs tg K bv M3 := bb2.sm s3 (by omega) (by omega) (fun i => by omega)
            have hvl := hv_lt hC (ssF C v F (C 0 0))
            have e63 := (t3.g (a := 40) (b := 6) (by unfold SPl; omega)).trans e6
            have e73 := (t3.g (a := 40) (b := 7) (by unfold SPl; omega)).trans e7
            have e83 := (t3.g (a := 40) (b := 8) (by unfold SPl; omega)).trans e8
            refine B_worth (K := K) (k := k) (r := r) hK (by omega) hvl (by omega) e63 e73 ?_
            have ewn : (if tg = 9 then cnt (hv C (ssF C v F (C 0 0))) 5 else if r = 0 then hv C (ssF C v F (C 0 0)) / 2 ^ tg % 2 else 0) = wn C tg r F v := rfl
            rw [ewn]
            simp (disch := omega) only [fa_lit0, xI_le_T, xI_le_F, xI_lt_T, xI_lt_F, xI_eq_T, xI_eq_F, xN_a, xN_b, xN_c, xN_d, xN_e, xN_f, xN_g, xN_h, xI_add, xI_mul, xI_sub, xI_tn, xI_in, xI_ofNat, gi_si_eq, gi_n1, gi_n2, gl_sl_eq, gl_n1, gl_n2, gi_sl, gl_si, forall_eq, true_implies, false_implies, not_true_eq_false, not_false_eq_true, and_true, true_and, implies_true, and_self]
            refine J_bits_ok (by omega) ?_
            simp (disch := omega) only [fa_lit0, xI_le_T, xI_le_F, xI_lt_T, xI_lt_F, xI_eq_T, xI_eq_F, xN_a, xN_b, xN_c, xN_d, xN_e, xN_f, xN_g, xN_h, xI_add, xI_mul, xI_sub, xI_tn, xI_in, xI_ofNat, gi_si_eq, gi_n1, gi_n2, gl_sl_eq, gl_n1, gl_n2, gi_sl, gl_si, forall_eq, true_implies, false_implies, not_true_eq_false, not_false_eq_true, and_true, true_and, implies_true, and_self]
            refine B_hope (K := K) (r := r) hC cw3.2.1 ok.1 f3 hK (by omega) ht e63 e73 e83 ?_
            have hpb : hp C tg r (ssF C v F (C 0 0)) ≤ 15 := by
              unfold hp
              have m5 := ms_le C tg (2 ^ C 0 0)
              split
              · have := (mnn_l (ms C tg (2 ^ C 0 0)) (lv C (ssF C v F (C 0 0)))).1
                have a1 : r * mnn (ms C tg (2 ^ C 0 0)) (lv C (ssF C v F (C 0 0))) ≤ 3 * 5 := Nat.mul_le_mul (by omega) (by omega)
                omega
              · split <;> omega
            have esc : sc C F v = cnt v 5 := by unfold sc; rw [cd]
            have gw1 := gw.1
            have gw2 := gw.2.1
            rw [esc] at go skD gw2 gw
            simp (disch := omega) only [fa_lit0, xI_le_T, xI_le_F, xI_lt_T, xI_lt_F, xI_eq_T, xI_eq_F, xN_a, xN_b, xN_c, xN_d, xN_e, xN_f, xN_g, xN_h, xI_add, xI_mul, xI_sub, xI_tn, xI_in, xI_ofNat, gi_si_eq, gi_n1, gi_n2, gl_sl_eq, gl_n1, gl_n2, gi_sl, gl_si, forall_eq, true_implies, false_implies, not_true_eq_false, not_false_eq_true, and_true, true_and, implies_true, and_self]
            have skH := skipH (k := k) (pl := pl) (st := st) (w := u + t0 tg) (b := bv) (s := v) hC ht hO (show F 30 + r < 149 by omega)
            rw [esc] at skH
            refine B_win bb3 g1 (by omega) (by omega) (fun w => ?_) (fun w => ?_)
            · simp (disch := omega) only [fa_lit0, xI_le_T, xI_le_F, xI_lt_T, xI_lt_F, xI_eq_T, xI_eq_F, xN_a, xN_b, xN_c, xN_d, xN_e, xN_f, xN_g, xN_h, xI_add, xI_mul, xI_sub, xI_tn, xI_in, xI_ofNat, gi_si_eq, gi_n1, gi_n2, gl_sl_eq, gl_n1, gl_n2, gi_sl, gl_si, forall_eq, true_implies, false_implies, not_true_eq_false, not_false_eq_true, and_true, true_and, implies_true, and_self]
              refine B_goBy cw3 ok.1 f3 (by omega) (fun M4 s4 cw4 f4 => ?_)
              try simp (disch := omega) only [fa_lit0, xI_le_T, xI_le_F, xI_lt_T, xI_lt_F, xI_eq_T, xI_eq_F, xN_a, xN_b, xN_c, xN_d, xN_e, xN_f, xN_g, xN_h, xI_add, xI_mul, xI_sub, xI_tn, xI_in, xI_ofNat, gi_si_eq, gi_n1, gi_n2, gl_sl_eq, gl_n1, gl_n2, gi_sl, gl_si, forall_eq, true_implies, false_implies, not_true_eq_false, not_false_eq_true, and_true, true_and, implies_true, and_self]
              have t4 : Sm (SPl k) M M4 := t3.trans (s4.mono (fun a b q => by unfold SB at q; unfold SPl; omega))
              have bb4 : BBs tg K bv M4 := bb3.sm s4 (by unfold SB; omega) (by unfold SB; omega) (fun i => by unfold SB; omega)
              have s5 : Sm (fun a c => a = 42 ∧ c = k) M4 (si M4 42 k (nI v)) := (Sm.refl _ M4).wi ⟨rfl, rfl⟩
              have t5 : Sm (SPl k) M (si M4 42 k (nI v)) := t4.trans (s5.mono (fun a b q => by unfold SPl; omega))
              have p30 : nx C F v 30 = F 30 + 1 := by
                show gob C (ssF C v F (C 0 0)) 30 = _
                rw [gob_30, ok.2]
              have eu : u + t0 tg + wn C tg r F v = u + wn C tg r F v + t0 tg := by omega
              refine ih d (k + 1) (nx C F v) (u + wn C tg r F v) (st + cnt v 5) (up pl k v) bv (si M4 42 k (nI v)) _ (by omega) (by omega) (cw4.sm s5 (fun a b q => by omega)) (f4.sm s5 (fun b => by omega)) (ok.1.go hC (by rw [ok.2]; omega)) (by rw [p30]; omega) ((t5.g (by unfold SPl; omega)).trans e6) ((t5.g (by unfold SPl; omega)).trans e7) ((t5.g (by unfold SPl; omega)).trans e8) (bb4.sm s5 (by omega) (by omega) (fun i => by omega)) g1 (by rw [← eu]; exact gw) (fun i hi => ?_) (fun M6 s6 cw6 bb6 => ?_)
              · by_cases ei : i = k
                · subst ei; rw [gi_si_eq, up_eq]
                · rw [up_ne ei, t5.g (by unfold SPl; omega)]; exact hpl i (by omega)
              · simp (disch := omega) only [fa_lit0, xI_le_T, xI_le_F, xI_lt_T, xI_lt_F, xI_eq_T, xI_eq_F, xN_a, xN_b, xN_c, xN_d, xN_e, xN_f, xN_g, xN_h, xI_add, xI_mul, xI_sub, xI_tn, xI_in, xI_ofNat, gi_si_eq, gi_n1, gi_n2, gl_sl_eq, gl_n1, gl_n2, gi_sl, gl_si, forall_eq, true_implies, false_implies, not_true_eq_false, not_false_eq_true, and_true, true_and, implies_true, and_self, k_Pl_search_147]
                rw [← eu] at bb6
                exact go M6 (t5.trans (s6.mono (fun a b q => by unfold SPl at q; unfold SPl; omega))) cw6 bb6
            · simp (disch := omega) only [fa_lit0, xI_le_T, xI_le_F, xI_lt_T, xI_lt_F, xI_eq_T, xI_eq_F, xN_a, xN_b, xN_c, xN_d, xN_e, xN_f, xN_g, xN_h, xI_add, xI_mul, xI_sub, xI_tn, xI_in, xI_ofNat, gi_si_eq, gi_n1, gi_n2, gl_sl_eq, gl_n1, gl_n2, gi_sl, gl_si, forall_eq, true_implies, false_implies, not_true_eq_false, not_false_eq_true, and_true, true_and, implies_true, and_self, k_Pl_search_147]
              have eb := skH (fun q => w (by
                unfold bt at q ⊢
                omega))
              rw [eb] at go
              exact go M3 t3 cw3 bb3
          · simp (disch := omega) only [fa_lit0, xI_le_T, xI_le_F, xI_lt_T, xI_lt_F, xI_eq_T, xI_eq_F, xN_a, xN_b, xN_c, xN_d, xN_e, xN_f, xN_g, xN_h, xI_add, xI_mul, xI_sub, xI_tn, xI_in, xI_ofNat, gi_si_eq, gi_n1, gi_n2, gl_sl_eq, gl_n1, gl_n2, gi_sl, gl_si, forall_eq, true_implies, false_implies, not_true_eq_false, not_false_eq_true, and_true, true_and, implies_true, and_self, cd, k_Pl_search_147]
            rw [skD cd] at go
            exact go M2 t2 cw2 bb2
      exact ⟨2 ^ C 0 0 + 1, key (2 ^ C 0 0) 0 M (by omega) (Sm.refl _ M) hW hb⟩

theorem B_most2 {C : Nat → Nat → Nat} {tg : Nat} {M : Mm} (hW : CW C M) (ht : tg = 9 ∨ tg < C 0 0) (e7 : gi M 40 7 = tI tg) {Q : Int32 → Mm → Prop} (hQ : ∀ M', Sm (fun a _ => a = 27) M M' → CW C M' → Q (nI (ms C tg (2 ^ C 0 0))) M') : wp_Pl_mostServed M Q := by
  have hC := hW.1
  have hn := hC.1
  have hp5 := p5 hn
  unfold wp_Pl_mostServed
  have key : ∀ f v M', v + f = 2 ^ C 0 0 → Sm (fun a _ => a = 27) M M' → CW C M' → lp_Pl_mostServed_4 Q (f + 1) (nI (ms C tg v)) (nI v) M' := by
    intro f
    induction f with
    | zero =>
      intro v M' hvf s hW'
      have hvf : v = 2 ^ C 0 0 := by omega
      subst hvf
      show k_Pl_mostServed_4 Q _ _ _ M'
      unfold k_Pl_mostServed_4
      refine B_sets hC hW'.2.1 ?_
      simp (disch := omega) only [fa_lit0, xI_le_T, xI_le_F, xI_lt_T, xI_lt_F, xI_eq_T, xI_eq_F, xN_a, xN_b, xN_c, xN_d, xN_e, xN_f, xN_g, xN_h, xI_add, xI_mul, xI_sub, xI_tn, xI_in, xI_ofNat, gi_si_eq, gi_n1, gi_n2, gl_sl_eq, gl_n1, gl_n2, gi_sl, gl_si, forall_eq, true_implies, false_implies, not_true_eq_false, not_false_eq_true, and_true, true_and, implies_true, and_self]
      exact hQ M' s hW'
    | succ f ih =>
      intro v M' hvf s hW'
      show k_Pl_mostServed_4 Q _ _ _ M'
      unfold k_Pl_mostServed_4
      refine B_sets hC hW'.2.1 ?_
      simp (disch := omega) only [fa_lit0, xI_le_T, xI_le_F, xI_lt_T, xI_lt_F, xI_eq_T, xI_eq_F, xN_a, xN_b, xN_c, xN_d, xN_e, xN_f, xN_g, xN_h, xI_add, xI_mul, xI_sub, xI_tn, xI_in, xI_ofNat, gi_si_eq, gi_n1, gi_n2, gl_sl_eq, gl_n1, gl_n2, gi_sl, gl_si, forall_eq, true_implies, false_implies, not_true_eq_false, not_false_eq_true, and_true, true_and, implies_true, and_self]
      refine B_served hW' (by omega) (fun M2 s2 cw2 => ?_)
      have t2 := s.trans s2
      have e72 := (t2.g (a := 40) (b := 7) (by omega)).trans e7
      unfold tI at e72
      have sl := srv_lt hC v
      have m5 := ms_le C tg v
      have ih := ih (v + 1) M2 (by omega) t2 cw2
      have c5 := cnt_5 (srv C v (C 0 0))
      by_cases c : tg = 9
      · have e : ms C tg (v + 1) = mxn (ms C tg v) (cnt (srv C v (C 0 0)) 5) := by
          show mxn (ms C tg v) (if tg = 9 then cnt (srv C v (C 0 0)) 5 else srv C v (C 0 0) / 2 ^ tg % 2) = _
          rw [if_pos c]
        rw [e] at ih
        rw [if_pos c] at e72
        simp (disch := omega) only [fa_lit0, xI_le_T, xI_le_F, xI_lt_T, xI_lt_F, xI_eq_T, xI_eq_F, xN_a, xN_b, xN_c, xN_d, xN_e, xN_f, xN_g, xN_h, xI_add, xI_mul, xI_sub, xI_tn, xI_in, xI_ofNat, gi_si_eq, gi_n1, gi_n2, gl_sl_eq, gl_n1, gl_n2, gi_sl, gl_si, forall_eq, true_implies, false_implies, not_true_eq_false, not_false_eq_true, and_true, true_and, implies_true, and_self, e72]
        refine J_bits_ok sl ?_
        simp (disch := omega) only [fa_lit0, xI_le_T, xI_le_F, xI_lt_T, xI_lt_F, xI_eq_T, xI_eq_F, xN_a, xN_b, xN_c, xN_d, xN_e, xN_f, xN_g, xN_h, xI_add, xI_mul, xI_sub, xI_tn, xI_in, xI_ofNat, gi_si_eq, gi_n1, gi_n2, gl_sl_eq, gl_n1, gl_n2, gi_sl, gl_si, forall_eq, true_implies, false_implies, not_true_eq_false, not_false_eq_true, and_true, true_and, implies_true, and_self, k_Pl_mostServed_48]
        rw [mx_I (by omega) (by omega)]
        exact ih
      · have e : ms C tg (v + 1) = mxn (ms C tg v) (srv C v (C 0 0) / 2 ^ tg % 2) := by
          show mxn (ms C tg v) (if tg = 9 then cnt (srv C v (C 0 0)) 5 else srv C v (C 0 0) / 2 ^ tg % 2) = _
          rw [if_neg c]
        rw [e] at ih
        rw [if_neg c] at e72
        simp (disch := omega) only [fa_lit0, xI_le_T, xI_le_F, xI_lt_T, xI_lt_F, xI_eq_T, xI_eq_F, xN_a, xN_b, xN_c, xN_d, xN_e, xN_f, xN_g, xN_h, xI_add, xI_mul, xI_sub, xI_tn, xI_in, xI_ofNat, gi_si_eq, gi_n1, gi_n2, gl_sl_eq, gl_n1, gl_n2, gi_sl, gl_si, forall_eq, true_implies, false_implies, not_true_eq_false, not_false_eq_true, and_true, true_and, implies_true, and_self, e72, bs_r sl (show tg < 8 by omega), k_Pl_mostServed_48]
        rw [mx_I (by omega) (by omega)]
        exact ih
  exact ⟨2 ^ C 0 0 + 1, key (2 ^ C 0 0) 0 M (by omega) (Sm.refl _ M) hW⟩
theorem mn3 : ∀ n, n < 4 → (if (3 : Int32) < nI n then (3 : Int32) else nI n) = nI n := by decide +kernel
/-- the best of all -/
def bst (C : Nat → Nat → Nat) (tg K : Nat) (F : Nat → Nat) : Bst := br C tg K 0 F (t0 tg) 0 (fun _ => 0) (0, 0, fun _ => 0)
def SSk (a c : Nat) : Prop := a = 27 ∨ (40 ≤ a ∧ a ≤ 47)
theorem B_seek {C : Nat → Nat → Nat} {tg K : Nat} {F : Nat → Nat} {M : Mm} (hW : CW C M) (ht : tg = 9 ∨ tg < C 0 0) (hK : K ≤ 3) (hF : FlB F M 61) (hO : OkF (C 0 0) F) (h30 : F 30 ≤ 60) {Q : Mm → Prop} (hQ : ∀ M', Sm SSk M M' → CW C M' → BBs tg K (bst C tg K F) M' → Q M') : wp_Pl_seek 61 (nI K) (tI tg) M Q := by
  have hC := hW.1
  have hn := hC.1
  have gb0 : GB tg (0, 0, fun _ => 0) := ⟨by dsimp only; omega, by dsimp only; omega, fun _ => rfl, fun _ => by dsimp only; omega⟩
  have gw0 : GW tg K (0 + t0 tg) 0 := by
    have : t0 tg ≤ 1 ∧ (tg ≠ 9 → t0 tg = 0) := by unfold t0; split <;> omega
    refine ⟨by omega, by omega, fun w => ?_⟩
    have := this.2 w
    omega
  have run : ∀ s0, s0 = (if tg = 9 then -nI 1 else nI 0) → k_Pl_seek_26 61 (nI K) (tI tg) Q s0 (si (si M 40 6 (nI K)) 40 7 (tI tg)) := by
    intro s0 hs0
    unfold k_Pl_seek_26
    have s1 : Sm SSk M (si (si (si (si M 40 6 (nI K)) 40 7 (tI tg)) 40 1 s0) 40 2 (nI 0)) := ((((Sm.refl SSk M).wi (Or.inr (by omega))).wi (Or.inr (by omega))).wi (Or.inr (by omega))).wi (Or.inr (by omega))
    have cw1 : CW C (si (si (si (si M 40 6 (nI K)) 40 7 (tI tg)) 40 1 s0) 40 2 (nI 0)) := hW.sm (S := fun a _ => a = 40) (((((Sm.refl (fun a _ => a = 40) M).wi rfl).wi rfl).wi rfl).wi rfl) (fun a b q => by omega)
    have a1 : gi (si (si (si (si M 40 6 (nI K)) 40 7 (tI tg)) 40 1 s0) 40 2 (nI 0)) 40 1 = s0 := by simp (disch := omega) only [fa_lit0, xI_le_T, xI_le_F, xI_lt_T, xI_lt_F, xI_eq_T, xI_eq_F, xN_a, xN_b, xN_c, xN_d, xN_e, xN_f, xN_g, xN_h, xI_add, xI_mul, xI_sub, xI_tn, xI_in, xI_ofNat, gi_si_eq, gi_n1, gi_n2, gl_sl_eq, gl_n1, gl_n2, gi_sl, gl_si, forall_eq, true_implies, false_implies, not_true_eq_false, not_false_eq_true, and_true, true_and, implies_true, and_self]
    have a2 : gi (si (si (si (si M 40 6 (nI K)) 40 7 (tI tg)) 40 1 s0) 40 2 (nI 0)) 40 2 = nI 0 := by simp (disch := omega) only [fa_lit0, xI_le_T, xI_le_F, xI_lt_T, xI_lt_F, xI_eq_T, xI_eq_F, xN_a, xN_b, xN_c, xN_d, xN_e, xN_f, xN_g, xN_h, xI_add, xI_mul, xI_sub, xI_tn, xI_in, xI_ofNat, gi_si_eq, gi_n1, gi_n2, gl_sl_eq, gl_n1, gl_n2, gi_sl, gl_si, forall_eq, true_implies, false_implies, not_true_eq_false, not_false_eq_true, and_true, true_and, implies_true, and_self]
    have a6 : gi (si (si (si (si M 40 6 (nI K)) 40 7 (tI tg)) 40 1 s0) 40 2 (nI 0)) 40 6 = nI K := by simp (disch := omega) only [fa_lit0, xI_le_T, xI_le_F, xI_lt_T, xI_lt_F, xI_eq_T, xI_eq_F, xN_a, xN_b, xN_c, xN_d, xN_e, xN_f, xN_g, xN_h, xI_add, xI_mul, xI_sub, xI_tn, xI_in, xI_ofNat, gi_si_eq, gi_n1, gi_n2, gl_sl_eq, gl_n1, gl_n2, gi_sl, gl_si, forall_eq, true_implies, false_implies, not_true_eq_false, not_false_eq_true, and_true, true_and, implies_true, and_self]
    have a7 : gi (si (si (si (si M 40 6 (nI K)) 40 7 (tI tg)) 40 1 s0) 40 2 (nI 0)) 40 7 = tI tg := by simp (disch := omega) only [fa_lit0, xI_le_T, xI_le_F, xI_lt_T, xI_lt_F, xI_eq_T, xI_eq_F, xN_a, xN_b, xN_c, xN_d, xN_e, xN_f, xN_g, xN_h, xI_add, xI_mul, xI_sub, xI_tn, xI_in, xI_ofNat, gi_si_eq, gi_n1, gi_n2, gl_sl_eq, gl_n1, gl_n2, gi_sl, gl_si, forall_eq, true_implies, false_implies, not_true_eq_false, not_false_eq_true, and_true, true_and, implies_true, and_self]
    simp (disch := omega) only [fa_lit0, xI_le_T, xI_le_F, xI_lt_T, xI_lt_F, xI_eq_T, xI_eq_F, xN_a, xN_b, xN_c, xN_d, xN_e, xN_f, xN_g, xN_h, xI_add, xI_mul, xI_sub, xI_tn, xI_in, xI_ofNat, gi_si_eq, gi_n1, gi_n2, gl_sl_eq, gl_n1, gl_n2, gi_sl, gl_si, forall_eq, true_implies, false_implies, not_true_eq_false, not_false_eq_true, and_true, true_and, implies_true, and_self]
    generalize si (si (si (si M 40 6 (nI K)) 40 7 (tI tg)) 40 1 s0) 40 2 (nI 0) = M1 at *
    refine B_most2 cw1 ht a7 (fun M2 s2 cw2 => ?_)
    have s3 : Sm (fun a c => a = 27 ∨ (a = 40 ∧ c = 8)) M1 (si M2 40 8 (nI (ms C tg (2 ^ C 0 0)))) := (s2.mono (fun a b q => Or.inl q)).wi (Or.inr ⟨rfl, rfl⟩)
    have cw3 : CW C (si M2 40 8 (nI (ms C tg (2 ^ C 0 0)))) := cw2.sm (S := fun a _ => a = 40) ((Sm.refl _ M2).wi rfl) (fun a b q => by omega)
    have a8 : gi (si M2 40 8 (nI (ms C tg (2 ^ C 0 0)))) 40 8 = nI (ms C tg (2 ^ C 0 0)) := gi_si_eq _ _ _ _
    generalize si M2 40 8 (nI (ms C tg (2 ^ C 0 0))) = M3 at *
    have t3 : Sm SSk M M3 := s1.trans (s3.mono (fun a b q => by unfold SSk; omega))
    have f3 : FlB F M3 61 := hF.sm t3 (fun b => by unfold SSk; omega)
    refine B_copy (k := 43 + 1 + 0) f3 (by omega) (fun M4 s4 f4 => ?_)
    have u4 : Sm (fun a c => a = 27 ∨ (a = 40 ∧ c = 8) ∨ a = 43 + 1 + 0) M1 M4 := (s3.mono (fun a b q => by omega)).trans (s4.mono (fun a b q => by omega))
    have t4 : Sm SSk M M4 := t3.trans (s4.mono (fun a b q => by unfold SSk; omega))
    refine B_search hC ht hK K 8 0 F 0 0 (fun _ => 0) (0, 0, fun _ => 0) M4 _ (by omega) (by omega) (cw3.sm s4 (fun a b q => by omega)) f4 hO (by omega) ((u4.g (by omega)).trans a6) ((u4.g (by omega)).trans a7) ((s4.g (by omega)).trans a8) ⟨?_, (u4.g (by omega)).trans a2, fun w => absurd w (by dsimp only; omega)⟩ gb0 gw0 (fun i hi => by omega) (fun M5 s5 cw5 bb5 => ?_)
    · rw [u4.g (by omega), a1, hs0]
      rfl
    · rw [Nat.zero_add] at bb5
      exact hQ M5 (t4.trans (s5.mono (fun a b q => by unfold SPl at q; unfold SSk; omega))) cw5 bb5
  unfold wp_Pl_seek
  intro x6 e6
  rw [mn3 K (by omega)] at e6
  subst e6
  by_cases c : tg = 9
  · have e : tI tg = -nI 9 := if_pos c
    refine ⟨fun w => absurd e w, fun _ => run _ ?_⟩
    rw [if_pos c]; rfl
  · have e : ¬ tI tg = -nI 9 := by
      unfold tI
      rw [if_neg c]
      intro w
      have : tg < 5 := by omega
      exact absurd w (by simp (disch := omega) only [fa_lit0, xI_le_T, xI_le_F, xI_lt_T, xI_lt_F, xI_eq_T, xI_eq_F, xN_a, xN_b, xN_c, xN_d, xN_e, xN_f, xN_g, xN_h, xI_add, xI_mul, xI_sub, xI_tn, xI_in, xI_ofNat, gi_si_eq, gi_n1, gi_n2, gl_sl_eq, gl_n1, gl_n2, gi_sl, gl_si, forall_eq, true_implies, false_implies, not_true_eq_false, not_false_eq_true, and_true, true_and, implies_true, and_self])
    refine ⟨fun _ => run _ ?_, fun w => absurd w e⟩
    rw [if_neg c]; rfl
theorem B_take {r K : Nat} {M : Mm} (hr : r < 6) (hK : K ≤ 3) (h0 : gi M 4 0 = nI 40) {Q : Mm → Prop} (hQ : ∀ M', Sm (fun a b => a = 7 + r ∨ (a = 5 ∧ b = r)) M M' → gi M' 5 r = nI K → (∀ i, i < K → gi M' (7 + r) i = gi M 41 i) → Q M') : wp_B_takePlan (nI K) (nI r) M Q := by
  unfold wp_B_takePlan
  refine B_make hr (by omega) h0 ?_
  have s1 : Sm (fun a b => a = 7 + r ∨ (a = 5 ∧ b = r)) M (si (fli M (7 + r) 40 (nI 0)) 5 r (nI K)) := by
    refine Sm.wi (fun a b q => ?_) (Or.inr ⟨rfl, rfl⟩)
    rw [gi_fli_ne (by omega), gl_fli]
    exact ⟨rfl, rfl⟩
  have key : ∀ f v M', v + f = K → Sm (fun a b => a = 7 + r ∨ (a = 5 ∧ b = r)) M M' → gi M' 5 r = nI K → (∀ i, i < v → gi M' (7 + r) i = gi M 41 i) → lp_B_takePlan_12 (nI K) (nI r) Q (f + 1) (nI v) M' := by
    intro f
    induction f with
    | zero =>
      intro v M' hvf s e hI
      have : v = K := by omega
      subst this
      show k_B_takePlan_12 (nI v) (nI r) Q _ _ M'
      unfold k_B_takePlan_12
      simp (disch := omega) only [fa_lit0, xI_le_T, xI_le_F, xI_lt_T, xI_lt_F, xI_eq_T, xI_eq_F, xN_a, xN_b, xN_c, xN_d, xN_e, xN_f, xN_g, xN_h, xI_add, xI_mul, xI_sub, xI_tn, xI_in, xI_ofNat, gi_si_eq, gi_n1, gi_n2, gl_sl_eq, gl_n1, gl_n2, gi_sl, gl_si, forall_eq, true_implies, false_implies, not_true_eq_false, not_false_eq_true, and_true, true_and, implies_true, and_self]
      exact hQ M' s e hI
    | succ f ih =>
      intro v M' hvf s e hI
      show k_B_takePlan_12 (nI K) (nI r) Q _ _ M'
      unfold k_B_takePlan_12
      have e41 := s.g (a := 41) (b := v) (by omega)
      simp (disch := omega) only [fa_lit0, xI_le_T, xI_le_F, xI_lt_T, xI_lt_F, xI_eq_T, xI_eq_F, xN_a, xN_b, xN_c, xN_d, xN_e, xN_f, xN_g, xN_h, xI_add, xI_mul, xI_sub, xI_tn, xI_in, xI_ofNat, gi_si_eq, gi_n1, gi_n2, gl_sl_eq, gl_n1, gl_n2, gi_sl, gl_si, forall_eq, true_implies, false_implies, not_true_eq_false, not_false_eq_true, and_true, true_and, implies_true, and_self, wp_Sh_setValue, wp_Sh_hasStretch, wp_Sh_knows, shN_4, shR_4, e, e41]
      refine ih (v + 1) _ (by omega) (s.wi (Or.inl rfl)) ((gi_n1 (by omega)).trans e) (fun i hi => ?_)
      by_cases c : i = v
      · subst c; exact gi_si_eq _ _ _ _
      · rw [gi_n2 c]; exact hI i (by omega)
  exact ⟨K + 1, key K 0 _ (by omega) s1 (gi_si_eq _ _ _ _) (fun i hi => by omega)⟩
