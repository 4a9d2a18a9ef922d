/-! lots -/
def lsD (C : Nat → Nat → Nat) (s : Nat) (F : Nat → Nat) (D : Nat) : Nat → Nat
  | 0 => D
  | m + 1 => if s / 2 ^ m % 2 = 1 ∧ may C (ssF C s F m) m = 1 then lsD C s F D m + 1 else lsD C s F D m
def lsL (C : Nat → Nat → Nat) (s : Nat) (F : Nat → Nat) (D : Nat) (L : Nat → Nat → Nat) : Nat → Nat → Nat → Nat
  | 0 => L
  | m + 1 => if s / 2 ^ m % 2 = 1 ∧ may C (ssF C s F m) m = 1 then upL (lsL C s F D L m) (lsD C s F D m) (ssF C s F m) else lsL C s F D L m
theorem lsD_le (C : Nat → Nat → Nat) (s : Nat) (F : Nat → Nat) (D : Nat) : ∀ m, D ≤ lsD C s F D m ∧ lsD C s F D m ≤ D + m := by
  intro m
  induction m with
  | zero => exact ⟨Nat.le_refl _, Nat.le_refl _⟩
  | succ m ih =>
    unfold lsD
    split
    · exact ⟨by omega, by omega⟩
    · exact ⟨by omega, by omega⟩
theorem ls_ok {C : Nat → Nat → Nat} {F : Nat → Nat} {D s : Nat} {L : Nat → Nat → Nat} (hC : OkC C) (h : OkS C F D L) (hD : D + 6 ≤ 60) : ∀ m, m ≤ C 0 0 → OkS C (ssF C s F m) (lsD C s F D m) (lsL C s F D L m) := by
  intro m
  induction m with
  | zero => intro _; exact h
  | succ m ih =>
    intro hm
    have h1 := ih (by omega)
    have hn := hC.1
    have hl := lsD_le C s F D m
    have hs := h.1.ss (s := s) hC m (by omega)
    unfold ssF lsD lsL
    by_cases c : s / 2 ^ m % 2 = 1 ∧ may C (ssF C s F m) m = 1
    · rw [if_pos c, if_pos c, if_pos c]
      refine (h1.note (by omega)).flow (hs.1.st hC (by omega)) ?_
      rw [stp_30 (by omega), hs.2]
      have := h.2.1
      omega
    · rw [if_neg c, if_neg c, if_neg c]
      exact h1
theorem B_doStamps {C : Nat → Nat → Nat} {F : Nat → Nat} {D s : Nat} {L : Nat → Nat → Nat} {M : Mm} (hC : OkC C) (ok : OkS C F D L) (bs : BS C F D L M) (hD : D + 6 ≤ 60) (hs : s < 32) {Q : Mm → Prop} (h : ∀ M', Sm SBd M M' → BS C (ssF C s F (C 0 0)) (lsD C s F D (C 0 0)) (lsL C s F D L (C 0 0)) M' → Q M') : wp_B_doStamps (nI s) M Q := by
  have hn := hC.1
  have key : ∀ (d m : Nat), m + d = C 0 0 → ∀ M1, Sm SBd M M1 → BS C (ssF C s F m) (lsD C s F D m) (lsL C s F D L m) M1 → lp_B_doStamps_2 (nI s) Q (d + 1) (nI m) M1 := by
    intro d
    induction d with
    | zero =>
      intro m hm M1 s1 b1
      have hm : m = C 0 0 := by omega
      subst hm
      show k_B_doStamps_2 (nI s) Q _ _ M1
      unfold k_B_doStamps_2
      simp (disch := omega) only [fa_lit0, xI_le_T, xI_le_F, xI_lt_T, xI_lt_F, xI_eq_T, xI_eq_F, xN_a, xN_b, xN_c, xN_d, xN_e, xN_f, xN_g, xN_h, xI_add, xI_mul, xI_sub, xI_tn, xI_in, xI_ofNat, gi_si_eq, gi_n1, gi_n2, gl_sl_eq, gl_n1, gl_n2, gi_sl, gl_si, forall_eq, true_implies, false_implies, not_true_eq_false, not_false_eq_true, and_true, true_and, implies_true, and_self, b1.1.2.1.1]
      exact h M1 s1 b1
    | succ d ih =>
      intro m hm M1 s1 b1
      have okm := ls_ok (s := s) hC ok hD m (by omega)
      have hl := lsD_le C s F D m
      have ih1 := ih (m + 1) (by omega)
      have hml := may_le C (ssF C s F m) m
      rw [show ssF C s F (m + 1) = (if s / 2 ^ m % 2 = 1 ∧ may C (ssF C s F m) m = 1 then stp C (ssF C s F m) m else ssF C s F m) from rfl, show lsD C s F D (m + 1) = (if s / 2 ^ m % 2 = 1 ∧ may C (ssF C s F m) m = 1 then lsD C s F D m + 1 else lsD C s F D m) from rfl, show lsL C s F D L (m + 1) = (if s / 2 ^ m % 2 = 1 ∧ may C (ssF C s F m) m = 1 then upL (lsL C s F D L m) (lsD C s F D m) (ssF C s F m) else lsL C s F D L m) from rfl] at ih1
      show k_B_doStamps_2 (nI s) Q _ _ M1
      unfold k_B_doStamps_2
      simp (disch := omega) only [fa_lit0, xI_le_T, xI_le_F, xI_lt_T, xI_lt_F, xI_eq_T, xI_eq_F, xN_a, xN_b, xN_c, xN_d, xN_e, xN_f, xN_g, xN_h, xI_add, xI_mul, xI_sub, xI_tn, xI_in, xI_ofNat, gi_si_eq, gi_n1, gi_n2, gl_sl_eq, gl_n1, gl_n2, gi_sl, gl_si, forall_eq, true_implies, false_implies, not_true_eq_false, not_false_eq_true, and_true, true_and, implies_true, and_self, b1.1.2.1.1]
      refine B_has hs (by omega) ?_
      rcases (show s / 2 ^ m % 2 = 0 ∨ s / 2 ^ m % 2 = 1 by omega) with c | c
      · rw [if_neg (by omega), if_neg (by omega), if_neg (by omega)] at ih1
        simp (disch := omega) only [fa_lit0, xI_le_T, xI_le_F, xI_lt_T, xI_lt_F, xI_eq_T, xI_eq_F, xN_a, xN_b, xN_c, xN_d, xN_e, xN_f, xN_g, xN_h, xI_add, xI_mul, xI_sub, xI_tn, xI_in, xI_ofNat, gi_si_eq, gi_n1, gi_n2, gl_sl_eq, gl_n1, gl_n2, gi_sl, gl_si, forall_eq, true_implies, false_implies, not_true_eq_false, not_false_eq_true, and_true, true_and, implies_true, and_self, c, k_B_doStamps_44]
        exact ih1 M1 s1 b1
      · simp (disch := omega) only [fa_lit0, xI_le_T, xI_le_F, xI_lt_T, xI_lt_F, xI_eq_T, xI_eq_F, xN_a, xN_b, xN_c, xN_d, xN_e, xN_f, xN_g, xN_h, xI_add, xI_mul, xI_sub, xI_tn, xI_in, xI_ofNat, gi_si_eq, gi_n1, gi_n2, gl_sl_eq, gl_n1, gl_n2, gi_sl, gl_si, forall_eq, true_implies, false_implies, not_true_eq_false, not_false_eq_true, and_true, true_and, implies_true, and_self, c]
        refine B_may hC b1.1.2.1 okm.1 b1.2.1 (by omega) ?_
        rcases (show may C (ssF C s F m) m = 0 ∨ may C (ssF C s F m) m = 1 by omega) with c2 | c2
        · rw [if_neg (by omega), if_neg (by omega), if_neg (by omega)] at ih1
          simp (disch := omega) only [fa_lit0, xI_le_T, xI_le_F, xI_lt_T, xI_lt_F, xI_eq_T, xI_eq_F, xN_a, xN_b, xN_c, xN_d, xN_e, xN_f, xN_g, xN_h, xI_add, xI_mul, xI_sub, xI_tn, xI_in, xI_ofNat, gi_si_eq, gi_n1, gi_n2, gl_sl_eq, gl_n1, gl_n2, gi_sl, gl_si, forall_eq, true_implies, false_implies, not_true_eq_false, not_false_eq_true, and_true, true_and, implies_true, and_self, c2, k_B_doStamps_44]
          exact ih1 M1 s1 b1
        · rw [if_pos ⟨c, c2⟩, if_pos ⟨c, c2⟩, if_pos ⟨c, c2⟩] at ih1
          simp (disch := omega) only [fa_lit0, xI_le_T, xI_le_F, xI_lt_T, xI_lt_F, xI_eq_T, xI_eq_F, xN_a, xN_b, xN_c, xN_d, xN_e, xN_f, xN_g, xN_h, xI_add, xI_mul, xI_sub, xI_tn, xI_in, xI_ofNat, gi_si_eq, gi_n1, gi_n2, gl_sl_eq, gl_n1, gl_n2, gi_sl, gl_si, forall_eq, true_implies, false_implies, not_true_eq_false, not_false_eq_true, and_true, true_and, implies_true, and_self, c2, wp_B_doStamp]
          refine B_note b1 (by omega) fun M2 s2 b2 => ?_
          refine B_stampArm b2.1 okm.1 b2.2.1 (by omega) (by omega) fun M3 s3 w3 f3 => ?_
          simp (disch := omega) only [fa_lit0, xI_le_T, xI_le_F, xI_lt_T, xI_lt_F, xI_eq_T, xI_eq_F, xN_a, xN_b, xN_c, xN_d, xN_e, xN_f, xN_g, xN_h, xI_add, xI_mul, xI_sub, xI_tn, xI_in, xI_ofNat, gi_si_eq, gi_n1, gi_n2, gl_sl_eq, gl_n1, gl_n2, gi_sl, gl_si, forall_eq, true_implies, false_implies, not_true_eq_false, not_false_eq_true, and_true, true_and, implies_true, and_self, k_B_doStamps_44]
          exact ih1 M3 ((s1.trans s2).trans (SB_d s3)) (b2.flow (by omega) s3 w3 f3)
  exact ⟨_, key (C 0 0) 0 (by omega) M (Sm.refl _ M) bs⟩
theorem M_doStamps {C : Nat → Nat → Nat} {F : Nat → Nat} {D s : Nat} {L : Nat → Nat → Nat} {M : Mm} {a1 a2 : Int32} {v3 : Int64} {v5 v6 : Int32} {Q : Int32 → Mm → Prop} {K : Int64 → Int32 → Int32 → Mm → Prop} (hC : OkC C) (ok : OkS C F D L) (ms : MS C F D L M) (hD : D + 6 ≤ 60) (hs : s < 32) (h : ∀ M', Sm SMd M M' → MS C (ssF C s F (C 0 0)) (lsD C s F D (C 0 0)) (lsL C s F D L (C 0 0)) M' → K v3 v5 v6 M') : ∃ n, lp_M_lots_87 a1 a2 Q K n v3 v5 v6 (nI s) (nI 0) M := by
  have hn := hC.1
  have key : ∀ (d m : Nat), m + d = C 0 0 → ∀ M1, Sm SMd M M1 → MS C (ssF C s F m) (lsD C s F D m) (lsL C s F D L m) M1 → lp_M_lots_87 a1 a2 Q K (d + 1) v3 v5 v6 (nI s) (nI m) M1 := by
    intro d
    induction d with
    | zero =>
      intro m hm M1 s1 b1
      have hm : m = C 0 0 := by omega
      subst hm
      show k_M_lots_87 a1 a2 Q _ K _ _ _ _ _ M1
      unfold k_M_lots_87
      simp (disch := omega) only [fa_lit0, xI_le_T, xI_le_F, xI_lt_T, xI_lt_F, xI_eq_T, xI_eq_F, xN_a, xN_b, xN_c, xN_d, xN_e, xN_f, xN_g, xN_h, xI_add, xI_mul, xI_sub, xI_tn, xI_in, xI_ofNat, gi_si_eq, gi_n1, gi_n2, gl_sl_eq, gl_n1, gl_n2, gi_sl, gl_si, forall_eq, true_implies, false_implies, not_true_eq_false, not_false_eq_true, and_true, true_and, implies_true, and_self, b1.1.2.1]
      exact h M1 s1 b1
    | succ d ih =>
      intro m hm M1 s1 b1
      have okm := ls_ok (s := s) hC ok hD m (by omega)
      have hl := lsD_le C s F D m
      have ih1 := ih (m + 1) (by omega)
      have hml := may_le C (ssF C s F m) m
      rw [show ssF C s F (m + 1) = (if s / 2 ^ m % 2 = 1 ∧ may C (ssF C s F m) m = 1 then stp C (ssF C s F m) m else ssF C s F m) from rfl, show lsD C s F D (m + 1) = (if s / 2 ^ m % 2 = 1 ∧ may C (ssF C s F m) m = 1 then lsD C s F D m + 1 else lsD C s F D m) from rfl, show lsL C s F D L (m + 1) = (if s / 2 ^ m % 2 = 1 ∧ may C (ssF C s F m) m = 1 then upL (lsL C s F D L m) (lsD C s F D m) (ssF C s F m) else lsL C s F D L m) from rfl] at ih1
      show k_M_lots_87 a1 a2 Q _ K _ _ _ _ _ M1
      unfold k_M_lots_87
      simp (disch := omega) only [fa_lit0, xI_le_T, xI_le_F, xI_lt_T, xI_lt_F, xI_eq_T, xI_eq_F, xN_a, xN_b, xN_c, xN_d, xN_e, xN_f, xN_g, xN_h, xI_add, xI_mul, xI_sub, xI_tn, xI_in, xI_ofNat, gi_si_eq, gi_n1, gi_n2, gl_sl_eq, gl_n1, gl_n2, gi_sl, gl_si, forall_eq, true_implies, false_implies, not_true_eq_false, not_false_eq_true, and_true, true_and, implies_true, and_self, b1.1.2.1]
      refine M_has hs (by omega) ?_
      rcases (show s / 2 ^ m % 2 = 0 ∨ s / 2 ^ m % 2 = 1 by omega) with c | c
      · rw [if_neg (by omega), if_neg (by omega), if_neg (by omega)] at ih1
        simp (disch := omega) only [fa_lit0, xI_le_T, xI_le_F, xI_lt_T, xI_lt_F, xI_eq_T, xI_eq_F, xN_a, xN_b, xN_c, xN_d, xN_e, xN_f, xN_g, xN_h, xI_add, xI_mul, xI_sub, xI_tn, xI_in, xI_ofNat, gi_si_eq, gi_n1, gi_n2, gl_sl_eq, gl_n1, gl_n2, gi_sl, gl_si, forall_eq, true_implies, false_implies, not_true_eq_false, not_false_eq_true, and_true, true_and, implies_true, and_self, c, k_M_lots_113]
        exact ih1 M1 s1 b1
      · simp (disch := omega) only [fa_lit0, xI_le_T, xI_le_F, xI_lt_T, xI_lt_F, xI_eq_T, xI_eq_F, xN_a, xN_b, xN_c, xN_d, xN_e, xN_f, xN_g, xN_h, xI_add, xI_mul, xI_sub, xI_tn, xI_in, xI_ofNat, gi_si_eq, gi_n1, gi_n2, gl_sl_eq, gl_n1, gl_n2, gi_sl, gl_si, forall_eq, true_implies, false_implies, not_true_eq_false, not_false_eq_true, and_true, true_and, implies_true, and_self, c, wp_M_stamp]
        refine M_anArm hn b1.1.2.1 (by omega) ?_
        simp (disch := omega) only [fa_lit0, xI_le_T, xI_le_F, xI_lt_T, xI_lt_F, xI_eq_T, xI_eq_F, xN_a, xN_b, xN_c, xN_d, xN_e, xN_f, xN_g, xN_h, xI_add, xI_mul, xI_sub, xI_tn, xI_in, xI_ofNat, gi_si_eq, gi_n1, gi_n2, gl_sl_eq, gl_n1, gl_n2, gi_sl, gl_si, forall_eq, true_implies, false_implies, not_true_eq_false, not_false_eq_true, and_true, true_and, implies_true, and_self]
        refine M_may b1.1 okm.1 b1.2.1 (by omega) (by omega) ?_
        rcases (show may C (ssF C s F m) m = 0 ∨ may C (ssF C s F m) m = 1 by omega) with c2 | c2
        · rw [if_neg (by omega), if_neg (by omega), if_neg (by omega)] at ih1
          simp (disch := omega) only [fa_lit0, xI_le_T, xI_le_F, xI_lt_T, xI_lt_F, xI_eq_T, xI_eq_F, xN_a, xN_b, xN_c, xN_d, xN_e, xN_f, xN_g, xN_h, xI_add, xI_mul, xI_sub, xI_tn, xI_in, xI_ofNat, gi_si_eq, gi_n1, gi_n2, gl_sl_eq, gl_n1, gl_n2, gi_sl, gl_si, forall_eq, true_implies, false_implies, not_true_eq_false, not_false_eq_true, and_true, true_and, implies_true, and_self, c2, k_M_lots_113]
          exact ih1 M1 s1 b1
        · rw [if_pos ⟨c, c2⟩, if_pos ⟨c, c2⟩, if_pos ⟨c, c2⟩] at ih1
          simp (disch := omega) only [fa_lit0, xI_le_T, xI_le_F, xI_lt_T, xI_lt_F, xI_eq_T, xI_eq_F, xN_a, xN_b, xN_c, xN_d, xN_e, xN_f, xN_g, xN_h, xI_add, xI_mul, xI_sub, xI_tn, xI_in, xI_ofNat, gi_si_eq, gi_n1, gi_n2, gl_sl_eq, gl_n1, gl_n2, gi_sl, gl_si, forall_eq, true_implies, false_implies, not_true_eq_false, not_false_eq_true, and_true, true_and, implies_true, and_self, c2, b1.2.2.1]
          refine M_note b1 (by omega) fun M2 s2 b2 => ?_
          refine M_stamps b2.1 okm.1 b2.2.1 (by omega) (by omega) fun M3 s3 w3 f3 => ?_
          refine M_openSet w3 (okm.1.st hC (by omega)) f3 (by omega) ?_
          simp (disch := omega) only [fa_lit0, xI_le_T, xI_le_F, xI_lt_T, xI_lt_F, xI_eq_T, xI_eq_F, xN_a, xN_b, xN_c, xN_d, xN_e, xN_f, xN_g, xN_h, xI_add, xI_mul, xI_sub, xI_tn, xI_in, xI_ofNat, gi_si_eq, gi_n1, gi_n2, gl_sl_eq, gl_n1, gl_n2, gi_sl, gl_si, forall_eq, true_implies, false_implies, not_true_eq_false, not_false_eq_true, and_true, true_and, implies_true, and_self, k_M_lots_113]
          exact ih1 M3 ((s1.trans s2).trans (SM_d s3)) (b2.flow s3 w3 f3)
  exact ⟨_, key (C 0 0) 0 (by omega) M (Sm.refl _ M) ms⟩
/-- how the lots end: flow, deeds, log, harvests -/
def lend (C : Nat → Nat → Nat) : Nat → Nat → (Nat → Nat) × Nat × (Nat → Nat → Nat) × Nat → (Nat → Nat) × Nat × (Nat → Nat → Nat) × Nat
  | 0, _, p => p
  | d + 1, x, p => if p.2.1 + 6 ≤ 60 then lend C d (x * 48271 % 2147483647) (gob C (ssF C (x * 48271 % 2147483647 / 32 % 2 ^ C 0 0) p.1 (C 0 0)), lsD C (x * 48271 % 2147483647 / 32 % 2 ^ C 0 0) p.1 p.2.1 (C 0 0) + 1, upL (lsL C (x * 48271 % 2147483647 / 32 % 2 ^ C 0 0) p.1 p.2.1 p.2.2.1 (C 0 0)) (lsD C (x * 48271 % 2147483647 / 32 % 2 ^ C 0 0) p.1 p.2.1 (C 0 0)) (ssF C (x * 48271 % 2147483647 / 32 % 2 ^ C 0 0) p.1 (C 0 0)), p.2.2.2 + cnt (hv C (ssF C (x * 48271 % 2147483647 / 32 % 2 ^ C 0 0) p.1 (C 0 0))) 5) else p
theorem ls_next {C : Nat → Nat → Nat} {F : Nat → Nat} {D s : Nat} {L : Nat → Nat → Nat} (hC : OkC C) (h : OkS C F D L) (hD : D + 6 ≤ 60) : OkS C (gob C (ssF C s F (C 0 0))) (lsD C s F D (C 0 0) + 1) (upL (lsL C s F D L (C 0 0)) (lsD C s F D (C 0 0)) (ssF C s F (C 0 0))) := by
  have h1 := ls_ok (s := s) hC h hD (C 0 0) (Nat.le_refl _)
  have hl := lsD_le C s F D (C 0 0)
  have hn := hC.1
  have h2 := h1.2.1
  refine (h1.note (by omega)).flow (h1.1.go hC (by omega)) ?_
  rw [gob_30]
  omega
theorem lotB {x n : Nat} (hx : x < 2147483647) (hn : n ≤ 5) : (lN x * 48271 - lN x * 48271 / 2147483647 * 2147483647) = lN (x * 48271 % 2147483647) ∧ ((lN (x * 48271 % 2147483647) / 32).toInt32 &&& (nI (2 ^ n) - nI 1)) = nI (x * 48271 % 2147483647 / 32 % 2 ^ n) := by
  have e1 : (48271 : Int64) = lN 48271 := rfl
  have e2 : (2147483647 : Int64) = lN 2147483647 := rfl
  have e3 : (32 : Int64) = lN 32 := rfl
  have hm : x * 48271 % 2147483647 < 2147483647 := Nat.mod_lt _ (by omega)
  have hp : 0 < 2 ^ n := Nat.two_pow_pos n
  refine ⟨?_, ?_⟩
  · rw [e1, e2, lN_mul, pk_lRem (by omega) (by omega) (by omega)]
  · rw [e3, pk_lDiv (by omega) (by omega) (by omega), lN_i, pk_sub (by omega)]
    exact pk_andN (by omega) n (by
      have := p5 hn
      rw [pk_tn (by omega)])
theorem lotM {x n : Nat} (hx : x < 2147483647) (hn : n ≤ 5) : (48271 * lN x - 48271 * lN x / 2147483647 * 2147483647) = lN (x * 48271 % 2147483647) ∧ ((lN (x * 48271 % 2147483647) / 32) - (lN (x * 48271 % 2147483647) / 32) / (nI (2 ^ n)).toInt64 * (nI (2 ^ n)).toInt64).toInt32 = nI (x * 48271 % 2147483647 / 32 % 2 ^ n) ∧ ((nI (2 ^ n)).toInt64 = 0) = False := by
  have e1 : (48271 : Int64) = lN 48271 := rfl
  have e2 : (2147483647 : Int64) = lN 2147483647 := rfl
  have e3 : (32 : Int64) = lN 32 := rfl
  have hm : x * 48271 % 2147483647 < 2147483647 := Nat.mod_lt _ (by omega)
  have hp : 0 < 2 ^ n := Nat.two_pow_pos n
  have h5 := p5 hn
  refine ⟨?_, ?_, lN_ne0 hp (by omega)⟩
  · rw [e1, e2, lN_mul, Nat.mul_comm, pk_lRem (by omega) (by omega) (by omega)]
  · rw [e3, pk_lDiv (by omega) (by omega) (by omega), nI_l (by omega), pk_lRem (by omega) hp (by omega), lN_i]
theorem lg_T {x : Nat} (hx : x < 2147483647) : (lg_cmp (nI x).toInt64 2147483647 < 0) = True := by
  apply eq_true
  rw [nI_l (by omega), show (2147483647 : Int64) = lN 2147483647 from rfl]
  unfold lg_cmp
  rw [if_neg, if_neg]
  · decide
  · intro w
    have := (pk_lEQ (by omega) (by omega)).mp w
    omega
  · intro w
    have := (pk_lLT (by omega) (by omega)).mp w
    omega
theorem lg_F : (lg_cmp (nI 2147483647).toInt64 2147483647 < 0) = False := eq_false (by decide)
theorem B_lots {C : Nat → Nat → Nat} {q : Nat} {a2 : Int32} {M : Mm} (hC : OkC C) (hq : q ≤ 20) {Q : Int32 → Mm → Prop} : ∀ (d k x : Nat) (p : (Nat → Nat) × Nat × (Nat → Nat → Nat) × Nat) (M1 : Mm), k + d = q → x < 2147483647 → p.2.2.2 ≤ 5 * k → OkS C p.1 p.2.1 p.2.2.1 → Sm SBd M M1 → BS C p.1 p.2.1 p.2.2.1 M1 → (∀ M', Sm SBd M M' → OkS C (lend C d x p).1 (lend C d x p).2.1 (lend C d x p).2.2.1 → BS C (lend C d x p).1 (lend C d x p).2.1 (lend C d x p).2.2.1 M' → Q (nI (lend C d x p).2.2.2) M') → lp_B_lots_49 (nI q) a2 Q (d + 1) (lN x) (nI p.2.2.2) (nI k) M1 := by
  have hn := hC.1
  intro d
  induction d with
  | zero =>
    intro k x p M1 hk hx hp ok s1 b1 hQ
    have hk : k = q := by omega
    subst hk
    show k_B_lots_49 (nI k) a2 Q _ _ _ _ M1
    unfold k_B_lots_49
    simp (disch := omega) only [fa_lit0, xI_le_T, xI_le_F, xI_lt_T, xI_lt_F, xI_eq_T, xI_eq_F, xN_a, xN_b, xN_c, xN_d, xN_e, xN_f, xN_g, xN_h, xI_add, xI_mul, xI_sub, xI_tn, xI_in, xI_ofNat, gi_si_eq, gi_n1, gi_n2, gl_sl_eq, gl_n1, gl_n2, gi_sl, gl_si, forall_eq, true_implies, false_implies, not_true_eq_false, not_false_eq_true, and_true, true_and, implies_true, and_self]
    exact hQ M1 s1 ok b1
  | succ d ih =>
    intro k x p M1 hk hx hp ok s1 b1 hQ
    have hD := ok.2.2.1
    have h5 := p5 hn
    have h2p : 0 < 2 ^ C 0 0 := Nat.two_pow_pos _
    obtain ⟨e1, e2⟩ := lotB hx hn
    have hm : x * 48271 % 2147483647 < 2147483647 := Nat.mod_lt _ (by omega)
    have hs : x * 48271 % 2147483647 / 32 % 2 ^ C 0 0 < 2 ^ C 0 0 := Nat.mod_lt _ h2p
    show k_B_lots_49 (nI q) a2 Q _ _ _ _ M1
    unfold k_B_lots_49
    unfold lend at hQ
    by_cases c : p.2.1 + 6 ≤ 60
    · rw [if_pos c] at hQ
      simp (disch := omega) only [fa_lit0, xI_le_T, xI_le_F, xI_lt_T, xI_lt_F, xI_eq_T, xI_eq_F, xN_a, xN_b, xN_c, xN_d, xN_e, xN_f, xN_g, xN_h, xI_add, xI_mul, xI_sub, xI_tn, xI_in, xI_ofNat, gi_si_eq, gi_n1, gi_n2, gl_sl_eq, gl_n1, gl_n2, gi_sl, gl_si, forall_eq, true_implies, false_implies, not_true_eq_false, not_false_eq_true, and_true, true_and, implies_true, and_self, b1.2.2.1]
      rw [e1]
      refine B_sets hC b1.1.2.1 ?_
      rw [e2]
      generalize x * 48271 % 2147483647 / 32 % 2 ^ C 0 0 = s at *
      refine B_doStamps hC ok b1 c (by omega) fun M2 s2 b2 => ?_
      have hl := lsD_le C s p.1 p.2.1 (C 0 0)
      have ok2 := ls_ok (s := s) hC ok c (C 0 0) (Nat.le_refl _)
      have ok3 := ls_next (s := s) hC ok c
      have h30 := ok2.2.1
      unfold wp_B_doSeason
      refine B_note b2 (by omega) fun M3 s3 b3 => ?_
      refine B_goBy b3.1 ok2.1 b3.2.1 (by omega) fun M4 s4 w4 f4 => ?_
      have lc := cnt_le (hv C (ssF C s p.1 (C 0 0))) 5
      refine J_bits_ok (hv_lt hC _) ?_
      simp (disch := omega) only [fa_lit0, xI_le_T, xI_le_F, xI_lt_T, xI_lt_F, xI_eq_T, xI_eq_F, xN_a, xN_b, xN_c, xN_d, xN_e, xN_f, xN_g, xN_h, xI_add, xI_mul, xI_sub, xI_tn, xI_in, xI_ofNat, gi_si_eq, gi_n1, gi_n2, gl_sl_eq, gl_n1, gl_n2, gi_sl, gl_si, forall_eq, true_implies, false_implies, not_true_eq_false, not_false_eq_true, and_true, true_and, implies_true, and_self]
      exact ih (k + 1) _ (gob C (ssF C s p.1 (C 0 0)), lsD C s p.1 p.2.1 (C 0 0) + 1, upL (lsL C s p.1 p.2.1 p.2.2.1 (C 0 0)) (lsD C s p.1 p.2.1 (C 0 0)) (ssF C s p.1 (C 0 0)), p.2.2.2 + cnt (hv C (ssF C s p.1 (C 0 0))) 5) M4 (by omega) hm (by show p.2.2.2 + _ ≤ _; omega) ok3 (((s1.trans s2).trans s3).trans (SB_d s4)) (b3.flow (by omega) s4 w4 f4) hQ
    · rw [if_neg c] at hQ
      simp (disch := omega) only [fa_lit0, xI_le_T, xI_le_F, xI_lt_T, xI_lt_F, xI_eq_T, xI_eq_F, xN_a, xN_b, xN_c, xN_d, xN_e, xN_f, xN_g, xN_h, xI_add, xI_mul, xI_sub, xI_tn, xI_in, xI_ofNat, gi_si_eq, gi_n1, gi_n2, gl_sl_eq, gl_n1, gl_n2, gi_sl, gl_si, forall_eq, true_implies, false_implies, not_true_eq_false, not_false_eq_true, and_true, true_and, implies_true, and_self, b1.2.2.1]
      exact hQ M1 s1 ok b1
theorem M_lots {C : Nat → Nat → Nat} {q : Nat} {a2 : Int32} {M : Mm} (hC : OkC C) (hq : q ≤ 20) {Q : Int32 → Mm → Prop} : ∀ (d k x : Nat) (p : (Nat → Nat) × Nat × (Nat → Nat → Nat) × Nat) (M1 : Mm), k + d = q → x < 2147483647 → p.2.2.2 ≤ 5 * k → OkS C p.1 p.2.1 p.2.2.1 → Sm SMd M M1 → MS C p.1 p.2.1 p.2.2.1 M1 → (∀ M', Sm SMd M M' → MS C (lend C d x p).1 (lend C d x p).2.1 (lend C d x p).2.2.1 M' → Q (nI (lend C d x p).2.2.2) M') → lp_M_lots_42 (nI q) a2 Q (d + 1) (lN x) (nI p.2.2.2) (nI k) M1 := by
  have hn := hC.1
  intro d
  induction d with
  | zero =>
    intro k x p M1 hk hx hp ok s1 b1 hQ
    have hk : k = q := by omega
    subst hk
    show k_M_lots_42 (nI k) a2 Q _ _ _ _ M1
    unfold k_M_lots_42
    simp (disch := omega) only [fa_lit0, xI_le_T, xI_le_F, xI_lt_T, xI_lt_F, xI_eq_T, xI_eq_F, xN_a, xN_b, xN_c, xN_d, xN_e, xN_f, xN_g, xN_h, xI_add, xI_mul, xI_sub, xI_tn, xI_in, xI_ofNat, gi_si_eq, gi_n1, gi_n2, gl_sl_eq, gl_n1, gl_n2, gi_sl, gl_si, forall_eq, true_implies, false_implies, not_true_eq_false, not_false_eq_true, and_true, true_and, implies_true, and_self]
    exact hQ M1 s1 b1
  | succ d ih =>
    intro k x p M1 hk hx hp ok s1 b1 hQ
    have hD := ok.2.2.1
    have h5 := p5 hn
    have h2p : 0 < 2 ^ C 0 0 := Nat.two_pow_pos _
    obtain ⟨e1, e2, e3⟩ := lotM hx hn
    have hm : x * 48271 % 2147483647 < 2147483647 := Nat.mod_lt _ (by omega)
    have hs : x * 48271 % 2147483647 / 32 % 2 ^ C 0 0 < 2 ^ C 0 0 := Nat.mod_lt _ h2p
    show k_M_lots_42 (nI q) a2 Q _ _ _ _ M1
    unfold k_M_lots_42
    unfold lend at hQ
    by_cases c : p.2.1 + 6 ≤ 60
    · rw [if_pos c] at hQ
      simp (disch := omega) only [fa_lit0, xI_le_T, xI_le_F, xI_lt_T, xI_lt_F, xI_eq_T, xI_eq_F, xN_a, xN_b, xN_c, xN_d, xN_e, xN_f, xN_g, xN_h, xI_add, xI_mul, xI_sub, xI_tn, xI_in, xI_ofNat, gi_si_eq, gi_n1, gi_n2, gl_sl_eq, gl_n1, gl_n2, gi_sl, gl_si, forall_eq, true_implies, false_implies, not_true_eq_false, not_false_eq_true, and_true, true_and, implies_true, and_self, b1.2.2.1]
      rw [e1]
      refine M_sets b1.1 ?_
      rw [e2]
      generalize x * 48271 % 2147483647 / 32 % 2 ^ C 0 0 = s at *
      simp (disch := omega) only [fa_lit0, xI_le_T, xI_le_F, xI_lt_T, xI_lt_F, xI_eq_T, xI_eq_F, xN_a, xN_b, xN_c, xN_d, xN_e, xN_f, xN_g, xN_h, xI_add, xI_mul, xI_sub, xI_tn, xI_in, xI_ofNat, gi_si_eq, gi_n1, gi_n2, gl_sl_eq, gl_n1, gl_n2, gi_sl, gl_si, forall_eq, true_implies, false_implies, not_true_eq_false, not_false_eq_true, and_true, true_and, implies_true, and_self, e3]
      refine M_doStamps hC ok b1 c (by omega) fun M2 s2 b2 => ?_
      have hl := lsD_le C s p.1 p.2.1 (C 0 0)
      have ok2 := ls_ok (s := s) hC ok c (C 0 0) (Nat.le_refl _)
      have ok3 := ls_next (s := s) hC ok c
      have h30 := ok2.2.1
      refine M_note b2 (by omega) fun M3 s3 b3 => ?_
      refine M_passes b3.1 ok2.1 b3.2.1 (by omega) fun M4 s4 w4 f4 i4 => ?_
      have lc := cnt_le (hv C (ssF C s p.1 (C 0 0))) 5
      simp (disch := omega) only [fa_lit0, xI_le_T, xI_le_F, xI_lt_T, xI_lt_F, xI_eq_T, xI_eq_F, xN_a, xN_b, xN_c, xN_d, xN_e, xN_f, xN_g, xN_h, xI_add, xI_mul, xI_sub, xI_tn, xI_in, xI_ofNat, gi_si_eq, gi_n1, gi_n2, gl_sl_eq, gl_n1, gl_n2, gi_sl, gl_si, forall_eq, true_implies, false_implies, not_true_eq_false, not_false_eq_true, and_true, true_and, implies_true, and_self]
      exact ih (k + 1) _ (gob C (ssF C s p.1 (C 0 0)), lsD C s p.1 p.2.1 (C 0 0) + 1, upL (lsL C s p.1 p.2.1 p.2.2.1 (C 0 0)) (lsD C s p.1 p.2.1 (C 0 0)) (ssF C s p.1 (C 0 0)), p.2.2.2 + cnt (hv C (ssF C s p.1 (C 0 0))) 5) M4 (by omega) hm (by show p.2.2.2 + _ ≤ _; omega) ok3 (((s1.trans s2).trans s3).trans (SM_d s4)) (b3.flow s4 w4 f4) hQ
    · rw [if_neg c] at hQ
      simp (disch := omega) only [fa_lit0, xI_le_T, xI_le_F, xI_lt_T, xI_lt_F, xI_eq_T, xI_eq_F, xN_a, xN_b, xN_c, xN_d, xN_e, xN_f, xN_g, xN_h, xI_add, xI_mul, xI_sub, xI_tn, xI_in, xI_ofNat, gi_si_eq, gi_n1, gi_n2, gl_sl_eq, gl_n1, gl_n2, gi_sl, gl_si, forall_eq, true_implies, false_implies, not_true_eq_false, not_false_eq_true, and_true, true_and, implies_true, and_self, b1.2.2.1]
      exact hQ M1 s1 b1
theorem op_lots {a1 a2 : Int32} {M : Mm} (h : Rel RDel M) : wp_B_lots a1 a2 M (fun r M1 => wp_M_lots a1 a2 M1 (fun r2 M2 => r = r2 ∧ Rel RDel M2)) := by
  obtain ⟨C, F, D, L, T, N, V, KL, hd⟩ := h.2.2.2.2.2.2.out
  obtain ⟨hC, hB, hW, hO, hF, hG, hcw⟩ := hd.parts
  have hn := hC.1
  have b1 := hB.1
  have m1 := hW.2.1
  have n1 : ∀ {a : Int32}, a < 0 → (a < nI 1) = True := fun g => ng_e g (by omega)
  rcases pk_ix a1 (n := 21) (by omega) with g | g | ⟨q, hq, rfl⟩
  · simp (disch := omega) only [fa_lit0, xI_le_T, xI_le_F, xI_lt_T, xI_lt_F, xI_eq_T, xI_eq_F, xN_a, xN_b, xN_c, xN_d, xN_e, xN_f, xN_g, xN_h, xI_add, xI_mul, xI_sub, xI_tn, xI_in, xI_ofNat, gi_si_eq, gi_n1, gi_n2, gl_sl_eq, gl_n1, gl_n2, gi_sl, gl_si, forall_eq, true_implies, false_implies, not_true_eq_false, not_false_eq_true, and_true, true_and, implies_true, and_self, wp_B_lots, wp_M_lots, wp_M_in, n1 g]; exact h
  · simp (disch := omega) only [fa_lit0, xI_le_T, xI_le_F, xI_lt_T, xI_lt_F, xI_eq_T, xI_eq_F, xN_a, xN_b, xN_c, xN_d, xN_e, xN_f, xN_g, xN_h, xI_add, xI_mul, xI_sub, xI_tn, xI_in, xI_ofNat, gi_si_eq, gi_n1, gi_n2, gl_sl_eq, gl_n1, gl_n2, gi_sl, gl_si, forall_eq, true_implies, false_implies, not_true_eq_false, not_false_eq_true, and_true, true_and, implies_true, and_self, wp_B_lots, wp_M_lots, wp_M_in, bg_a g, bg_c g]; exact h
  · by_cases q0 : q = 0
    · subst q0
      simp (disch := omega) only [fa_lit0, xI_le_T, xI_le_F, xI_lt_T, xI_lt_F, xI_eq_T, xI_eq_F, xN_a, xN_b, xN_c, xN_d, xN_e, xN_f, xN_g, xN_h, xI_add, xI_mul, xI_sub, xI_tn, xI_in, xI_ofNat, gi_si_eq, gi_n1, gi_n2, gl_sl_eq, gl_n1, gl_n2, gi_sl, gl_si, forall_eq, true_implies, false_implies, not_true_eq_false, not_false_eq_true, and_true, true_and, implies_true, and_self, wp_B_lots, wp_M_lots, wp_M_in]; exact h
    · rcases pk_ix a2 (n := 2147483647) (by omega) with g | g | ⟨x, hx, rfl⟩
      · simp (disch := omega) only [fa_lit0, xI_le_T, xI_le_F, xI_lt_T, xI_lt_F, xI_eq_T, xI_eq_F, xN_a, xN_b, xN_c, xN_d, xN_e, xN_f, xN_g, xN_h, xI_add, xI_mul, xI_sub, xI_tn, xI_in, xI_ofNat, gi_si_eq, gi_n1, gi_n2, gl_sl_eq, gl_n1, gl_n2, gi_sl, gl_si, forall_eq, true_implies, false_implies, not_true_eq_false, not_false_eq_true, and_true, true_and, implies_true, and_self, wp_B_lots, wp_M_lots, wp_M_in, n1 g]; exact h
      · have e : a2 = nI 2147483647 := by
          have h1 : a2.toInt < 2147483648 := by have := Int32.toInt_lt a2; exact this
          rw [Int32.le_iff_toInt_le, nI_toInt (by omega)] at g
          apply Int32.toInt_inj.mp
          rw [nI_toInt (by omega)]
          omega
        subst e
        unfold wp_B_lots
        rw [show ((lg_cmp (nI 2147483647).toInt64 2147483647) < 0) = False from lg_F]
        simp (disch := omega) only [fa_lit0, xI_le_T, xI_le_F, xI_lt_T, xI_lt_F, xI_eq_T, xI_eq_F, xN_a, xN_b, xN_c, xN_d, xN_e, xN_f, xN_g, xN_h, xI_add, xI_mul, xI_sub, xI_tn, xI_in, xI_ofNat, gi_si_eq, gi_n1, gi_n2, gl_sl_eq, gl_n1, gl_n2, gi_sl, gl_si, forall_eq, true_implies, false_implies, not_true_eq_false, not_false_eq_true, and_true, true_and, implies_true, and_self, wp_M_lots, wp_M_in]
        exact h
      · by_cases x0 : x = 0
        · subst x0
          simp (disch := omega) only [fa_lit0, xI_le_T, xI_le_F, xI_lt_T, xI_lt_F, xI_eq_T, xI_eq_F, xN_a, xN_b, xN_c, xN_d, xN_e, xN_f, xN_g, xN_h, xI_add, xI_mul, xI_sub, xI_tn, xI_in, xI_ofNat, gi_si_eq, gi_n1, gi_n2, gl_sl_eq, gl_n1, gl_n2, gi_sl, gl_si, forall_eq, true_implies, false_implies, not_true_eq_false, not_false_eq_true, and_true, true_and, implies_true, and_self, wp_B_lots, wp_M_lots, wp_M_in]; exact h
        · have lt := lg_T hx
          unfold wp_B_lots
          rw [show ((lg_cmp (nI x).toInt64 2147483647) < 0) = True from lt]
          by_cases c : C 0 0 = 0
          · simp (disch := omega) only [fa_lit0, xI_le_T, xI_le_F, xI_lt_T, xI_lt_F, xI_eq_T, xI_eq_F, xN_a, xN_b, xN_c, xN_d, xN_e, xN_f, xN_g, xN_h, xI_add, xI_mul, xI_sub, xI_tn, xI_in, xI_ofNat, gi_si_eq, gi_n1, gi_n2, gl_sl_eq, gl_n1, gl_n2, gi_sl, gl_si, forall_eq, true_implies, false_implies, not_true_eq_false, not_false_eq_true, and_true, true_and, implies_true, and_self, b1, c, wp_M_lots, wp_M_in, m1]; exact h
          · obtain ⟨ok, bs, ms⟩ := hd.bs (by omega)
            simp (disch := omega) only [fa_lit0, xI_le_T, xI_le_F, xI_lt_T, xI_lt_F, xI_eq_T, xI_eq_F, xN_a, xN_b, xN_c, xN_d, xN_e, xN_f, xN_g, xN_h, xI_add, xI_mul, xI_sub, xI_tn, xI_in, xI_ofNat, gi_si_eq, gi_n1, gi_n2, gl_sl_eq, gl_n1, gl_n2, gi_sl, gl_si, forall_eq, true_implies, false_implies, not_true_eq_false, not_false_eq_true, and_true, true_and, implies_true, and_self, b1]
            rw [nI_l (by omega)]
            refine ⟨_, B_lots (M := M) hC (by omega) q 0 x (F, D, L, 0) M (by omega) hx (Nat.zero_le _) ok (Sm.refl _ M) bs ?_⟩
            intro M1 s1 ok1 b1'
            unfold wp_M_lots
            have mw1 := MS_sBd ms s1
            simp (disch := omega) only [fa_lit0, xI_le_T, xI_le_F, xI_lt_T, xI_lt_F, xI_eq_T, xI_eq_F, xN_a, xN_b, xN_c, xN_d, xN_e, xN_f, xN_g, xN_h, xI_add, xI_mul, xI_sub, xI_tn, xI_in, xI_ofNat, gi_si_eq, gi_n1, gi_n2, gl_sl_eq, gl_n1, gl_n2, gi_sl, gl_si, forall_eq, true_implies, false_implies, not_true_eq_false, not_false_eq_true, and_true, true_and, implies_true, and_self, wp_M_in, mw1.1.2.1]
            rw [nI_l (by omega)]
            refine ⟨_, M_lots (M := M1) hC (by omega) q 0 x (F, D, L, 0) M1 (by omega) hx (Nat.zero_le _) ok (Sm.refl _ M1) mw1 ?_⟩
            intro M2 s2 m2
            refine ⟨rfl, ?_⟩
            have st : Sm SDt M M2 := (s1.mono (fun a b w => Or.inl w)).trans (s2.mono (fun a b w => Or.inr (Or.inl w)))
            refine deed_fin h hd st ok1 (BS_sMd b1' ok1.2.2.1 s2) m2 ?_
            exact h.2.2.2.2.1.sm (S := fun a b => SBd a b ∨ SMd a b) ((s1.mono (fun a b w => Or.inl w)).trans (s2.mono (fun a b w => Or.inr w))) (by unfold SBd SMd; omega) (by unfold SBd SMd; omega)
