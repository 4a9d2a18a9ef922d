/-! chances -/
def hl : Nat → Nat × Nat → Nat × Nat
  | 0, p => p
  | k + 1, p => if (p.1 ||| p.2) % 2 = 0 then hl k (p.1 / 2, p.2 / 2) else p
theorem hl_gcd : ∀ q, q < 6 → ∀ g, g < 33 → g ≤ 2 ^ q → hl 5 (g, if g = 0 then 1 else 2 ^ q) = (g / Nat.gcd g (2 ^ q), 2 ^ q / Nat.gcd g (2 ^ q)) := by decide +kernel
theorem B_tell {g c : Nat} (hg : g < 33) (hc : c < 33) {M : Mm} {Q : Mm → Prop} (h : Q (sl (sl M 0 14 (lN (hl 5 (g, if g = 0 then 1 else c)).1)) 0 15 (lN (hl 5 (g, if g = 0 then 1 else c)).2))) : wp_B_tellChances (nI g) (nI c) M Q := by
  have key : ∀ (K : Int32 → Int32 → Mm → Prop) (d m a b : Nat), m + d = 5 → a < 33 → b < 33 → ((hl d (a, b)).1 < 33 → (hl d (a, b)).2 < 33 → K (nI (hl d (a, b)).1) (nI (hl d (a, b)).2) M) → lp_B_tellChances_16 (nI g) (nI c) Q K (d + 1) (nI a) (nI b) (nI m) M := by
    intro K d
    induction d with
    | zero =>
      intro m a b hm ha hb hK
      have hm : m = 5 := by omega
      subst hm
      show k_B_tellChances_16 (nI g) (nI c) Q _ K _ _ _ M
      unfold k_B_tellChances_16
      simp (disch := omega) only [fa_lit0, xI_le_T, xI_le_F, xI_lt_T, xI_lt_F, xI_eq_T, xI_eq_F, xN_a, xN_b, xN_c, xN_d, xN_e, xN_f, xN_g, xN_h, xI_add, xI_mul, xI_sub, xI_tn, xI_in, xI_ofNat, gi_si_eq, gi_n1, gi_n2, gl_sl_eq, gl_n1, gl_n2, gi_sl, gl_si, forall_eq, true_implies, false_implies, not_true_eq_false, not_false_eq_true, and_true, true_and, implies_true, and_self]
      exact hK ha hb
    | succ d ih =>
      intro m a b hm ha hb hK
      show k_B_tellChances_16 (nI g) (nI c) Q _ K _ _ _ M
      unfold k_B_tellChances_16
      have hab : a ||| b < 2 ^ 6 := Nat.or_lt_two_pow (by omega) (by omega)
      simp (disch := omega) only [fa_lit0, xI_le_T, xI_le_F, xI_lt_T, xI_lt_F, xI_eq_T, xI_eq_F, xN_a, xN_b, xN_c, xN_d, xN_e, xN_f, xN_g, xN_h, xI_add, xI_mul, xI_sub, xI_tn, xI_in, xI_ofNat, gi_si_eq, gi_n1, gi_n2, gl_sl_eq, gl_n1, gl_n2, gi_sl, gl_si, forall_eq, true_implies, false_implies, not_true_eq_false, not_false_eq_true, and_true, true_and, implies_true, and_self, bs_or, xI_rem]
      rw [show hl (d + 1) (a, b) = if (a ||| b) % 2 = 0 then hl d (a / 2, b / 2) else (a, b) from rfl] at hK
      by_cases v : (a ||| b) % 2 = 0
      · rw [if_pos v] at hK
        simp (disch := omega) only [fa_lit0, xI_le_T, xI_le_F, xI_lt_T, xI_lt_F, xI_eq_T, xI_eq_F, xN_a, xN_b, xN_c, xN_d, xN_e, xN_f, xN_g, xN_h, xI_add, xI_mul, xI_sub, xI_tn, xI_in, xI_ofNat, gi_si_eq, gi_n1, gi_n2, gl_sl_eq, gl_n1, gl_n2, gi_sl, gl_si, forall_eq, true_implies, false_implies, not_true_eq_false, not_false_eq_true, and_true, true_and, implies_true, and_self, v, xI_div]
        exact ih (m + 1) (a / 2) (b / 2) (by omega) (by omega) (by omega) hK
      · rw [if_neg v] at hK
        simp (disch := omega) only [fa_lit0, xI_le_T, xI_le_F, xI_lt_T, xI_lt_F, xI_eq_T, xI_eq_F, xN_a, xN_b, xN_c, xN_d, xN_e, xN_f, xN_g, xN_h, xI_add, xI_mul, xI_sub, xI_tn, xI_in, xI_ofNat, gi_si_eq, gi_n1, gi_n2, gl_sl_eq, gl_n1, gl_n2, gi_sl, gl_si, forall_eq, true_implies, false_implies, not_true_eq_false, not_false_eq_true, and_true, true_and, implies_true, and_self]
        exact hK ha hb
  have go : ∀ b, b < 33 → b = (if g = 0 then 1 else c) → k_B_tellChances_11 (nI g) (nI c) Q (nI g) (nI b) M := by
    intro b hb eb
    subst eb
    unfold k_B_tellChances_11
    simp (disch := omega) only [fa_lit0, xI_le_T, xI_le_F, xI_lt_T, xI_lt_F, xI_eq_T, xI_eq_F, xN_a, xN_b, xN_c, xN_d, xN_e, xN_f, xN_g, xN_h, xI_add, xI_mul, xI_sub, xI_tn, xI_in, xI_ofNat, gi_si_eq, gi_n1, gi_n2, gl_sl_eq, gl_n1, gl_n2, gi_sl, gl_si, forall_eq, true_implies, false_implies, not_true_eq_false, not_false_eq_true, and_true, true_and, implies_true, and_self]
    refine ⟨_, key _ 5 0 g _ (by omega) hg hb fun h1 h2 => ?_⟩
    unfold k_B_tellChances_47
    simp (disch := omega) only [fa_lit0, xI_le_T, xI_le_F, xI_lt_T, xI_lt_F, xI_eq_T, xI_eq_F, xN_a, xN_b, xN_c, xN_d, xN_e, xN_f, xN_g, xN_h, xI_add, xI_mul, xI_sub, xI_tn, xI_in, xI_ofNat, gi_si_eq, gi_n1, gi_n2, gl_sl_eq, gl_n1, gl_n2, gi_sl, gl_si, forall_eq, true_implies, false_implies, not_true_eq_false, not_false_eq_true, and_true, true_and, implies_true, and_self]
    rw [nI_l (by omega), nI_l (by omega)]
    exact h
  unfold wp_B_tellChances
  by_cases v : g = 0
  · have := go 1 (by omega) (by rw [if_pos v])
    subst v
    simp (disch := omega) only [fa_lit0, xI_le_T, xI_le_F, xI_lt_T, xI_lt_F, xI_eq_T, xI_eq_F, xN_a, xN_b, xN_c, xN_d, xN_e, xN_f, xN_g, xN_h, xI_add, xI_mul, xI_sub, xI_tn, xI_in, xI_ofNat, gi_si_eq, gi_n1, gi_n2, gl_sl_eq, gl_n1, gl_n2, gi_sl, gl_si, forall_eq, true_implies, false_implies, not_true_eq_false, not_false_eq_true, and_true, true_and, implies_true, and_self]
    exact this
  · have := go c hc (by rw [if_neg v])
    simp (disch := omega) only [fa_lit0, xI_le_T, xI_le_F, xI_lt_T, xI_lt_F, xI_eq_T, xI_eq_F, xN_a, xN_b, xN_c, xN_d, xN_e, xN_f, xN_g, xN_h, xI_add, xI_mul, xI_sub, xI_tn, xI_in, xI_ofNat, gi_si_eq, gi_n1, gi_n2, gl_sl_eq, gl_n1, gl_n2, gi_sl, gl_si, forall_eq, true_implies, false_implies, not_true_eq_false, not_false_eq_true, and_true, true_and, implies_true, and_self]
    exact this
theorem M_part {u l : Nat} (hu : u < 33) (hl : l < 33) (h0 : 0 < l) {M : Mm} {Q : Int32 → Mm → Prop} (h : Q (nI 1) (sl (sl M 312 3 (lN (u / Nat.gcd u l))) 312 4 (lN (l / Nat.gcd u l)))) : wp_M_part (nI u) (nI l) M Q := by
  have key : ∀ (K : Int32 → Mm → Prop), K (nI (Nat.gcd u l)) M → ∀ (d a b : Nat), b ≤ d → a < 33 → b < 33 → Nat.gcd a b = Nat.gcd u l → lp_M_part_5 (nI u) (nI l) Q K (d + 1) (nI a) (nI b) M := by
    intro K hK d
    induction d with
    | zero =>
      intro a b hd ha hb e
      have : b = 0 := by omega
      subst this
      rw [Nat.gcd_zero_right] at e
      show k_M_part_5 (nI u) (nI l) Q _ K _ _ M
      unfold k_M_part_5
      simp (disch := omega) only [fa_lit0, xI_le_T, xI_le_F, xI_lt_T, xI_lt_F, xI_eq_T, xI_eq_F, xN_a, xN_b, xN_c, xN_d, xN_e, xN_f, xN_g, xN_h, xI_add, xI_mul, xI_sub, xI_tn, xI_in, xI_ofNat, gi_si_eq, gi_n1, gi_n2, gl_sl_eq, gl_n1, gl_n2, gi_sl, gl_si, forall_eq, true_implies, false_implies, not_true_eq_false, not_false_eq_true, and_true, true_and, implies_true, and_self]
      rw [e]
      exact hK
    | succ d ih =>
      intro a b hd ha hb e
      show k_M_part_5 (nI u) (nI l) Q _ K _ _ M
      unfold k_M_part_5
      by_cases v : b = 0
      · subst v
        rw [Nat.gcd_zero_right] at e
        simp (disch := omega) only [fa_lit0, xI_le_T, xI_le_F, xI_lt_T, xI_lt_F, xI_eq_T, xI_eq_F, xN_a, xN_b, xN_c, xN_d, xN_e, xN_f, xN_g, xN_h, xI_add, xI_mul, xI_sub, xI_tn, xI_in, xI_ofNat, gi_si_eq, gi_n1, gi_n2, gl_sl_eq, gl_n1, gl_n2, gi_sl, gl_si, forall_eq, true_implies, false_implies, not_true_eq_false, not_false_eq_true, and_true, true_and, implies_true, and_self]
        rw [e]
        exact hK
      · have hm : a % b < b := Nat.mod_lt _ (by omega)
        simp (disch := omega) only [fa_lit0, xI_le_T, xI_le_F, xI_lt_T, xI_lt_F, xI_eq_T, xI_eq_F, xN_a, xN_b, xN_c, xN_d, xN_e, xN_f, xN_g, xN_h, xI_add, xI_mul, xI_sub, xI_tn, xI_in, xI_ofNat, gi_si_eq, gi_n1, gi_n2, gl_sl_eq, gl_n1, gl_n2, gi_sl, gl_si, forall_eq, true_implies, false_implies, not_true_eq_false, not_false_eq_true, and_true, true_and, implies_true, and_self, xI_rem]
        refine ih b (a % b) (by omega) hb (by omega) ?_
        rw [← e, Nat.gcd_comm a b, Nat.gcd_rec b a, Nat.gcd_comm]
  have gp : 0 < Nat.gcd u l := Nat.gcd_pos_of_pos_right _ h0
  have gl : Nat.gcd u l ≤ l := Nat.le_of_dvd h0 (Nat.gcd_dvd_right u l)
  unfold wp_M_part
  refine ⟨_, key _ ?_ l u l (Nat.le_refl _) hu hl rfl⟩
  have q1 : u / Nat.gcd u l ≤ u := Nat.div_le_self _ _
  have q2 : l / Nat.gcd u l ≤ l := Nat.div_le_self _ _
  simp (disch := omega) only [fa_lit0, xI_le_T, xI_le_F, xI_lt_T, xI_lt_F, xI_eq_T, xI_eq_F, xN_a, xN_b, xN_c, xN_d, xN_e, xN_f, xN_g, xN_h, xI_add, xI_mul, xI_sub, xI_tn, xI_in, xI_ofNat, gi_si_eq, gi_n1, gi_n2, gl_sl_eq, gl_n1, gl_n2, gi_sl, gl_si, forall_eq, true_implies, false_implies, not_true_eq_false, not_false_eq_true, and_true, true_and, implies_true, and_self, xI_div]
  rw [nI_l (by omega), nI_l (by omega)]
  exact h
def oc (f : Nat) : Nat → Nat
  | 0 => 0
  | s + 1 => oc f s + (if (s &&& (31 - f)) = 0 then 1 else 0)
theorem oc_pow : ∀ n, n < 6 → ∀ f, f < 2 ^ n → oc f (2 ^ n) = 2 ^ cnt f 5 := by decide +kernel
def og (C : Nat → Nat → Nat) (F : Nat → Nat) (f i : Nat) : Nat → Nat
  | 0 => 0
  | s + 1 => og C F f i s + (if (s &&& (31 - f)) = 0 then hv C (ssF C s F (C 0 0)) / 2 ^ i % 2 else 0)
theorem og_le (C : Nat → Nat → Nat) (F : Nat → Nat) (f i : Nat) : ∀ s, og C F f i s ≤ oc f s ∧ oc f s ≤ s := by
  intro s
  induction s with
  | zero => exact ⟨Nat.le_refl _, Nat.le_refl _⟩
  | succ s ih =>
    unfold og oc
    split
    · exact ⟨by omega, by omega⟩
    · exact ⟨by omega, by omega⟩
theorem B_stampable {C : Nat → Nat → Nat} {F : Nat → Nat} {M : Mm} (hC : OkC C) (hB : ChB C M) (hO : OkF (C 0 0) F) (hF : FlB F M 61) {Q : Int32 → Mm → Prop} (h : Q (nI (ps (may C F) 0 (C 0 0))) M) : wp_Fl_stampable 61 20 M Q := by
  have hn := hC.1
  have b1 := hB.1
  have key : ∀ (d m : Nat), m + d = C 0 0 → lp_Fl_stampable_4 61 20 Q (d + 1) (nI (ps (may C F) 0 m)) (nI m) M := by
    intro d
    induction d with
    | zero =>
      intro m hm
      have hm : m = C 0 0 := by omega
      subst hm
      show k_Fl_stampable_4 61 20 Q _ _ _ M
      unfold k_Fl_stampable_4
      simp (disch := omega) only [fa_lit0, xI_le_T, xI_le_F, xI_lt_T, xI_lt_F, xI_eq_T, xI_eq_F, xN_a, xN_b, xN_c, xN_d, xN_e, xN_f, xN_g, xN_h, xI_add, xI_mul, xI_sub, xI_tn, xI_in, xI_ofNat, gi_si_eq, gi_n1, gi_n2, gl_sl_eq, gl_n1, gl_n2, gi_sl, gl_si, forall_eq, true_implies, false_implies, not_true_eq_false, not_false_eq_true, and_true, true_and, implies_true, and_self, b1]
      exact h
    | succ d ih =>
      intro m hm
      have ih1 := ih (m + 1) (by omega)
      have e : ps (may C F) 0 (m + 1) = ps (may C F) 0 m + may C F m * 2 ^ m := by
        show ps (may C F) 0 m + may C F (0 + m) * 2 ^ m = _
        rw [Nat.zero_add]
      show k_Fl_stampable_4 61 20 Q _ _ _ M
      unfold k_Fl_stampable_4
      simp (disch := omega) only [fa_lit0, xI_le_T, xI_le_F, xI_lt_T, xI_lt_F, xI_eq_T, xI_eq_F, xN_a, xN_b, xN_c, xN_d, xN_e, xN_f, xN_g, xN_h, xI_add, xI_mul, xI_sub, xI_tn, xI_in, xI_ofNat, gi_si_eq, gi_n1, gi_n2, gl_sl_eq, gl_n1, gl_n2, gi_sl, gl_si, forall_eq, true_implies, false_implies, not_true_eq_false, not_false_eq_true, and_true, true_and, implies_true, and_self, b1]
      refine B_may hC hB hO hF (by omega) ?_
      rcases (show may C F m = 0 ∨ may C F m = 1 by have := may_le C F m; omega) with v | v
      · rw [e, v, Nat.zero_mul, Nat.add_zero] at ih1
        simp (disch := omega) only [fa_lit0, xI_le_T, xI_le_F, xI_lt_T, xI_lt_F, xI_eq_T, xI_eq_F, xN_a, xN_b, xN_c, xN_d, xN_e, xN_f, xN_g, xN_h, xI_add, xI_mul, xI_sub, xI_tn, xI_in, xI_ofNat, gi_si_eq, gi_n1, gi_n2, gl_sl_eq, gl_n1, gl_n2, gi_sl, gl_si, forall_eq, true_implies, false_implies, not_true_eq_false, not_false_eq_true, and_true, true_and, implies_true, and_self, v, k_Fl_stampable_29, or_top0]
        exact ih1
      · rw [e, v, Nat.one_mul] at ih1
        simp (disch := omega) only [fa_lit0, xI_le_T, xI_le_F, xI_lt_T, xI_lt_F, xI_eq_T, xI_eq_F, xN_a, xN_b, xN_c, xN_d, xN_e, xN_f, xN_g, xN_h, xI_add, xI_mul, xI_sub, xI_tn, xI_in, xI_ofNat, gi_si_eq, gi_n1, gi_n2, gl_sl_eq, gl_n1, gl_n2, gi_sl, gl_si, forall_eq, true_implies, false_implies, not_true_eq_false, not_false_eq_true, and_true, true_and, implies_true, and_self, v, k_Fl_stampable_29, bs_l]
        rw [or_top m (by omega) _ (ps_lt (fun i _ => may_le _ _ _) m (by omega))]
        exact ih1
  exact ⟨_, key (C 0 0) 0 (by omega)⟩
theorem op_odds {a1 : Int32} {M : Mm} (h : Rel RDel M) : wp_B_odds a1 M (fun r M1 => wp_M_odds a1 M1 (fun r2 M2 => r = r2 ∧ Rel RDel M2)) := by
  obtain ⟨C, F, D, L, T, N, V, KL, hd⟩ := h.2.2.2.2.2.2.out
  obtain ⟨hC, hB, hW, hO, hF, hG, hcw⟩ := hd.parts
  have hn := hC.1
  have h2n := p5 hn
  have h60 : F 30 ≤ 60 := Nat.le_trans hd.2.2.1 hd.2.2.2.1.1
  unfold wp_B_odds
  rcases arm_cases a1 hC.1 with g | ⟨i, hi, rfl⟩
  · refine B_noArm hC.1 hB.1 g ?_
    simp (disch := omega) only [fa_lit0, xI_le_T, xI_le_F, xI_lt_T, xI_lt_F, xI_eq_T, xI_eq_F, xN_a, xN_b, xN_c, xN_d, xN_e, xN_f, xN_g, xN_h, xI_add, xI_mul, xI_sub, xI_tn, xI_in, xI_ofNat, gi_si_eq, gi_n1, gi_n2, gl_sl_eq, gl_n1, gl_n2, gi_sl, gl_si, forall_eq, true_implies, false_implies, not_true_eq_false, not_false_eq_true, and_true, true_and, implies_true, and_self, wp_M_odds]
    refine M_noArm hC.1 hW.2.1 g ?_
    simp (disch := omega) only [fa_lit0, xI_le_T, xI_le_F, xI_lt_T, xI_lt_F, xI_eq_T, xI_eq_F, xN_a, xN_b, xN_c, xN_d, xN_e, xN_f, xN_g, xN_h, xI_add, xI_mul, xI_sub, xI_tn, xI_in, xI_ofNat, gi_si_eq, gi_n1, gi_n2, gl_sl_eq, gl_n1, gl_n2, gi_sl, gl_si, forall_eq, true_implies, false_implies, not_true_eq_false, not_false_eq_true, and_true, true_and, implies_true, and_self]
    exact h
  · refine B_anArm hC.1 hB.1 hi ?_
    simp (disch := omega) only [fa_lit0, xI_le_T, xI_le_F, xI_lt_T, xI_lt_F, xI_eq_T, xI_eq_F, xN_a, xN_b, xN_c, xN_d, xN_e, xN_f, xN_g, xN_h, xI_add, xI_mul, xI_sub, xI_tn, xI_in, xI_ofNat, gi_si_eq, gi_n1, gi_n2, gl_sl_eq, gl_n1, gl_n2, gi_sl, gl_si, forall_eq, true_implies, false_implies, not_true_eq_false, not_false_eq_true, and_true, true_and, implies_true, and_self]
    have cw := hcw (by omega)
    refine B_stampable hC hB hO hF ?_
    have lf0 := ps_lt (F := may C F) (b := 0) (fun i _ => may_le _ _ _) (C 0 0) hn
    have lf := lt_32 lf0 hn
    have keyM0 : ∀ (Q : Int32 → Mm → Prop) (K : Int32 → Mm → Prop) (M0 : Mm), MW C M0 → FM F M0 0 → K (nI (ps (may C F) 0 (C 0 0))) M0 → ∃ n, lp_M_odds_14 (nI i) Q K n (nI 0) (nI 0) M0 := by
      intro Q K M0 w0 g0 hK
      have m1 := w0.2.1
      have key : ∀ (d m : Nat), m + d = C 0 0 → lp_M_odds_14 (nI i) Q K (d + 1) (nI (ps (may C F) 0 m)) (nI m) M0 := by
        intro d
        induction d with
        | zero =>
          intro m hm
          have hm : m = C 0 0 := by omega
          subst hm
          show k_M_odds_14 (nI i) Q _ K _ _ M0
          unfold k_M_odds_14
          simp (disch := omega) only [fa_lit0, xI_le_T, xI_le_F, xI_lt_T, xI_lt_F, xI_eq_T, xI_eq_F, xN_a, xN_b, xN_c, xN_d, xN_e, xN_f, xN_g, xN_h, xI_add, xI_mul, xI_sub, xI_tn, xI_in, xI_ofNat, gi_si_eq, gi_n1, gi_n2, gl_sl_eq, gl_n1, gl_n2, gi_sl, gl_si, forall_eq, true_implies, false_implies, not_true_eq_false, not_false_eq_true, and_true, true_and, implies_true, and_self, m1]
          exact hK
        | succ d ih =>
          intro m hm
          have ih1 := ih (m + 1) (by omega)
          have e : ps (may C F) 0 (m + 1) = ps (may C F) 0 m + may C F m * 2 ^ m := by
            show ps (may C F) 0 m + may C F (0 + m) * 2 ^ m = _
            rw [Nat.zero_add]
          show k_M_odds_14 (nI i) Q _ K _ _ M0
          unfold k_M_odds_14
          simp (disch := omega) only [fa_lit0, xI_le_T, xI_le_F, xI_lt_T, xI_lt_F, xI_eq_T, xI_eq_F, xN_a, xN_b, xN_c, xN_d, xN_e, xN_f, xN_g, xN_h, xI_add, xI_mul, xI_sub, xI_tn, xI_in, xI_ofNat, gi_si_eq, gi_n1, gi_n2, gl_sl_eq, gl_n1, gl_n2, gi_sl, gl_si, forall_eq, true_implies, false_implies, not_true_eq_false, not_false_eq_true, and_true, true_and, implies_true, and_self, m1]
          refine M_may w0 hO g0 (by omega) (by omega) ?_
          rcases (show may C F m = 0 ∨ may C F m = 1 by have := may_le C F m; omega) with v | v
          · rw [e, v, Nat.zero_mul, Nat.add_zero] at ih1
            simp (disch := omega) only [fa_lit0, xI_le_T, xI_le_F, xI_lt_T, xI_lt_F, xI_eq_T, xI_eq_F, xN_a, xN_b, xN_c, xN_d, xN_e, xN_f, xN_g, xN_h, xI_add, xI_mul, xI_sub, xI_tn, xI_in, xI_ofNat, gi_si_eq, gi_n1, gi_n2, gl_sl_eq, gl_n1, gl_n2, gi_sl, gl_si, forall_eq, true_implies, false_implies, not_true_eq_false, not_false_eq_true, and_true, true_and, implies_true, and_self, v, k_M_odds_39, or_top0]
            exact ih1
          · rw [e, v, Nat.one_mul] at ih1
            simp (disch := omega) only [fa_lit0, xI_le_T, xI_le_F, xI_lt_T, xI_lt_F, xI_eq_T, xI_eq_F, xN_a, xN_b, xN_c, xN_d, xN_e, xN_f, xN_g, xN_h, xI_add, xI_mul, xI_sub, xI_tn, xI_in, xI_ofNat, gi_si_eq, gi_n1, gi_n2, gl_sl_eq, gl_n1, gl_n2, gi_sl, gl_si, forall_eq, true_implies, false_implies, not_true_eq_false, not_false_eq_true, and_true, true_and, implies_true, and_self, v, k_M_odds_39, bs_l]
            rw [or_top m (by omega) _ (ps_lt (fun i _ => may_le _ _ _) m (by omega))]
            exact ih1
      exact ⟨_, key (C 0 0) 0 (by omega)⟩
    have op := oc_pow (C 0 0) (by omega) _ lf0
    generalize hf : ps (may C F) 0 (C 0 0) = f at *
    have keyB : ∀ (Q : Int32 → Mm → Prop) (K : Int32 → Int32 → Mm → Prop), (∀ M', EB C F M M' → K (nI (oc f (2 ^ C 0 0))) (nI (og C F f i (2 ^ C 0 0))) M') → ∀ (d m : Nat), m + d = 2 ^ C 0 0 → ∀ M1, EB C F M M1 → lp_B_odds_36 (nI i) Q K (d + 1) (nI f) (nI (oc f m)) (nI (og C F f i m)) (nI m) M1 := by
      intro Q K hQ d
      induction d with
      | zero =>
        intro m hm M1 b1
        have hm : m = 2 ^ C 0 0 := by omega
        subst hm
        show k_B_odds_36 (nI i) Q _ K _ _ _ _ M1
        unfold k_B_odds_36
        refine B_sets hC b1.2.1.2.1 ?_
        simp (disch := omega) only [fa_lit0, xI_le_T, xI_le_F, xI_lt_T, xI_lt_F, xI_eq_T, xI_eq_F, xN_a, xN_b, xN_c, xN_d, xN_e, xN_f, xN_g, xN_h, xI_add, xI_mul, xI_sub, xI_tn, xI_in, xI_ofNat, gi_si_eq, gi_n1, gi_n2, gl_sl_eq, gl_n1, gl_n2, gi_sl, gl_si, forall_eq, true_implies, false_implies, not_true_eq_false, not_false_eq_true, and_true, true_and, implies_true, and_self]
        exact hQ M1 b1
      | succ d ih =>
        intro m hm M1 b1
        have ih1 := ih (m + 1) (by omega)
        have gl := og_le C F f i m
        rw [show oc f (m + 1) = oc f m + (if (m &&& (31 - f)) = 0 then 1 else 0) from rfl, show og C F f i (m + 1) = og C F f i m + (if (m &&& (31 - f)) = 0 then hv C (ssF C m F (C 0 0)) / 2 ^ i % 2 else 0) from rfl] at ih1
        have la := and_lt m (by omega) (31 - f) (by omega)
        show k_B_odds_36 (nI i) Q _ K _ _ _ _ M1
        unfold k_B_odds_36
        refine B_sets hC b1.2.1.2.1 ?_
        simp (disch := omega) only [fa_lit0, xI_le_T, xI_le_F, xI_lt_T, xI_lt_F, xI_eq_T, xI_eq_F, xN_a, xN_b, xN_c, xN_d, xN_e, xN_f, xN_g, xN_h, xI_add, xI_mul, xI_sub, xI_tn, xI_in, xI_ofNat, gi_si_eq, gi_n1, gi_n2, gl_sl_eq, gl_n1, gl_n2, gi_sl, gl_si, forall_eq, true_implies, false_implies, not_true_eq_false, not_false_eq_true, and_true, true_and, implies_true, and_self]
        rw [and_not m (by omega) f lf]
        by_cases c : (m &&& (31 - f)) = 0
        · rw [if_pos c, if_pos c] at ih1
          rw [c]
          simp (disch := omega) only [fa_lit0, xI_le_T, xI_le_F, xI_lt_T, xI_lt_F, xI_eq_T, xI_eq_F, xN_a, xN_b, xN_c, xN_d, xN_e, xN_f, xN_g, xN_h, xI_add, xI_mul, xI_sub, xI_tn, xI_in, xI_ofNat, gi_si_eq, gi_n1, gi_n2, gl_sl_eq, gl_n1, gl_n2, gi_sl, gl_si, forall_eq, true_implies, false_implies, not_true_eq_false, not_false_eq_true, and_true, true_and, implies_true, and_self]
          refine B_copy b1.2.2 (by omega) fun M2 s2 f2 => ?_
          have w2 : CW C M2 := b1.2.1.sm s2 (by omega)
          refine B_stampSet w2 hO f2 (by omega) (by omega) fun M3 s3 w3 f3 => ?_
          have hOs := hO.ss (s := m) hC (C 0 0) (Nat.le_refl _)
          refine B_harvestable w3 hOs.1 f3 (by omega) fun M4 s4 w4 f4 => ?_
          have lh := hv_lt hC (ssF C m F (C 0 0))
          simp (disch := omega) only [fa_lit0, xI_le_T, xI_le_F, xI_lt_T, xI_lt_F, xI_eq_T, xI_eq_F, xN_a, xN_b, xN_c, xN_d, xN_e, xN_f, xN_g, xN_h, xI_add, xI_mul, xI_sub, xI_tn, xI_in, xI_ofNat, gi_si_eq, gi_n1, gi_n2, gl_sl_eq, gl_n1, gl_n2, gi_sl, gl_si, forall_eq, true_implies, false_implies, not_true_eq_false, not_false_eq_true, and_true, true_and, implies_true, and_self, bs_r, k_B_odds_108]
          exact ih1 M4 (((b1.next (s2.mono (fun a b w => Or.inl w)) w2).next s3 w3).next (s4.mono (fun a b w => Or.inr w)) w4)
        · rw [if_neg c, if_neg c] at ih1
          simp (disch := omega) only [fa_lit0, xI_le_T, xI_le_F, xI_lt_T, xI_lt_F, xI_eq_T, xI_eq_F, xN_a, xN_b, xN_c, xN_d, xN_e, xN_f, xN_g, xN_h, xI_add, xI_mul, xI_sub, xI_tn, xI_in, xI_ofNat, gi_si_eq, gi_n1, gi_n2, gl_sl_eq, gl_n1, gl_n2, gi_sl, gl_si, forall_eq, true_implies, false_implies, not_true_eq_false, not_false_eq_true, and_true, true_and, implies_true, and_self, k_B_odds_108]
          exact ih1 M1 b1
    refine ⟨_, keyB _ _ ?_ (2 ^ C 0 0) 0 (by omega) M ⟨Sm.refl _ M, cw, hF⟩⟩
    intro M1 b1
    have gle := og_le C F f i (2 ^ C 0 0)
    refine B_tell (by omega) (by omega) ?_
    have cl := cnt_le f 5
    have hh := hl_gcd (cnt f 5) (by omega) (og C F f i (2 ^ C 0 0)) (by omega) (by rw [← op]; exact gle.1)
    rw [← op] at hh
    rw [hh]
    have s0 : Sm (fun a b => SB 3 a b ∨ (a = 0 ∧ (b = 14 ∨ b = 15))) M (sl (sl M1 0 14 (lN (og C F f i (2 ^ C 0 0) / Nat.gcd (og C F f i (2 ^ C 0 0)) (oc f (2 ^ C 0 0))))) 0 15 (lN (oc f (2 ^ C 0 0) / Nat.gcd (og C F f i (2 ^ C 0 0)) (oc f (2 ^ C 0 0))))) := ((b1.1.mono (fun a b w => Or.inl w)).wl (Or.inr ⟨rfl, Or.inl rfl⟩)).wl (Or.inr ⟨rfl, Or.inr rfl⟩)
    have t0 : ChS C (sl (sl M1 0 14 (lN (og C F f i (2 ^ C 0 0) / Nat.gcd (og C F f i (2 ^ C 0 0)) (oc f (2 ^ C 0 0))))) 0 15 (lN (oc f (2 ^ C 0 0) / Nat.gcd (og C F f i (2 ^ C 0 0)) (oc f (2 ^ C 0 0))))) := b1.2.1.2.2.sm (S := fun a _ => a = 0) (((Sm.refl (fun a (_ : Nat) => a = 0) M1).wl rfl).wl rfl) (fun b => by omega)
    have u1 : gl (sl (sl M1 0 14 (lN (og C F f i (2 ^ C 0 0) / Nat.gcd (og C F f i (2 ^ C 0 0)) (oc f (2 ^ C 0 0))))) 0 15 (lN (oc f (2 ^ C 0 0) / Nat.gcd (og C F f i (2 ^ C 0 0)) (oc f (2 ^ C 0 0))))) 0 14 = lN (og C F f i (2 ^ C 0 0) / Nat.gcd (og C F f i (2 ^ C 0 0)) (oc f (2 ^ C 0 0))) := by simp (disch := omega) only [fa_lit0, xI_le_T, xI_le_F, xI_lt_T, xI_lt_F, xI_eq_T, xI_eq_F, xN_a, xN_b, xN_c, xN_d, xN_e, xN_f, xN_g, xN_h, xI_add, xI_mul, xI_sub, xI_tn, xI_in, xI_ofNat, gi_si_eq, gi_n1, gi_n2, gl_sl_eq, gl_n1, gl_n2, gi_sl, gl_si, forall_eq, true_implies, false_implies, not_true_eq_false, not_false_eq_true, and_true, true_and, implies_true, and_self]
    have u2 : gl (sl (sl M1 0 14 (lN (og C F f i (2 ^ C 0 0) / Nat.gcd (og C F f i (2 ^ C 0 0)) (oc f (2 ^ C 0 0))))) 0 15 (lN (oc f (2 ^ C 0 0) / Nat.gcd (og C F f i (2 ^ C 0 0)) (oc f (2 ^ C 0 0))))) 0 15 = lN (oc f (2 ^ C 0 0) / Nat.gcd (og C F f i (2 ^ C 0 0)) (oc f (2 ^ C 0 0))) := by simp (disch := omega) only [fa_lit0, xI_le_T, xI_le_F, xI_lt_T, xI_lt_F, xI_eq_T, xI_eq_F, xN_a, xN_b, xN_c, xN_d, xN_e, xN_f, xN_g, xN_h, xI_add, xI_mul, xI_sub, xI_tn, xI_in, xI_ofNat, gi_si_eq, gi_n1, gi_n2, gl_sl_eq, gl_n1, gl_n2, gi_sl, gl_si, forall_eq, true_implies, false_implies, not_true_eq_false, not_false_eq_true, and_true, true_and, implies_true, and_self]
    generalize sl (sl M1 0 14 (lN (og C F f i (2 ^ C 0 0) / Nat.gcd (og C F f i (2 ^ C 0 0)) (oc f (2 ^ C 0 0))))) 0 15 (lN (oc f (2 ^ C 0 0) / Nat.gcd (og C F f i (2 ^ C 0 0)) (oc f (2 ^ C 0 0)))) = M2 at *
    have w2 : MW C M2 := hW.sm s0 (fun a b w => by unfold SB; omega)
    have g2 : FM F M2 0 := hG.sm s0 (fun b q1 q2 => by unfold SB; omega)
    unfold wp_M_odds
    refine M_anArm hC.1 w2.2.1 hi ?_
    simp (disch := omega) only [fa_lit0, xI_le_T, xI_le_F, xI_lt_T, xI_lt_F, xI_eq_T, xI_eq_F, xN_a, xN_b, xN_c, xN_d, xN_e, xN_f, xN_g, xN_h, xI_add, xI_mul, xI_sub, xI_tn, xI_in, xI_ofNat, gi_si_eq, gi_n1, gi_n2, gl_sl_eq, gl_n1, gl_n2, gi_sl, gl_si, forall_eq, true_implies, false_implies, not_true_eq_false, not_false_eq_true, and_true, true_and, implies_true, and_self]
    refine keyM0 _ _ _ w2 g2 ?_
    have keyM : ∀ (Q : Int32 → Mm → Prop) (K : Int32 → Int32 → Mm → Prop), (∀ M', EM C F M2 M' → K (nI (oc f (2 ^ C 0 0))) (nI (og C F f i (2 ^ C 0 0))) M') → ∀ (d m : Nat), m + d = 2 ^ C 0 0 → ∀ M3, EM C F M2 M3 → lp_M_odds_55 (nI i) Q K (d + 1) (nI f) (nI (oc f m)) (nI (og C F f i m)) (nI m) M3 := by
      intro Q K hQ d
      induction d with
      | zero =>
        intro m hm M3 b1
        have hm : m = 2 ^ C 0 0 := by omega
        subst hm
        show k_M_odds_55 (nI i) Q _ K _ _ _ _ M3
        unfold k_M_odds_55
        refine M_sets b1.2.1 ?_
        simp (disch := omega) only [fa_lit0, xI_le_T, xI_le_F, xI_lt_T, xI_lt_F, xI_eq_T, xI_eq_F, xN_a, xN_b, xN_c, xN_d, xN_e, xN_f, xN_g, xN_h, xI_add, xI_mul, xI_sub, xI_tn, xI_in, xI_ofNat, gi_si_eq, gi_n1, gi_n2, gl_sl_eq, gl_n1, gl_n2, gi_sl, gl_si, forall_eq, true_implies, false_implies, not_true_eq_false, not_false_eq_true, and_true, true_and, implies_true, and_self]
        exact hQ M3 b1
      | succ d ih =>
        intro m hm M3 b1
        have ih1 := ih (m + 1) (by omega)
        have gl := og_le C F f i m
        rw [show oc f (m + 1) = oc f m + (if (m &&& (31 - f)) = 0 then 1 else 0) from rfl, show og C F f i (m + 1) = og C F f i m + (if (m &&& (31 - f)) = 0 then hv C (ssF C m F (C 0 0)) / 2 ^ i % 2 else 0) from rfl] at ih1
        have la := and_lt m (by omega) (31 - f) (by omega)
        show k_M_odds_55 (nI i) Q _ K _ _ _ _ M3
        unfold k_M_odds_55
        refine M_sets b1.2.1 ?_
        simp (disch := omega) only [fa_lit0, xI_le_T, xI_le_F, xI_lt_T, xI_lt_F, xI_eq_T, xI_eq_F, xN_a, xN_b, xN_c, xN_d, xN_e, xN_f, xN_g, xN_h, xI_add, xI_mul, xI_sub, xI_tn, xI_in, xI_ofNat, gi_si_eq, gi_n1, gi_n2, gl_sl_eq, gl_n1, gl_n2, gi_sl, gl_si, forall_eq, true_implies, false_implies, not_true_eq_false, not_false_eq_true, and_true, true_and, implies_true, and_self]
        rw [and_not m (by omega) f lf]
        by_cases c : (m &&& (31 - f)) = 0
        · rw [if_pos c, if_pos c] at ih1
          rw [c]
          simp (disch := omega) only [fa_lit0, xI_le_T, xI_le_F, xI_lt_T, xI_lt_F, xI_eq_T, xI_eq_F, xN_a, xN_b, xN_c, xN_d, xN_e, xN_f, xN_g, xN_h, xI_add, xI_mul, xI_sub, xI_tn, xI_in, xI_ofNat, gi_si_eq, gi_n1, gi_n2, gl_sl_eq, gl_n1, gl_n2, gi_sl, gl_si, forall_eq, true_implies, false_implies, not_true_eq_false, not_false_eq_true, and_true, true_and, implies_true, and_self]
          refine M_copyTo b1.2.2 (by omega) (by omega) (by omega) fun M4 s4 f4 => ?_
          have w4 : MW C M4 := b1.2.1.sm s4 (by omega)
          refine M_stampsOf w4 hO f4 (by omega) (by omega) fun M5 s5 w5 f5 => ?_
          have hOs := hO.ss (s := m) hC (C 0 0) (Nat.le_refl _)
          refine M_passes w5 hOs.1 f5 (by omega) fun M6 s6 w6 f6 i6 => ?_
          have lh := hv_lt hC (ssF C m F (C 0 0))
          have e6 := ((b1.next (s4.mono (fun a b w => Or.inl w)) w4).next s5 w5).next s6 w6
          simp (disch := omega) only [fa_lit0, xI_le_T, xI_le_F, xI_lt_T, xI_lt_F, xI_eq_T, xI_eq_F, xN_a, xN_b, xN_c, xN_d, xN_e, xN_f, xN_g, xN_h, xI_add, xI_mul, xI_sub, xI_tn, xI_in, xI_ofNat, gi_si_eq, gi_n1, gi_n2, gl_sl_eq, gl_n1, gl_n2, gi_sl, gl_si, forall_eq, true_implies, false_implies, not_true_eq_false, not_false_eq_true, and_true, true_and, implies_true, and_self, i6]
          refine M_has lh (by omega) ?_
          rcases (show hv C (ssF C m F (C 0 0)) / 2 ^ i % 2 = 0 ∨ hv C (ssF C m F (C 0 0)) / 2 ^ i % 2 = 1 by omega) with v | v
          · rw [v] at ih1
            simp (disch := omega) only [fa_lit0, xI_le_T, xI_le_F, xI_lt_T, xI_lt_F, xI_eq_T, xI_eq_F, xN_a, xN_b, xN_c, xN_d, xN_e, xN_f, xN_g, xN_h, xI_add, xI_mul, xI_sub, xI_tn, xI_in, xI_ofNat, gi_si_eq, gi_n1, gi_n2, gl_sl_eq, gl_n1, gl_n2, gi_sl, gl_si, forall_eq, true_implies, false_implies, not_true_eq_false, not_false_eq_true, and_true, true_and, implies_true, and_self, v, k_M_odds_114, k_M_odds_117]
            exact ih1 M6 e6
          · rw [v] at ih1
            simp (disch := omega) only [fa_lit0, xI_le_T, xI_le_F, xI_lt_T, xI_lt_F, xI_eq_T, xI_eq_F, xN_a, xN_b, xN_c, xN_d, xN_e, xN_f, xN_g, xN_h, xI_add, xI_mul, xI_sub, xI_tn, xI_in, xI_ofNat, gi_si_eq, gi_n1, gi_n2, gl_sl_eq, gl_n1, gl_n2, gi_sl, gl_si, forall_eq, true_implies, false_implies, not_true_eq_false, not_false_eq_true, and_true, true_and, implies_true, and_self, v, k_M_odds_114, k_M_odds_117]
            exact ih1 M6 e6
        · rw [if_neg c, if_neg c] at ih1
          simp (disch := omega) only [fa_lit0, xI_le_T, xI_le_F, xI_lt_T, xI_lt_F, xI_eq_T, xI_eq_F, xN_a, xN_b, xN_c, xN_d, xN_e, xN_f, xN_g, xN_h, xI_add, xI_mul, xI_sub, xI_tn, xI_in, xI_ofNat, gi_si_eq, gi_n1, gi_n2, gl_sl_eq, gl_n1, gl_n2, gi_sl, gl_si, forall_eq, true_implies, false_implies, not_true_eq_false, not_false_eq_true, and_true, true_and, implies_true, and_self, k_M_odds_117]
          exact ih1 M3 b1
    refine ⟨_, keyM _ _ ?_ (2 ^ C 0 0) 0 (by omega) M2 ⟨Sm.refl _ M2, w2, g2⟩⟩
    intro M3 m3
    refine M_part (by omega) (by omega) (by rw [op]; exact Nat.two_pow_pos _) ⟨rfl, ?_⟩
    have s1 : Sm (fun a b => SM 1 a b ∨ (a = 312 ∧ (b = 3 ∨ b = 4))) M2 (sl (sl M3 312 3 (lN (og C F f i (2 ^ C 0 0) / Nat.gcd (og C F f i (2 ^ C 0 0)) (oc f (2 ^ C 0 0))))) 312 4 (lN (oc f (2 ^ C 0 0) / Nat.gcd (og C F f i (2 ^ C 0 0)) (oc f (2 ^ C 0 0))))) := ((m3.1.mono (fun a b w => Or.inl w)).wl (Or.inr ⟨rfl, Or.inl rfl⟩)).wl (Or.inr ⟨rfl, Or.inr rfl⟩)
    have st := (s0.mono (T := fun a b => SB 3 a b ∨ (a = 0 ∧ (b = 14 ∨ b = 15)) ∨ SM 1 a b ∨ (a = 312 ∧ (b = 3 ∨ b = 4))) (fun a b w => by rcases w with w | w; exact Or.inl w; exact Or.inr (Or.inl w))).trans (s1.mono (fun a b w => Or.inr (Or.inr w)))
    refine Rel.fin h hd (st.mono (fun a b w => ?_)) (fun _ => ?_) ?_ ?_ ⟨?_, ?_⟩
    · unfold SB SM at w; unfold Asw; omega
    · exact t0.sm s1 (fun b => by unfold SM; omega)
    · exact h.1.sm st (fun a b w => by unfold SB SM; omega)
    · exact h.2.2.2.2.1.sm st (by unfold SB SM; omega) (by unfold SB SM; omega)
    · rw [s1.l (by unfold SM; omega), u1]; simp (disch := omega) only [fa_lit0, xI_le_T, xI_le_F, xI_lt_T, xI_lt_F, xI_eq_T, xI_eq_F, xN_a, xN_b, xN_c, xN_d, xN_e, xN_f, xN_g, xN_h, xI_add, xI_mul, xI_sub, xI_tn, xI_in, xI_ofNat, gi_si_eq, gi_n1, gi_n2, gl_sl_eq, gl_n1, gl_n2, gi_sl, gl_si, forall_eq, true_implies, false_implies, not_true_eq_false, not_false_eq_true, and_true, true_and, implies_true, and_self]
    · rw [s1.l (by unfold SM; omega), u2]; simp (disch := omega) only [fa_lit0, xI_le_T, xI_le_F, xI_lt_T, xI_lt_F, xI_eq_T, xI_eq_F, xN_a, xN_b, xN_c, xN_d, xN_e, xN_f, xN_g, xN_h, xI_add, xI_mul, xI_sub, xI_tn, xI_in, xI_ofNat, gi_si_eq, gi_n1, gi_n2, gl_sl_eq, gl_n1, gl_n2, gi_sl, gl_si, forall_eq, true_implies, false_implies, not_true_eq_false, not_false_eq_true, and_true, true_and, implies_true, and_self]
