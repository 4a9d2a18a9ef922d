/-! the reference reads text T -/
def SQ (a b : Nat) : Prop := (a = 312 ∧ 18 ≤ b ∧ b ≤ 22) ∨ a = 325 ∨ a = 326
def PM (T : Nat) (t : Nat → Int32) (m p w : Nat) (A : Nat → Nat → Nat) (M : Mm) : Prop := gi M 317 T = nI m ∧ gi M 312 18 = nI p ∧ gi M 312 22 = nI w ∧ (∀ i, i < m → gi M 318 (60 * T + i) = t i) ∧ gi M 312 21 = nI (A 0 0) ∧ gi M 312 20 = nI (A 0 1) ∧ (∀ i, i < A 0 0 → gi M 325 (5 * i) = nI (A 1 i) ∧ gi M 325 (5 * i + 1) = nI (A 2 i) ∧ gi M 325 (5 * i + 2) = nI (A 3 i) ∧ gi M 325 (5 * i + 3) = nI (A 4 i) ∧ gi M 325 (5 * i + 4) = nI (A 5 i)) ∧ ∀ i, i < 5 → gi M 326 i = nI (A 6 i)
theorem M_byte {T m p : Nat} {t : Nat → Int32} {M : Mm} (hT : T < 4) (hm : m ≤ 60) (hp : p < 100) (e1 : gi M 317 T = nI m) (es : ∀ i, i < m → gi M 318 (60 * T + i) = t i) {Q : Int32 → Mm → Prop} (h : Q (if p < m then t p else nI 0) M) : wp_M_byteAt (nI T) (nI p) M Q := by
  by_cases c : p < m
  · rw [if_pos c] at h
    simp (disch := omega) only [fa_lit0, xI_le_T, xI_le_F, xI_lt_T, xI_lt_F, xI_eq_T, xI_eq_F, xN_a, xN_b, xN_c, xN_d, xN_e, xN_f, xN_g, xN_h, xI_add, xI_mul, xI_sub, xI_tn, xI_in, xI_ofNat, gi_si_eq, gi_n1, gi_n2, gl_sl_eq, gl_n1, gl_n2, gi_sl, gl_si, forall_eq, true_implies, false_implies, not_true_eq_false, not_false_eq_true, and_true, true_and, implies_true, and_self, wp_M_byteAt, e1, es p c]
    exact h
  · rw [if_neg c] at h
    simp (disch := omega) only [fa_lit0, xI_le_T, xI_le_F, xI_lt_T, xI_lt_F, xI_eq_T, xI_eq_F, xN_a, xN_b, xN_c, xN_d, xN_e, xN_f, xN_g, xN_h, xI_add, xI_mul, xI_sub, xI_tn, xI_in, xI_ofNat, gi_si_eq, gi_n1, gi_n2, gl_sl_eq, gl_n1, gl_n2, gi_sl, gl_si, forall_eq, true_implies, false_implies, not_true_eq_false, not_false_eq_true, and_true, true_and, implies_true, and_self, wp_M_byteAt, e1]
    exact h
theorem M_fig {T m p lo hi : Nat} {t : Nat → Int32} {M : Mm} (hT : T < 4) (hm : m ≤ 60) (hp : p < 100) (hl : lo < 100) (hh : hi < 100) (e1 : gi M 317 T = nI m) (e18 : gi M 312 18 = nI p) (es : ∀ i, i < m → gi M 318 (60 * T + i) = t i) {Q : Int32 → Mm → Prop} (h0 : fg t m lo hi p = 0 → ∀ x, Q (nI 0) (si (si M 312 19 x) 312 18 (nI p))) (h1 : ∀ d, fg t m lo hi p = d + 1 → lo ≤ d → d ≤ hi → Q (nI 1) (si (si M 312 19 (nI d)) 312 18 (nI (p + 1)))) : wp_M_figure (nI T) (nI lo) (nI hi) M Q := by
  unfold wp_M_figure
  rw [e18]
  refine M_byte hT hm hp e1 es ?_
  simp (disch := omega) only [fa_lit0, xI_le_T, xI_le_F, xI_lt_T, xI_lt_F, xI_eq_T, xI_eq_F, xN_a, xN_b, xN_c, xN_d, xN_e, xN_f, xN_g, xN_h, xI_add, xI_mul, xI_sub, xI_tn, xI_in, xI_ofNat, gi_si_eq, gi_n1, gi_n2, gl_sl_eq, gl_n1, gl_n2, gi_sl, gl_si, forall_eq, true_implies, false_implies, not_true_eq_false, not_false_eq_true, and_true, true_and, implies_true, and_self, e18, wp_M_in]
  by_cases c : p < m
  · rw [if_pos c]
    rcases fg_c t m lo hi p hl hh with ⟨q, q2⟩ | ⟨d, q1, q2, q3, q4, q5⟩
    · by_cases v : t p - nI 48 < nI lo
      · simp (disch := omega) only [fa_lit0, xI_le_T, xI_le_F, xI_lt_T, xI_lt_F, xI_eq_T, xI_eq_F, xN_a, xN_b, xN_c, xN_d, xN_e, xN_f, xN_g, xN_h, xI_add, xI_mul, xI_sub, xI_tn, xI_in, xI_ofNat, gi_si_eq, gi_n1, gi_n2, gl_sl_eq, gl_n1, gl_n2, gi_sl, gl_si, forall_eq, true_implies, false_implies, not_true_eq_false, not_false_eq_true, and_true, true_and, implies_true, and_self, v, zb_0, Nat.add_zero]
        exact h0 q _
      · by_cases v2 : nI hi < t p - nI 48
        · simp (disch := omega) only [fa_lit0, xI_le_T, xI_le_F, xI_lt_T, xI_lt_F, xI_eq_T, xI_eq_F, xN_a, xN_b, xN_c, xN_d, xN_e, xN_f, xN_g, xN_h, xI_add, xI_mul, xI_sub, xI_tn, xI_in, xI_ofNat, gi_si_eq, gi_n1, gi_n2, gl_sl_eq, gl_n1, gl_n2, gi_sl, gl_si, forall_eq, true_implies, false_implies, not_true_eq_false, not_false_eq_true, and_true, true_and, implies_true, and_self, v, v2, zb_0, Nat.add_zero]
          exact h0 q _
        · refine absurd ⟨c, ?_, ?_⟩ q2
          · rw [Int32.lt_iff_toInt_lt] at v
            rw [Int32.le_iff_toInt_le]
            omega
          · rw [Int32.lt_iff_toInt_lt] at v2
            rw [Int32.le_iff_toInt_le]
            omega
    · rw [q3]
      simp (disch := omega) only [fa_lit0, xI_le_T, xI_le_F, xI_lt_T, xI_lt_F, xI_eq_T, xI_eq_F, xN_a, xN_b, xN_c, xN_d, xN_e, xN_f, xN_g, xN_h, xI_add, xI_mul, xI_sub, xI_tn, xI_in, xI_ofNat, gi_si_eq, gi_n1, gi_n2, gl_sl_eq, gl_n1, gl_n2, gi_sl, gl_si, forall_eq, true_implies, false_implies, not_true_eq_false, not_false_eq_true, and_true, true_and, implies_true, and_self, zb_1]
      exact h1 d q1 q4 q5
  · rw [if_neg c]
    rcases fg_c t m lo hi p hl hh with ⟨q, q2⟩ | ⟨d, q1, q2, q3, q4, q5⟩
    · have e : nI 0 - nI 48 = -nI 48 := by decide
      simp (disch := omega) only [fa_lit0, xI_le_T, xI_le_F, xI_lt_T, xI_lt_F, xI_eq_T, xI_eq_F, xN_a, xN_b, xN_c, xN_d, xN_e, xN_f, xN_g, xN_h, xI_add, xI_mul, xI_sub, xI_tn, xI_in, xI_ofNat, gi_si_eq, gi_n1, gi_n2, gl_sl_eq, gl_n1, gl_n2, gi_sl, gl_si, forall_eq, true_implies, false_implies, not_true_eq_false, not_false_eq_true, and_true, true_and, implies_true, and_self, e, zb_0, Nat.add_zero]
      exact h0 q _
    · exact absurd q2 c
theorem kd_o {x : Int32} (h : x.toInt < 97 ∨ 116 < x.toInt) : kdl x = 9 := by
  unfold kdl
  have e : ∀ n, n < 1000 → 97 ≤ n → n ≤ 116 → ¬ x = nI n := by
    intro n h0 h1 h2 h3
    subst h3
    rw [nI_toInt (by omega)] at h
    omega
  rw [if_neg (e 97 (by omega) (by omega) (by omega)), if_neg (e 116 (by omega) (by omega) (by omega)), if_neg (e 115 (by omega) (by omega) (by omega)), if_neg (e 98 (by omega) (by omega) (by omega)), if_neg (e 108 (by omega) (by omega) (by omega)), if_neg (e 109 (by omega) (by omega) (by omega))]
theorem M_kind {x : Int32} {M : Mm} {Q : Int32 → Mm → Prop} (h : Q (if kdl x = 9 then -nI 9 else nI (kdl x)) M) : wp_M_kindOf x M Q := by
  unfold wp_M_kindOf
  have g : ∀ (y : Int32) (r : Int32), (if kdl y = 9 then -nI 9 else nI (kdl y)) = r → x = y → Q r M := by
    intro y r e1 e2
    subst e2
    rw [e1] at h
    exact h
  refine ⟨g 97 0 (by decide), g 98 3 (by decide), g 99 (-9) (by decide), g 100 (-9) (by decide), g 101 (-9) (by decide), g 102 (-9) (by decide), g 103 (-9) (by decide), g 104 (-9) (by decide), g 105 (-9) (by decide), g 106 (-9) (by decide), g 107 (-9) (by decide), g 108 4 (by decide), g 109 5 (by decide), g 110 (-9) (by decide), g 111 (-9) (by decide), g 112 (-9) (by decide), g 113 (-9) (by decide), g 114 (-9) (by decide), g 115 2 (by decide), g 116 1 (by decide), fun w => ?_⟩
  rw [if_pos (kd_o w)] at h
  exact h
theorem M_waitR {T m p w : Nat} {t : Nat → Int32} {A : Nat → Nat → Nat} {M : Mm} (hT : T < 4) (hm : m ≤ 60) (h : PM T t m p w A M) (hO : OkP w A) (hA : ¬ A 0 1 = 0) (hp : p < m) (ht : t p = nI 119) {Q : Int32 → Mm → Prop} (hQ1 : ∀ M', Sm SQ M M' → (itm t m p w A).1 = 0 → PM T t m (itm t m p w A).2.1 (itm t m p w A).2.2.1 (itm t m p w A).2.2.2 M' → Q (nI 1) M') (hQ0 : ∀ M', Sm SQ M M' → ¬ (itm t m p w A).1 = 0 → gi M' 312 18 = nI ((itm t m p w A).1 - 1) → Q (nI 0) M') : wp_M_readsWait (nI T) M Q := by
  obtain ⟨h1, h2, h3, h5, h6, h7, h8, h9⟩ := h
  have hn := hO.1
  have hw := hO.2.1
  unfold itm at hQ1 hQ0
  rw [if_neg hA, if_pos ht] at hQ1 hQ0
  unfold wp_M_readsWait
  have s0 := Sm.refl SQ M
  by_cases c : A 0 0 = 0 ∨ w = 8
  · rw [if_pos c] at hQ0
    have fin := hQ0 M s0 (by dsimp only; omega) h2
    by_cases c1 : A 0 0 = 0
    · simp (disch := omega) only [fa_lit0, xI_le_T, xI_le_F, xI_lt_T, xI_lt_F, xI_eq_T, xI_eq_F, xN_a, xN_b, xN_c, xN_d, xN_e, xN_f, xN_g, xN_h, xI_add, xI_mul, xI_sub, xI_tn, xI_in, xI_ofNat, gi_si_eq, gi_n1, gi_n2, gl_sl_eq, gl_n1, gl_n2, gi_sl, gl_si, forall_eq, true_implies, false_implies, not_true_eq_false, not_false_eq_true, and_true, true_and, implies_true, and_self, h6, c1]; exact fin
    · have c2 : w = 8 := by omega
      simp (disch := omega) only [fa_lit0, xI_le_T, xI_le_F, xI_lt_T, xI_lt_F, xI_eq_T, xI_eq_F, xN_a, xN_b, xN_c, xN_d, xN_e, xN_f, xN_g, xN_h, xI_add, xI_mul, xI_sub, xI_tn, xI_in, xI_ofNat, gi_si_eq, gi_n1, gi_n2, gl_sl_eq, gl_n1, gl_n2, gi_sl, gl_si, forall_eq, true_implies, false_implies, not_true_eq_false, not_false_eq_true, and_true, true_and, implies_true, and_self, h6, h3, c2]; exact fin
  · rw [if_neg c] at hQ1 hQ0
    simp (disch := omega) only [fa_lit0, xI_le_T, xI_le_F, xI_lt_T, xI_lt_F, xI_eq_T, xI_eq_F, xN_a, xN_b, xN_c, xN_d, xN_e, xN_f, xN_g, xN_h, xI_add, xI_mul, xI_sub, xI_tn, xI_in, xI_ofNat, gi_si_eq, gi_n1, gi_n2, gl_sl_eq, gl_n1, gl_n2, gi_sl, gl_si, forall_eq, true_implies, false_implies, not_true_eq_false, not_false_eq_true, and_true, true_and, implies_true, and_self, h6, h2, h3]
    have s1 := s0.wi (x := nI (p + 1)) (show SQ 312 18 from Or.inl (by omega))
    refine M_fig (m := m) (p := p + 1) (t := t) hT hm (by omega) (by omega) (by omega) (by simp (disch := omega) only [fa_lit0, xI_le_T, xI_le_F, xI_lt_T, xI_lt_F, xI_eq_T, xI_eq_F, xN_a, xN_b, xN_c, xN_d, xN_e, xN_f, xN_g, xN_h, xI_add, xI_mul, xI_sub, xI_tn, xI_in, xI_ofNat, gi_si_eq, gi_n1, gi_n2, gl_sl_eq, gl_n1, gl_n2, gi_sl, gl_si, forall_eq, true_implies, false_implies, not_true_eq_false, not_false_eq_true, and_true, true_and, implies_true, and_self, h1]) (by simp (disch := omega) only [fa_lit0, xI_le_T, xI_le_F, xI_lt_T, xI_lt_F, xI_eq_T, xI_eq_F, xN_a, xN_b, xN_c, xN_d, xN_e, xN_f, xN_g, xN_h, xI_add, xI_mul, xI_sub, xI_tn, xI_in, xI_ofNat, gi_si_eq, gi_n1, gi_n2, gl_sl_eq, gl_n1, gl_n2, gi_sl, gl_si, forall_eq, true_implies, false_implies, not_true_eq_false, not_false_eq_true, and_true, true_and, implies_true, and_self]) (fun i hi => by simp (disch := omega) only [fa_lit0, xI_le_T, xI_le_F, xI_lt_T, xI_lt_F, xI_eq_T, xI_eq_F, xN_a, xN_b, xN_c, xN_d, xN_e, xN_f, xN_g, xN_h, xI_add, xI_mul, xI_sub, xI_tn, xI_in, xI_ofNat, gi_si_eq, gi_n1, gi_n2, gl_sl_eq, gl_n1, gl_n2, gi_sl, gl_si, forall_eq, true_implies, false_implies, not_true_eq_false, not_false_eq_true, and_true, true_and, implies_true, and_self, h5 i hi]) (fun f0 x => ?_) (fun a fa la ha => ?_)
    · rw [if_pos f0] at hQ0
      simp (disch := omega) only [fa_lit0, xI_le_T, xI_le_F, xI_lt_T, xI_lt_F, xI_eq_T, xI_eq_F, xN_a, xN_b, xN_c, xN_d, xN_e, xN_f, xN_g, xN_h, xI_add, xI_mul, xI_sub, xI_tn, xI_in, xI_ofNat, gi_si_eq, gi_n1, gi_n2, gl_sl_eq, gl_n1, gl_n2, gi_sl, gl_si, forall_eq, true_implies, false_implies, not_true_eq_false, not_false_eq_true, and_true, true_and, implies_true, and_self]
      refine hQ0 _ ((s1.wi (Or.inl (by omega))).wi (Or.inl (by omega))) (by dsimp only; omega) ?_
      simp (disch := omega) only [fa_lit0, xI_le_T, xI_le_F, xI_lt_T, xI_lt_F, xI_eq_T, xI_eq_F, xN_a, xN_b, xN_c, xN_d, xN_e, xN_f, xN_g, xN_h, xI_add, xI_mul, xI_sub, xI_tn, xI_in, xI_ofNat, gi_si_eq, gi_n1, gi_n2, gl_sl_eq, gl_n1, gl_n2, gi_sl, gl_si, forall_eq, true_implies, false_implies, not_true_eq_false, not_false_eq_true, and_true, true_and, implies_true, and_self]
    · rw [if_neg (by omega), fa, Nat.add_sub_cancel] at hQ1 hQ0
      have s2 := (s1.wi (x := nI a) (show SQ 312 19 from Or.inl (by omega))).wi (x := nI (p + 1 + 1)) (show SQ 312 18 from Or.inl (by omega))
      simp (disch := omega) only [fa_lit0, xI_le_T, xI_le_F, xI_lt_T, xI_lt_F, xI_eq_T, xI_eq_F, xN_a, xN_b, xN_c, xN_d, xN_e, xN_f, xN_g, xN_h, xI_add, xI_mul, xI_sub, xI_tn, xI_in, xI_ofNat, gi_si_eq, gi_n1, gi_n2, gl_sl_eq, gl_n1, gl_n2, gi_sl, gl_si, forall_eq, true_implies, false_implies, not_true_eq_false, not_false_eq_true, and_true, true_and, implies_true, and_self]
      refine M_byte (m := m) (p := p + 2) (t := t) hT hm (by omega) (by simp (disch := omega) only [fa_lit0, xI_le_T, xI_le_F, xI_lt_T, xI_lt_F, xI_eq_T, xI_eq_F, xN_a, xN_b, xN_c, xN_d, xN_e, xN_f, xN_g, xN_h, xI_add, xI_mul, xI_sub, xI_tn, xI_in, xI_ofNat, gi_si_eq, gi_n1, gi_n2, gl_sl_eq, gl_n1, gl_n2, gi_sl, gl_si, forall_eq, true_implies, false_implies, not_true_eq_false, not_false_eq_true, and_true, true_and, implies_true, and_self, h1]) (fun i hi => by simp (disch := omega) only [fa_lit0, xI_le_T, xI_le_F, xI_lt_T, xI_lt_F, xI_eq_T, xI_eq_F, xN_a, xN_b, xN_c, xN_d, xN_e, xN_f, xN_g, xN_h, xI_add, xI_mul, xI_sub, xI_tn, xI_in, xI_ofNat, gi_si_eq, gi_n1, gi_n2, gl_sl_eq, gl_n1, gl_n2, gi_sl, gl_si, forall_eq, true_implies, false_implies, not_true_eq_false, not_false_eq_true, and_true, true_and, implies_true, and_self, h5 i hi]) ?_
      rcases fg_c t m 0 (A 0 0 - 1) (p + 2) (by omega) (by omega) with ⟨f0, q2⟩ | ⟨b, fb, q2, q3, q4, q5⟩
      · rw [if_pos f0] at hQ0
        simp (disch := omega) only [fa_lit0, xI_le_T, xI_le_F, xI_lt_T, xI_lt_F, xI_eq_T, xI_eq_F, xN_a, xN_b, xN_c, xN_d, xN_e, xN_f, xN_g, xN_h, xI_add, xI_mul, xI_sub, xI_tn, xI_in, xI_ofNat, gi_si_eq, gi_n1, gi_n2, gl_sl_eq, gl_n1, gl_n2, gi_sl, gl_si, forall_eq, true_implies, false_implies, not_true_eq_false, not_false_eq_true, and_true, true_and, implies_true, and_self, wp_M_in, h6]
        have fin := hQ0 _ s2 (by dsimp only; omega) (by simp (disch := omega) only [fa_lit0, xI_le_T, xI_le_F, xI_lt_T, xI_lt_F, xI_eq_T, xI_eq_F, xN_a, xN_b, xN_c, xN_d, xN_e, xN_f, xN_g, xN_h, xI_add, xI_mul, xI_sub, xI_tn, xI_in, xI_ofNat, gi_si_eq, gi_n1, gi_n2, gl_sl_eq, gl_n1, gl_n2, gi_sl, gl_si, forall_eq, true_implies, false_implies, not_true_eq_false, not_false_eq_true, and_true, true_and, implies_true, and_self])
        by_cases c : p + 2 < m
        · rw [if_pos c]
          by_cases v : t (p + 2) - nI 48 < nI 0
          · simp (disch := omega) only [fa_lit0, xI_le_T, xI_le_F, xI_lt_T, xI_lt_F, xI_eq_T, xI_eq_F, xN_a, xN_b, xN_c, xN_d, xN_e, xN_f, xN_g, xN_h, xI_add, xI_mul, xI_sub, xI_tn, xI_in, xI_ofNat, gi_si_eq, gi_n1, gi_n2, gl_sl_eq, gl_n1, gl_n2, gi_sl, gl_si, forall_eq, true_implies, false_implies, not_true_eq_false, not_false_eq_true, and_true, true_and, implies_true, and_self, v]; exact fin
          · by_cases v2 : nI (A 0 0 - 1) < t (p + 2) - nI 48
            · simp (disch := omega) only [fa_lit0, xI_le_T, xI_le_F, xI_lt_T, xI_lt_F, xI_eq_T, xI_eq_F, xN_a, xN_b, xN_c, xN_d, xN_e, xN_f, xN_g, xN_h, xI_add, xI_mul, xI_sub, xI_tn, xI_in, xI_ofNat, gi_si_eq, gi_n1, gi_n2, gl_sl_eq, gl_n1, gl_n2, gi_sl, gl_si, forall_eq, true_implies, false_implies, not_true_eq_false, not_false_eq_true, and_true, true_and, implies_true, and_self, v, v2]; exact fin
            · refine absurd ⟨c, ?_, ?_⟩ q2
              · rw [Int32.lt_iff_toInt_lt] at v
                rw [Int32.le_iff_toInt_le]
                omega
              · rw [Int32.lt_iff_toInt_lt] at v2
                rw [Int32.le_iff_toInt_le]
                omega
        · rw [if_neg c]
          have e : nI 0 - nI 48 = -nI 48 := by decide
          simp (disch := omega) only [fa_lit0, xI_le_T, xI_le_F, xI_lt_T, xI_lt_F, xI_eq_T, xI_eq_F, xN_a, xN_b, xN_c, xN_d, xN_e, xN_f, xN_g, xN_h, xI_add, xI_mul, xI_sub, xI_tn, xI_in, xI_ofNat, gi_si_eq, gi_n1, gi_n2, gl_sl_eq, gl_n1, gl_n2, gi_sl, gl_si, forall_eq, true_implies, false_implies, not_true_eq_false, not_false_eq_true, and_true, true_and, implies_true, and_self, e]
          exact fin
      · rw [if_neg (by omega), fb, Nat.add_sub_cancel] at hQ1 hQ0
        rw [if_pos q2, q3]
        simp (disch := omega) only [fa_lit0, xI_le_T, xI_le_F, xI_lt_T, xI_lt_F, xI_eq_T, xI_eq_F, xN_a, xN_b, xN_c, xN_d, xN_e, xN_f, xN_g, xN_h, xI_add, xI_mul, xI_sub, xI_tn, xI_in, xI_ofNat, gi_si_eq, gi_n1, gi_n2, gl_sl_eq, gl_n1, gl_n2, gi_sl, gl_si, forall_eq, true_implies, false_implies, not_true_eq_false, not_false_eq_true, and_true, true_and, implies_true, and_self, wp_M_in, h6]
        have l6 := lt_32 (hO.2.2.2.2.1 a (by omega)).1 hn
        by_cases cab : a = b
        · rw [if_pos (Or.inl (by omega))] at hQ0
          simp (disch := omega) only [fa_lit0, xI_le_T, xI_le_F, xI_lt_T, xI_lt_F, xI_eq_T, xI_eq_F, xN_a, xN_b, xN_c, xN_d, xN_e, xN_f, xN_g, xN_h, xI_add, xI_mul, xI_sub, xI_tn, xI_in, xI_ofNat, gi_si_eq, gi_n1, gi_n2, gl_sl_eq, gl_n1, gl_n2, gi_sl, gl_si, forall_eq, true_implies, false_implies, not_true_eq_false, not_false_eq_true, and_true, true_and, implies_true, and_self]
          exact hQ0 _ s2 (by dsimp only; omega) (by simp (disch := omega) only [fa_lit0, xI_le_T, xI_le_F, xI_lt_T, xI_lt_F, xI_eq_T, xI_eq_F, xN_a, xN_b, xN_c, xN_d, xN_e, xN_f, xN_g, xN_h, xI_add, xI_mul, xI_sub, xI_tn, xI_in, xI_ofNat, gi_si_eq, gi_n1, gi_n2, gl_sl_eq, gl_n1, gl_n2, gi_sl, gl_si, forall_eq, true_implies, false_implies, not_true_eq_false, not_false_eq_true, and_true, true_and, implies_true, and_self])
        · simp (disch := omega) only [fa_lit0, xI_le_T, xI_le_F, xI_lt_T, xI_lt_F, xI_eq_T, xI_eq_F, xN_a, xN_b, xN_c, xN_d, xN_e, xN_f, xN_g, xN_h, xI_add, xI_mul, xI_sub, xI_tn, xI_in, xI_ofNat, gi_si_eq, gi_n1, gi_n2, gl_sl_eq, gl_n1, gl_n2, gi_sl, gl_si, forall_eq, true_implies, false_implies, not_true_eq_false, not_false_eq_true, and_true, true_and, implies_true, and_self, h9 a (by omega)]
          refine M_has l6 (by omega) ?_
          by_cases cb : A 6 a / 2 ^ b % 2 = 1
          · rw [if_pos (Or.inr cb)] at hQ0
            simp (disch := omega) only [fa_lit0, xI_le_T, xI_le_F, xI_lt_T, xI_lt_F, xI_eq_T, xI_eq_F, xN_a, xN_b, xN_c, xN_d, xN_e, xN_f, xN_g, xN_h, xI_add, xI_mul, xI_sub, xI_tn, xI_in, xI_ofNat, gi_si_eq, gi_n1, gi_n2, gl_sl_eq, gl_n1, gl_n2, gi_sl, gl_si, forall_eq, true_implies, false_implies, not_true_eq_false, not_false_eq_true, and_true, true_and, implies_true, and_self, cb]
            exact hQ0 _ s2 (by dsimp only; omega) (by simp (disch := omega) only [fa_lit0, xI_le_T, xI_le_F, xI_lt_T, xI_lt_F, xI_eq_T, xI_eq_F, xN_a, xN_b, xN_c, xN_d, xN_e, xN_f, xN_g, xN_h, xI_add, xI_mul, xI_sub, xI_tn, xI_in, xI_ofNat, gi_si_eq, gi_n1, gi_n2, gl_sl_eq, gl_n1, gl_n2, gi_sl, gl_si, forall_eq, true_implies, false_implies, not_true_eq_false, not_false_eq_true, and_true, true_and, implies_true, and_self])
          · have cb0 : A 6 a / 2 ^ b % 2 = 0 := by omega
            rw [if_neg (by omega)] at hQ1
            simp (disch := omega) only [fa_lit0, xI_le_T, xI_le_F, xI_lt_T, xI_lt_F, xI_eq_T, xI_eq_F, xN_a, xN_b, xN_c, xN_d, xN_e, xN_f, xN_g, xN_h, xI_add, xI_mul, xI_sub, xI_tn, xI_in, xI_ofNat, gi_si_eq, gi_n1, gi_n2, gl_sl_eq, gl_n1, gl_n2, gi_sl, gl_si, forall_eq, true_implies, false_implies, not_true_eq_false, not_false_eq_true, and_true, true_and, implies_true, and_self, cb0, h9 a (by omega), bset_or _ l6 b (by omega), h3]
            refine hQ1 _ (((s2.wi (Or.inl (by omega))).wi (Or.inr (Or.inr rfl))).wi (Or.inl (by omega))) rfl ?_
            show PM T t m (p + 3) (w + 1) (upC A 6 a (bset (A 6 a) b 1)) _
            have e : ∀ q i, q ≠ 6 → upC A 6 a (bset (A 6 a) b 1) q i = A q i := fun q i v => upC_ne (by omega)
            refine ⟨?_, ?_, ?_, fun i hi => ?_, ?_, ?_, fun i hi => ?_, fun i hi => ?_⟩
            · simp (disch := omega) only [fa_lit0, xI_le_T, xI_le_F, xI_lt_T, xI_lt_F, xI_eq_T, xI_eq_F, xN_a, xN_b, xN_c, xN_d, xN_e, xN_f, xN_g, xN_h, xI_add, xI_mul, xI_sub, xI_tn, xI_in, xI_ofNat, gi_si_eq, gi_n1, gi_n2, gl_sl_eq, gl_n1, gl_n2, gi_sl, gl_si, forall_eq, true_implies, false_implies, not_true_eq_false, not_false_eq_true, and_true, true_and, implies_true, and_self, h1]
            · simp (disch := omega) only [fa_lit0, xI_le_T, xI_le_F, xI_lt_T, xI_lt_F, xI_eq_T, xI_eq_F, xN_a, xN_b, xN_c, xN_d, xN_e, xN_f, xN_g, xN_h, xI_add, xI_mul, xI_sub, xI_tn, xI_in, xI_ofNat, gi_si_eq, gi_n1, gi_n2, gl_sl_eq, gl_n1, gl_n2, gi_sl, gl_si, forall_eq, true_implies, false_implies, not_true_eq_false, not_false_eq_true, and_true, true_and, implies_true, and_self]
            · simp (disch := omega) only [fa_lit0, xI_le_T, xI_le_F, xI_lt_T, xI_lt_F, xI_eq_T, xI_eq_F, xN_a, xN_b, xN_c, xN_d, xN_e, xN_f, xN_g, xN_h, xI_add, xI_mul, xI_sub, xI_tn, xI_in, xI_ofNat, gi_si_eq, gi_n1, gi_n2, gl_sl_eq, gl_n1, gl_n2, gi_sl, gl_si, forall_eq, true_implies, false_implies, not_true_eq_false, not_false_eq_true, and_true, true_and, implies_true, and_self]
            · simp (disch := omega) only [fa_lit0, xI_le_T, xI_le_F, xI_lt_T, xI_lt_F, xI_eq_T, xI_eq_F, xN_a, xN_b, xN_c, xN_d, xN_e, xN_f, xN_g, xN_h, xI_add, xI_mul, xI_sub, xI_tn, xI_in, xI_ofNat, gi_si_eq, gi_n1, gi_n2, gl_sl_eq, gl_n1, gl_n2, gi_sl, gl_si, forall_eq, true_implies, false_implies, not_true_eq_false, not_false_eq_true, and_true, true_and, implies_true, and_self, h5 i hi]
            · rw [e 0 0 (by omega)]; simp (disch := omega) only [fa_lit0, xI_le_T, xI_le_F, xI_lt_T, xI_lt_F, xI_eq_T, xI_eq_F, xN_a, xN_b, xN_c, xN_d, xN_e, xN_f, xN_g, xN_h, xI_add, xI_mul, xI_sub, xI_tn, xI_in, xI_ofNat, gi_si_eq, gi_n1, gi_n2, gl_sl_eq, gl_n1, gl_n2, gi_sl, gl_si, forall_eq, true_implies, false_implies, not_true_eq_false, not_false_eq_true, and_true, true_and, implies_true, and_self, h6]
            · rw [e 0 1 (by omega)]; simp (disch := omega) only [fa_lit0, xI_le_T, xI_le_F, xI_lt_T, xI_lt_F, xI_eq_T, xI_eq_F, xN_a, xN_b, xN_c, xN_d, xN_e, xN_f, xN_g, xN_h, xI_add, xI_mul, xI_sub, xI_tn, xI_in, xI_ofNat, gi_si_eq, gi_n1, gi_n2, gl_sl_eq, gl_n1, gl_n2, gi_sl, gl_si, forall_eq, true_implies, false_implies, not_true_eq_false, not_false_eq_true, and_true, true_and, implies_true, and_self, h7]
            · rw [e 0 0 (by omega)] at hi
              rw [e 1 i (by omega), e 2 i (by omega), e 3 i (by omega), e 4 i (by omega), e 5 i (by omega)]
              simp (disch := omega) only [fa_lit0, xI_le_T, xI_le_F, xI_lt_T, xI_lt_F, xI_eq_T, xI_eq_F, xN_a, xN_b, xN_c, xN_d, xN_e, xN_f, xN_g, xN_h, xI_add, xI_mul, xI_sub, xI_tn, xI_in, xI_ofNat, gi_si_eq, gi_n1, gi_n2, gl_sl_eq, gl_n1, gl_n2, gi_sl, gl_si, forall_eq, true_implies, false_implies, not_true_eq_false, not_false_eq_true, and_true, true_and, implies_true, and_self, h8 i hi]
            · by_cases ci : i = a
              · subst ci; rw [upC_eq]; simp (disch := omega) only [fa_lit0, xI_le_T, xI_le_F, xI_lt_T, xI_lt_F, xI_eq_T, xI_eq_F, xN_a, xN_b, xN_c, xN_d, xN_e, xN_f, xN_g, xN_h, xI_add, xI_mul, xI_sub, xI_tn, xI_in, xI_ofNat, gi_si_eq, gi_n1, gi_n2, gl_sl_eq, gl_n1, gl_n2, gi_sl, gl_si, forall_eq, true_implies, false_implies, not_true_eq_false, not_false_eq_true, and_true, true_and, implies_true, and_self]
              · rw [upC_ne (by omega)]; simp (disch := omega) only [fa_lit0, xI_le_T, xI_le_F, xI_lt_T, xI_lt_F, xI_eq_T, xI_eq_F, xN_a, xN_b, xN_c, xN_d, xN_e, xN_f, xN_g, xN_h, xI_add, xI_mul, xI_sub, xI_tn, xI_in, xI_ofNat, gi_si_eq, gi_n1, gi_n2, gl_sl_eq, gl_n1, gl_n2, gi_sl, gl_si, forall_eq, true_implies, false_implies, not_true_eq_false, not_false_eq_true, and_true, true_and, implies_true, and_self, h9 i hi]
theorem lpArm (a1 : Int32) (Q : Int32 → Mm → Prop) (K : Mm → Prop) (n : Nat) (v3 v4 : Int32) (M : Mm) : lp_M_readsArm_63 a1 Q K (n + 1) v3 v4 M = k_M_readsArm_63 a1 Q (lp_M_readsArm_63 a1 Q K n) K v3 v4 M := rfl
theorem M_armR {T m p w : Nat} {t : Nat → Int32} {A : Nat → Nat → Nat} {M : Mm} (hT : T < 4) (hm : m ≤ 60) (h : PM T t m p w A M) (hO : OkP w A) (hA : ¬ A 0 1 = 0) (hp : p < m) (ht : ¬ t p = nI 119) {Q : Int32 → Mm → Prop} (hQ1 : ∀ M', Sm SQ M M' → (itm t m p w A).1 = 0 → PM T t m (itm t m p w A).2.1 (itm t m p w A).2.2.1 (itm t m p w A).2.2.2 M' → Q (nI 1) M') (hQ0 : ∀ M', Sm SQ M M' → ¬ (itm t m p w A).1 = 0 → gi M' 312 18 = nI ((itm t m p w A).1 - 1) → Q (nI 0) M') : wp_M_readsArm (nI T) M Q := by
  obtain ⟨h1, h2, h3, h5, h6, h7, h8, h9⟩ := h
  have hn := hO.1
  have hw := hO.2.1
  unfold itm at hQ1 hQ0
  rw [if_neg hA, if_neg ht] at hQ1 hQ0
  unfold wp_M_readsArm
  rw [h2]
  refine M_byte hT hm (by omega) h1 h5 ?_
  rw [if_pos hp]
  refine M_kind ?_
  have s0 := Sm.refl SQ M
  by_cases hk : kdl (t p) = 9 ∨ A 0 0 = 5 ∨ 0 < w
  · rw [if_pos hk] at hQ0
    have fin := hQ0 M s0 (by dsimp only; omega) h2
    by_cases k9 : kdl (t p) = 9
    · rw [if_pos k9]
      simp (disch := omega) only [fa_lit0, xI_le_T, xI_le_F, xI_lt_T, xI_lt_F, xI_eq_T, xI_eq_F, xN_a, xN_b, xN_c, xN_d, xN_e, xN_f, xN_g, xN_h, xI_add, xI_mul, xI_sub, xI_tn, xI_in, xI_ofNat, gi_si_eq, gi_n1, gi_n2, gl_sl_eq, gl_n1, gl_n2, gi_sl, gl_si, forall_eq, true_implies, false_implies, not_true_eq_false, not_false_eq_true, and_true, true_and, implies_true, and_self]; exact fin
    · have k6 := kdl_lt (t p)
      rw [if_neg k9]
      by_cases k5 : A 0 0 = 5
      · simp (disch := omega) only [fa_lit0, xI_le_T, xI_le_F, xI_lt_T, xI_lt_F, xI_eq_T, xI_eq_F, xN_a, xN_b, xN_c, xN_d, xN_e, xN_f, xN_g, xN_h, xI_add, xI_mul, xI_sub, xI_tn, xI_in, xI_ofNat, gi_si_eq, gi_n1, gi_n2, gl_sl_eq, gl_n1, gl_n2, gi_sl, gl_si, forall_eq, true_implies, false_implies, not_true_eq_false, not_false_eq_true, and_true, true_and, implies_true, and_self, h6, k5]; exact fin
      · simp (disch := omega) only [fa_lit0, xI_le_T, xI_le_F, xI_lt_T, xI_lt_F, xI_eq_T, xI_eq_F, xN_a, xN_b, xN_c, xN_d, xN_e, xN_f, xN_g, xN_h, xI_add, xI_mul, xI_sub, xI_tn, xI_in, xI_ofNat, gi_si_eq, gi_n1, gi_n2, gl_sl_eq, gl_n1, gl_n2, gi_sl, gl_si, forall_eq, true_implies, false_implies, not_true_eq_false, not_false_eq_true, and_true, true_and, implies_true, and_self, h6, h3]; exact fin
  · have k9 : ¬ kdl (t p) = 9 := by omega
    have k6 := kdl_lt (t p)
    rw [if_neg k9]
    rw [if_neg hk] at hQ1 hQ0
    simp (disch := omega) only [fa_lit0, xI_le_T, xI_le_F, xI_lt_T, xI_lt_F, xI_eq_T, xI_eq_F, xN_a, xN_b, xN_c, xN_d, xN_e, xN_f, xN_g, xN_h, xI_add, xI_mul, xI_sub, xI_tn, xI_in, xI_ofNat, gi_si_eq, gi_n1, gi_n2, gl_sl_eq, gl_n1, gl_n2, gi_sl, gl_si, forall_eq, true_implies, false_implies, not_true_eq_false, not_false_eq_true, and_true, true_and, implies_true, and_self, h6, h3, h2]
    have s1 := (s0.wi (x := nI (p + 1)) (show SQ 312 18 from Or.inl (by omega))).wi (k := 325) (j := 5 * A 0 0) (x := nI (kdl (t p))) (Or.inr (Or.inl rfl))
    refine ⟨0 + 1 + 1 + 1 + 1 + 1, ?_⟩
    rw [lpArm]
    unfold k_M_readsArm_63
    simp (disch := omega) only [fa_lit0, xI_le_T, xI_le_F, xI_lt_T, xI_lt_F, xI_eq_T, xI_eq_F, xN_a, xN_b, xN_c, xN_d, xN_e, xN_f, xN_g, xN_h, xI_add, xI_mul, xI_sub, xI_tn, xI_in, xI_ofNat, gi_si_eq, gi_n1, gi_n2, gl_sl_eq, gl_n1, gl_n2, gi_sl, gl_si, forall_eq, true_implies, false_implies, not_true_eq_false, not_false_eq_true, and_true, true_and, implies_true, and_self]
    refine M_fig (m := m) (p := p + 1) (t := t) hT hm (by omega) (by omega) (by omega) (by simp (disch := omega) only [fa_lit0, xI_le_T, xI_le_F, xI_lt_T, xI_lt_F, xI_eq_T, xI_eq_F, xN_a, xN_b, xN_c, xN_d, xN_e, xN_f, xN_g, xN_h, xI_add, xI_mul, xI_sub, xI_tn, xI_in, xI_ofNat, gi_si_eq, gi_n1, gi_n2, gl_sl_eq, gl_n1, gl_n2, gi_sl, gl_si, forall_eq, true_implies, false_implies, not_true_eq_false, not_false_eq_true, and_true, true_and, implies_true, and_self, h1]) (by simp (disch := omega) only [fa_lit0, xI_le_T, xI_le_F, xI_lt_T, xI_lt_F, xI_eq_T, xI_eq_F, xN_a, xN_b, xN_c, xN_d, xN_e, xN_f, xN_g, xN_h, xI_add, xI_mul, xI_sub, xI_tn, xI_in, xI_ofNat, gi_si_eq, gi_n1, gi_n2, gl_sl_eq, gl_n1, gl_n2, gi_sl, gl_si, forall_eq, true_implies, false_implies, not_true_eq_false, not_false_eq_true, and_true, true_and, implies_true, and_self]) (fun i hi => by simp (disch := omega) only [fa_lit0, xI_le_T, xI_le_F, xI_lt_T, xI_lt_F, xI_eq_T, xI_eq_F, xN_a, xN_b, xN_c, xN_d, xN_e, xN_f, xN_g, xN_h, xI_add, xI_mul, xI_sub, xI_tn, xI_in, xI_ofNat, gi_si_eq, gi_n1, gi_n2, gl_sl_eq, gl_n1, gl_n2, gi_sl, gl_si, forall_eq, true_implies, false_implies, not_true_eq_false, not_false_eq_true, and_true, true_and, implies_true, and_self, h5 i hi]) (fun f0 x => ?_) (fun a fa la ha => ?_)
    · rw [if_pos f0] at hQ0
      simp (disch := omega) only [fa_lit0, xI_le_T, xI_le_F, xI_lt_T, xI_lt_F, xI_eq_T, xI_eq_F, xN_a, xN_b, xN_c, xN_d, xN_e, xN_f, xN_g, xN_h, xI_add, xI_mul, xI_sub, xI_tn, xI_in, xI_ofNat, gi_si_eq, gi_n1, gi_n2, gl_sl_eq, gl_n1, gl_n2, gi_sl, gl_si, forall_eq, true_implies, false_implies, not_true_eq_false, not_false_eq_true, and_true, true_and, implies_true, and_self, k_M_readsArm_136]
      refine hQ0 _ ((s1.wi (Or.inl (by omega))).wi (Or.inl (by omega))) (by dsimp only; omega) ?_
      simp (disch := omega) only [fa_lit0, xI_le_T, xI_le_F, xI_lt_T, xI_lt_F, xI_eq_T, xI_eq_F, xN_a, xN_b, xN_c, xN_d, xN_e, xN_f, xN_g, xN_h, xI_add, xI_mul, xI_sub, xI_tn, xI_in, xI_ofNat, gi_si_eq, gi_n1, gi_n2, gl_sl_eq, gl_n1, gl_n2, gi_sl, gl_si, forall_eq, true_implies, false_implies, not_true_eq_false, not_false_eq_true, and_true, true_and, implies_true, and_self]
    rw [if_neg (by omega)] at hQ1 hQ0
    have s2 := ((s1.wi (x := nI a) (show SQ 312 19 from Or.inl (by omega))).wi (x := nI (p + 1 + 1)) (show SQ 312 18 from Or.inl (by omega))).wi (k := 325) (j := 5 * A 0 0 + 1) (x := nI a) (Or.inr (Or.inl rfl))
    simp (disch := omega) only [fa_lit0, xI_le_T, xI_le_F, xI_lt_T, xI_lt_F, xI_eq_T, xI_eq_F, xN_a, xN_b, xN_c, xN_d, xN_e, xN_f, xN_g, xN_h, xI_add, xI_mul, xI_sub, xI_tn, xI_in, xI_ofNat, gi_si_eq, gi_n1, gi_n2, gl_sl_eq, gl_n1, gl_n2, gi_sl, gl_si, forall_eq, true_implies, false_implies, not_true_eq_false, not_false_eq_true, and_true, true_and, implies_true, and_self, k_M_readsArm_136]
    rw [lpArm]
    unfold k_M_readsArm_63
    simp (disch := omega) only [fa_lit0, xI_le_T, xI_le_F, xI_lt_T, xI_lt_F, xI_eq_T, xI_eq_F, xN_a, xN_b, xN_c, xN_d, xN_e, xN_f, xN_g, xN_h, xI_add, xI_mul, xI_sub, xI_tn, xI_in, xI_ofNat, gi_si_eq, gi_n1, gi_n2, gl_sl_eq, gl_n1, gl_n2, gi_sl, gl_si, forall_eq, true_implies, false_implies, not_true_eq_false, not_false_eq_true, and_true, true_and, implies_true, and_self]
    refine M_fig (m := m) (p := p + 2) (t := t) hT hm (by omega) (by omega) (by omega) (by simp (disch := omega) only [fa_lit0, xI_le_T, xI_le_F, xI_lt_T, xI_lt_F, xI_eq_T, xI_eq_F, xN_a, xN_b, xN_c, xN_d, xN_e, xN_f, xN_g, xN_h, xI_add, xI_mul, xI_sub, xI_tn, xI_in, xI_ofNat, gi_si_eq, gi_n1, gi_n2, gl_sl_eq, gl_n1, gl_n2, gi_sl, gl_si, forall_eq, true_implies, false_implies, not_true_eq_false, not_false_eq_true, and_true, true_and, implies_true, and_self, h1]) (by simp (disch := omega) only [fa_lit0, xI_le_T, xI_le_F, xI_lt_T, xI_lt_F, xI_eq_T, xI_eq_F, xN_a, xN_b, xN_c, xN_d, xN_e, xN_f, xN_g, xN_h, xI_add, xI_mul, xI_sub, xI_tn, xI_in, xI_ofNat, gi_si_eq, gi_n1, gi_n2, gl_sl_eq, gl_n1, gl_n2, gi_sl, gl_si, forall_eq, true_implies, false_implies, not_true_eq_false, not_false_eq_true, and_true, true_and, implies_true, and_self]) (fun i hi => by simp (disch := omega) only [fa_lit0, xI_le_T, xI_le_F, xI_lt_T, xI_lt_F, xI_eq_T, xI_eq_F, xN_a, xN_b, xN_c, xN_d, xN_e, xN_f, xN_g, xN_h, xI_add, xI_mul, xI_sub, xI_tn, xI_in, xI_ofNat, gi_si_eq, gi_n1, gi_n2, gl_sl_eq, gl_n1, gl_n2, gi_sl, gl_si, forall_eq, true_implies, false_implies, not_true_eq_false, not_false_eq_true, and_true, true_and, implies_true, and_self, h5 i hi]) (fun f0 x => ?_) (fun b fb lb hb => ?_)
    · rw [if_pos f0] at hQ0
      simp (disch := omega) only [fa_lit0, xI_le_T, xI_le_F, xI_lt_T, xI_lt_F, xI_eq_T, xI_eq_F, xN_a, xN_b, xN_c, xN_d, xN_e, xN_f, xN_g, xN_h, xI_add, xI_mul, xI_sub, xI_tn, xI_in, xI_ofNat, gi_si_eq, gi_n1, gi_n2, gl_sl_eq, gl_n1, gl_n2, gi_sl, gl_si, forall_eq, true_implies, false_implies, not_true_eq_false, not_false_eq_true, and_true, true_and, implies_true, and_self, k_M_readsArm_136]
      refine hQ0 _ ((s2.wi (Or.inl (by omega))).wi (Or.inl (by omega))) (by dsimp only; omega) ?_
      simp (disch := omega) only [fa_lit0, xI_le_T, xI_le_F, xI_lt_T, xI_lt_F, xI_eq_T, xI_eq_F, xN_a, xN_b, xN_c, xN_d, xN_e, xN_f, xN_g, xN_h, xI_add, xI_mul, xI_sub, xI_tn, xI_in, xI_ofNat, gi_si_eq, gi_n1, gi_n2, gl_sl_eq, gl_n1, gl_n2, gi_sl, gl_si, forall_eq, true_implies, false_implies, not_true_eq_false, not_false_eq_true, and_true, true_and, implies_true, and_self]
    rw [if_neg (by omega)] at hQ1 hQ0
    have s3 := ((s2.wi (x := nI b) (show SQ 312 19 from Or.inl (by omega))).wi (x := nI (p + 2 + 1)) (show SQ 312 18 from Or.inl (by omega))).wi (k := 325) (j := 5 * A 0 0 + 2) (x := nI b) (Or.inr (Or.inl rfl))
    simp (disch := omega) only [fa_lit0, xI_le_T, xI_le_F, xI_lt_T, xI_lt_F, xI_eq_T, xI_eq_F, xN_a, xN_b, xN_c, xN_d, xN_e, xN_f, xN_g, xN_h, xI_add, xI_mul, xI_sub, xI_tn, xI_in, xI_ofNat, gi_si_eq, gi_n1, gi_n2, gl_sl_eq, gl_n1, gl_n2, gi_sl, gl_si, forall_eq, true_implies, false_implies, not_true_eq_false, not_false_eq_true, and_true, true_and, implies_true, and_self, k_M_readsArm_136]
    rw [lpArm]
    unfold k_M_readsArm_63
    simp (disch := omega) only [fa_lit0, xI_le_T, xI_le_F, xI_lt_T, xI_lt_F, xI_eq_T, xI_eq_F, xN_a, xN_b, xN_c, xN_d, xN_e, xN_f, xN_g, xN_h, xI_add, xI_mul, xI_sub, xI_tn, xI_in, xI_ofNat, gi_si_eq, gi_n1, gi_n2, gl_sl_eq, gl_n1, gl_n2, gi_sl, gl_si, forall_eq, true_implies, false_implies, not_true_eq_false, not_false_eq_true, and_true, true_and, implies_true, and_self]
    refine M_fig (m := m) (p := p + 3) (t := t) hT hm (by omega) (by omega) (by omega) (by simp (disch := omega) only [fa_lit0, xI_le_T, xI_le_F, xI_lt_T, xI_lt_F, xI_eq_T, xI_eq_F, xN_a, xN_b, xN_c, xN_d, xN_e, xN_f, xN_g, xN_h, xI_add, xI_mul, xI_sub, xI_tn, xI_in, xI_ofNat, gi_si_eq, gi_n1, gi_n2, gl_sl_eq, gl_n1, gl_n2, gi_sl, gl_si, forall_eq, true_implies, false_implies, not_true_eq_false, not_false_eq_true, and_true, true_and, implies_true, and_self, h1]) (by simp (disch := omega) only [fa_lit0, xI_le_T, xI_le_F, xI_lt_T, xI_lt_F, xI_eq_T, xI_eq_F, xN_a, xN_b, xN_c, xN_d, xN_e, xN_f, xN_g, xN_h, xI_add, xI_mul, xI_sub, xI_tn, xI_in, xI_ofNat, gi_si_eq, gi_n1, gi_n2, gl_sl_eq, gl_n1, gl_n2, gi_sl, gl_si, forall_eq, true_implies, false_implies, not_true_eq_false, not_false_eq_true, and_true, true_and, implies_true, and_self]) (fun i hi => by simp (disch := omega) only [fa_lit0, xI_le_T, xI_le_F, xI_lt_T, xI_lt_F, xI_eq_T, xI_eq_F, xN_a, xN_b, xN_c, xN_d, xN_e, xN_f, xN_g, xN_h, xI_add, xI_mul, xI_sub, xI_tn, xI_in, xI_ofNat, gi_si_eq, gi_n1, gi_n2, gl_sl_eq, gl_n1, gl_n2, gi_sl, gl_si, forall_eq, true_implies, false_implies, not_true_eq_false, not_false_eq_true, and_true, true_and, implies_true, and_self, h5 i hi]) (fun f0 x => ?_) (fun c fc lc hc => ?_)
    · rw [if_pos f0] at hQ0
      simp (disch := omega) only [fa_lit0, xI_le_T, xI_le_F, xI_lt_T, xI_lt_F, xI_eq_T, xI_eq_F, xN_a, xN_b, xN_c, xN_d, xN_e, xN_f, xN_g, xN_h, xI_add, xI_mul, xI_sub, xI_tn, xI_in, xI_ofNat, gi_si_eq, gi_n1, gi_n2, gl_sl_eq, gl_n1, gl_n2, gi_sl, gl_si, forall_eq, true_implies, false_implies, not_true_eq_false, not_false_eq_true, and_true, true_and, implies_true, and_self, k_M_readsArm_136]
      refine hQ0 _ ((s3.wi (Or.inl (by omega))).wi (Or.inl (by omega))) (by dsimp only; omega) ?_
      simp (disch := omega) only [fa_lit0, xI_le_T, xI_le_F, xI_lt_T, xI_lt_F, xI_eq_T, xI_eq_F, xN_a, xN_b, xN_c, xN_d, xN_e, xN_f, xN_g, xN_h, xI_add, xI_mul, xI_sub, xI_tn, xI_in, xI_ofNat, gi_si_eq, gi_n1, gi_n2, gl_sl_eq, gl_n1, gl_n2, gi_sl, gl_si, forall_eq, true_implies, false_implies, not_true_eq_false, not_false_eq_true, and_true, true_and, implies_true, and_self]
    rw [if_neg (by omega)] at hQ1 hQ0
    have s4 := ((s3.wi (x := nI c) (show SQ 312 19 from Or.inl (by omega))).wi (x := nI (p + 3 + 1)) (show SQ 312 18 from Or.inl (by omega))).wi (k := 325) (j := 5 * A 0 0 + 3) (x := nI c) (Or.inr (Or.inl rfl))
    simp (disch := omega) only [fa_lit0, xI_le_T, xI_le_F, xI_lt_T, xI_lt_F, xI_eq_T, xI_eq_F, xN_a, xN_b, xN_c, xN_d, xN_e, xN_f, xN_g, xN_h, xI_add, xI_mul, xI_sub, xI_tn, xI_in, xI_ofNat, gi_si_eq, gi_n1, gi_n2, gl_sl_eq, gl_n1, gl_n2, gi_sl, gl_si, forall_eq, true_implies, false_implies, not_true_eq_false, not_false_eq_true, and_true, true_and, implies_true, and_self, k_M_readsArm_136]
    rw [lpArm]
    unfold k_M_readsArm_63
    simp (disch := omega) only [fa_lit0, xI_le_T, xI_le_F, xI_lt_T, xI_lt_F, xI_eq_T, xI_eq_F, xN_a, xN_b, xN_c, xN_d, xN_e, xN_f, xN_g, xN_h, xI_add, xI_mul, xI_sub, xI_tn, xI_in, xI_ofNat, gi_si_eq, gi_n1, gi_n2, gl_sl_eq, gl_n1, gl_n2, gi_sl, gl_si, forall_eq, true_implies, false_implies, not_true_eq_false, not_false_eq_true, and_true, true_and, implies_true, and_self]
    rw [fa, fb, fc, Nat.add_sub_cancel, Nat.add_sub_cancel, Nat.add_sub_cancel] at hQ1 hQ0
    refine M_fig (m := m) (p := p + 4) (t := t) hT hm (by omega) (by omega) (by omega) (by simp (disch := omega) only [fa_lit0, xI_le_T, xI_le_F, xI_lt_T, xI_lt_F, xI_eq_T, xI_eq_F, xN_a, xN_b, xN_c, xN_d, xN_e, xN_f, xN_g, xN_h, xI_add, xI_mul, xI_sub, xI_tn, xI_in, xI_ofNat, gi_si_eq, gi_n1, gi_n2, gl_sl_eq, gl_n1, gl_n2, gi_sl, gl_si, forall_eq, true_implies, false_implies, not_true_eq_false, not_false_eq_true, and_true, true_and, implies_true, and_self, h1]) (by simp (disch := omega) only [fa_lit0, xI_le_T, xI_le_F, xI_lt_T, xI_lt_F, xI_eq_T, xI_eq_F, xN_a, xN_b, xN_c, xN_d, xN_e, xN_f, xN_g, xN_h, xI_add, xI_mul, xI_sub, xI_tn, xI_in, xI_ofNat, gi_si_eq, gi_n1, gi_n2, gl_sl_eq, gl_n1, gl_n2, gi_sl, gl_si, forall_eq, true_implies, false_implies, not_true_eq_false, not_false_eq_true, and_true, true_and, implies_true, and_self]) (fun i hi => by simp (disch := omega) only [fa_lit0, xI_le_T, xI_le_F, xI_lt_T, xI_lt_F, xI_eq_T, xI_eq_F, xN_a, xN_b, xN_c, xN_d, xN_e, xN_f, xN_g, xN_h, xI_add, xI_mul, xI_sub, xI_tn, xI_in, xI_ofNat, gi_si_eq, gi_n1, gi_n2, gl_sl_eq, gl_n1, gl_n2, gi_sl, gl_si, forall_eq, true_implies, false_implies, not_true_eq_false, not_false_eq_true, and_true, true_and, implies_true, and_self, h5 i hi]) (fun f0 x => ?_) (fun d fd ld hd => ?_)
    · rw [if_pos f0] at hQ0
      simp (disch := omega) only [fa_lit0, xI_le_T, xI_le_F, xI_lt_T, xI_lt_F, xI_eq_T, xI_eq_F, xN_a, xN_b, xN_c, xN_d, xN_e, xN_f, xN_g, xN_h, xI_add, xI_mul, xI_sub, xI_tn, xI_in, xI_ofNat, gi_si_eq, gi_n1, gi_n2, gl_sl_eq, gl_n1, gl_n2, gi_sl, gl_si, forall_eq, true_implies, false_implies, not_true_eq_false, not_false_eq_true, and_true, true_and, implies_true, and_self, k_M_readsArm_136]
      refine hQ0 _ ((s4.wi (Or.inl (by omega))).wi (Or.inl (by omega))) (by dsimp only; omega) ?_
      simp (disch := omega) only [fa_lit0, xI_le_T, xI_le_F, xI_lt_T, xI_lt_F, xI_eq_T, xI_eq_F, xN_a, xN_b, xN_c, xN_d, xN_e, xN_f, xN_g, xN_h, xI_add, xI_mul, xI_sub, xI_tn, xI_in, xI_ofNat, gi_si_eq, gi_n1, gi_n2, gl_sl_eq, gl_n1, gl_n2, gi_sl, gl_si, forall_eq, true_implies, false_implies, not_true_eq_false, not_false_eq_true, and_true, true_and, implies_true, and_self]
    rw [if_neg (by omega), fd, Nat.add_sub_cancel] at hQ1
    have s5 := ((s4.wi (x := nI d) (show SQ 312 19 from Or.inl (by omega))).wi (x := nI (p + 4 + 1)) (show SQ 312 18 from Or.inl (by omega))).wi (k := 325) (j := 5 * A 0 0 + 4) (x := nI d) (Or.inr (Or.inl rfl))
    simp (disch := omega) only [fa_lit0, xI_le_T, xI_le_F, xI_lt_T, xI_lt_F, xI_eq_T, xI_eq_F, xN_a, xN_b, xN_c, xN_d, xN_e, xN_f, xN_g, xN_h, xI_add, xI_mul, xI_sub, xI_tn, xI_in, xI_ofNat, gi_si_eq, gi_n1, gi_n2, gl_sl_eq, gl_n1, gl_n2, gi_sl, gl_si, forall_eq, true_implies, false_implies, not_true_eq_false, not_false_eq_true, and_true, true_and, implies_true, and_self, k_M_readsArm_136]
    rw [lpArm]
    unfold k_M_readsArm_63
    simp (disch := omega) only [fa_lit0, xI_le_T, xI_le_F, xI_lt_T, xI_lt_F, xI_eq_T, xI_eq_F, xN_a, xN_b, xN_c, xN_d, xN_e, xN_f, xN_g, xN_h, xI_add, xI_mul, xI_sub, xI_tn, xI_in, xI_ofNat, gi_si_eq, gi_n1, gi_n2, gl_sl_eq, gl_n1, gl_n2, gi_sl, gl_si, forall_eq, true_implies, false_implies, not_true_eq_false, not_false_eq_true, and_true, true_and, implies_true, and_self, h6]
    refine hQ1 _ (s5.wi (Or.inl (by omega))) rfl ?_
    show PM T t m (p + 5) w (addA A (kdl (t p)) a b c d) _
    obtain ⟨e1, e2, e3, e4, e5⟩ := addA_n A (kdl (t p)) a b c d
    refine ⟨?_, ?_, ?_, fun i hi => ?_, ?_, ?_, fun i hi => ?_, fun i hi => ?_⟩
    · simp (disch := omega) only [fa_lit0, xI_le_T, xI_le_F, xI_lt_T, xI_lt_F, xI_eq_T, xI_eq_F, xN_a, xN_b, xN_c, xN_d, xN_e, xN_f, xN_g, xN_h, xI_add, xI_mul, xI_sub, xI_tn, xI_in, xI_ofNat, gi_si_eq, gi_n1, gi_n2, gl_sl_eq, gl_n1, gl_n2, gi_sl, gl_si, forall_eq, true_implies, false_implies, not_true_eq_false, not_false_eq_true, and_true, true_and, implies_true, and_self, h1]
    · simp (disch := omega) only [fa_lit0, xI_le_T, xI_le_F, xI_lt_T, xI_lt_F, xI_eq_T, xI_eq_F, xN_a, xN_b, xN_c, xN_d, xN_e, xN_f, xN_g, xN_h, xI_add, xI_mul, xI_sub, xI_tn, xI_in, xI_ofNat, gi_si_eq, gi_n1, gi_n2, gl_sl_eq, gl_n1, gl_n2, gi_sl, gl_si, forall_eq, true_implies, false_implies, not_true_eq_false, not_false_eq_true, and_true, true_and, implies_true, and_self]
    · simp (disch := omega) only [fa_lit0, xI_le_T, xI_le_F, xI_lt_T, xI_lt_F, xI_eq_T, xI_eq_F, xN_a, xN_b, xN_c, xN_d, xN_e, xN_f, xN_g, xN_h, xI_add, xI_mul, xI_sub, xI_tn, xI_in, xI_ofNat, gi_si_eq, gi_n1, gi_n2, gl_sl_eq, gl_n1, gl_n2, gi_sl, gl_si, forall_eq, true_implies, false_implies, not_true_eq_false, not_false_eq_true, and_true, true_and, implies_true, and_self, h3]
    · simp (disch := omega) only [fa_lit0, xI_le_T, xI_le_F, xI_lt_T, xI_lt_F, xI_eq_T, xI_eq_F, xN_a, xN_b, xN_c, xN_d, xN_e, xN_f, xN_g, xN_h, xI_add, xI_mul, xI_sub, xI_tn, xI_in, xI_ofNat, gi_si_eq, gi_n1, gi_n2, gl_sl_eq, gl_n1, gl_n2, gi_sl, gl_si, forall_eq, true_implies, false_implies, not_true_eq_false, not_false_eq_true, and_true, true_and, implies_true, and_self, h5 i hi]
    · rw [addA_z]; simp (disch := omega) only [fa_lit0, xI_le_T, xI_le_F, xI_lt_T, xI_lt_F, xI_eq_T, xI_eq_F, xN_a, xN_b, xN_c, xN_d, xN_e, xN_f, xN_g, xN_h, xI_add, xI_mul, xI_sub, xI_tn, xI_in, xI_ofNat, gi_si_eq, gi_n1, gi_n2, gl_sl_eq, gl_n1, gl_n2, gi_sl, gl_si, forall_eq, true_implies, false_implies, not_true_eq_false, not_false_eq_true, and_true, true_and, implies_true, and_self]
    · rw [addA_o (by omega) (by omega)]; simp (disch := omega) only [fa_lit0, xI_le_T, xI_le_F, xI_lt_T, xI_lt_F, xI_eq_T, xI_eq_F, xN_a, xN_b, xN_c, xN_d, xN_e, xN_f, xN_g, xN_h, xI_add, xI_mul, xI_sub, xI_tn, xI_in, xI_ofNat, gi_si_eq, gi_n1, gi_n2, gl_sl_eq, gl_n1, gl_n2, gi_sl, gl_si, forall_eq, true_implies, false_implies, not_true_eq_false, not_false_eq_true, and_true, true_and, implies_true, and_self, h7]
    · rw [addA_z] at hi
      by_cases ci : i = A 0 0
      · subst ci
        rw [e1, e2, e3, e4, e5]
        simp (disch := omega) only [fa_lit0, xI_le_T, xI_le_F, xI_lt_T, xI_lt_F, xI_eq_T, xI_eq_F, xN_a, xN_b, xN_c, xN_d, xN_e, xN_f, xN_g, xN_h, xI_add, xI_mul, xI_sub, xI_tn, xI_in, xI_ofNat, gi_si_eq, gi_n1, gi_n2, gl_sl_eq, gl_n1, gl_n2, gi_sl, gl_si, forall_eq, true_implies, false_implies, not_true_eq_false, not_false_eq_true, and_true, true_and, implies_true, and_self]
      · rw [addA_o (by omega) (by omega), addA_o (by omega) (by omega), addA_o (by omega) (by omega), addA_o (by omega) (by omega), addA_o (by omega) (by omega)]
        simp (disch := omega) only [fa_lit0, xI_le_T, xI_le_F, xI_lt_T, xI_lt_F, xI_eq_T, xI_eq_F, xN_a, xN_b, xN_c, xN_d, xN_e, xN_f, xN_g, xN_h, xI_add, xI_mul, xI_sub, xI_tn, xI_in, xI_ofNat, gi_si_eq, gi_n1, gi_n2, gl_sl_eq, gl_n1, gl_n2, gi_sl, gl_si, forall_eq, true_implies, false_implies, not_true_eq_false, not_false_eq_true, and_true, true_and, implies_true, and_self, h8 i (by omega)]
    · rw [addA_o (by omega) (by omega)]; simp (disch := omega) only [fa_lit0, xI_le_T, xI_le_F, xI_lt_T, xI_lt_F, xI_eq_T, xI_eq_F, xN_a, xN_b, xN_c, xN_d, xN_e, xN_f, xN_g, xN_h, xI_add, xI_mul, xI_sub, xI_tn, xI_in, xI_ofNat, gi_si_eq, gi_n1, gi_n2, gl_sl_eq, gl_n1, gl_n2, gi_sl, gl_si, forall_eq, true_implies, false_implies, not_true_eq_false, not_false_eq_true, and_true, true_and, implies_true, and_self, h9 i hi]
theorem M_riverR {T m p w : Nat} {t : Nat → Int32} {A : Nat → Nat → Nat} {M : Mm} (hT : T < 4) (hm : m ≤ 60) (h : PM T t m p w A M) (hA : A 0 1 = 0) (hp : p < m) {Q : Int32 → Mm → Prop} (hQ1 : ∀ M', Sm SQ M M' → (itm t m p w A).1 = 0 → PM T t m (itm t m p w A).2.1 (itm t m p w A).2.2.1 (itm t m p w A).2.2.2 M' → Q (nI 1) M') (hQ0 : ∀ M', Sm SQ M M' → ¬ (itm t m p w A).1 = 0 → gi M' 312 18 = nI ((itm t m p w A).1 - 1) → Q (nI 0) M') : wp_M_readsRiver (nI T) M Q := by
  obtain ⟨h1, h2, h3, h5, h6, h7, h8, h9⟩ := h
  unfold itm at hQ1 hQ0
  rw [if_pos hA] at hQ1 hQ0
  unfold wp_M_readsRiver
  rw [h2]
  refine M_byte hT hm (by omega) h1 h5 ?_
  rw [if_pos hp]
  have s0 := Sm.refl SQ M
  by_cases cr : t p = nI 114
  · rw [if_pos cr] at hQ1 hQ0
    simp (disch := omega) only [fa_lit0, xI_le_T, xI_le_F, xI_lt_T, xI_lt_F, xI_eq_T, xI_eq_F, xN_a, xN_b, xN_c, xN_d, xN_e, xN_f, xN_g, xN_h, xI_add, xI_mul, xI_sub, xI_tn, xI_in, xI_ofNat, gi_si_eq, gi_n1, gi_n2, gl_sl_eq, gl_n1, gl_n2, gi_sl, gl_si, forall_eq, true_implies, false_implies, not_true_eq_false, not_false_eq_true, and_true, true_and, implies_true, and_self, cr, h2]
    have s1 := s0.wi (x := nI (p + 1)) (show SQ 312 18 from Or.inl (by omega))
    refine M_fig (m := m) (p := p + 1) (t := t) hT hm (by omega) (by omega) (by omega) (by simp (disch := omega) only [fa_lit0, xI_le_T, xI_le_F, xI_lt_T, xI_lt_F, xI_eq_T, xI_eq_F, xN_a, xN_b, xN_c, xN_d, xN_e, xN_f, xN_g, xN_h, xI_add, xI_mul, xI_sub, xI_tn, xI_in, xI_ofNat, gi_si_eq, gi_n1, gi_n2, gl_sl_eq, gl_n1, gl_n2, gi_sl, gl_si, forall_eq, true_implies, false_implies, not_true_eq_false, not_false_eq_true, and_true, true_and, implies_true, and_self, h1]) (by simp (disch := omega) only [fa_lit0, xI_le_T, xI_le_F, xI_lt_T, xI_lt_F, xI_eq_T, xI_eq_F, xN_a, xN_b, xN_c, xN_d, xN_e, xN_f, xN_g, xN_h, xI_add, xI_mul, xI_sub, xI_tn, xI_in, xI_ofNat, gi_si_eq, gi_n1, gi_n2, gl_sl_eq, gl_n1, gl_n2, gi_sl, gl_si, forall_eq, true_implies, false_implies, not_true_eq_false, not_false_eq_true, and_true, true_and, implies_true, and_self]) (fun i hi => by simp (disch := omega) only [fa_lit0, xI_le_T, xI_le_F, xI_lt_T, xI_lt_F, xI_eq_T, xI_eq_F, xN_a, xN_b, xN_c, xN_d, xN_e, xN_f, xN_g, xN_h, xI_add, xI_mul, xI_sub, xI_tn, xI_in, xI_ofNat, gi_si_eq, gi_n1, gi_n2, gl_sl_eq, gl_n1, gl_n2, gi_sl, gl_si, forall_eq, true_implies, false_implies, not_true_eq_false, not_false_eq_true, and_true, true_and, implies_true, and_self, h5 i hi]) (fun f0 x => ?_) (fun d fd ld hd => ?_)
    · rw [if_pos f0] at hQ0
      simp (disch := omega) only [fa_lit0, xI_le_T, xI_le_F, xI_lt_T, xI_lt_F, xI_eq_T, xI_eq_F, xN_a, xN_b, xN_c, xN_d, xN_e, xN_f, xN_g, xN_h, xI_add, xI_mul, xI_sub, xI_tn, xI_in, xI_ofNat, gi_si_eq, gi_n1, gi_n2, gl_sl_eq, gl_n1, gl_n2, gi_sl, gl_si, forall_eq, true_implies, false_implies, not_true_eq_false, not_false_eq_true, and_true, true_and, implies_true, and_self]
      refine hQ0 _ ((s1.wi (Or.inl (by omega))).wi (Or.inl (by omega))) (by dsimp only; omega) ?_
      simp (disch := omega) only [fa_lit0, xI_le_T, xI_le_F, xI_lt_T, xI_lt_F, xI_eq_T, xI_eq_F, xN_a, xN_b, xN_c, xN_d, xN_e, xN_f, xN_g, xN_h, xI_add, xI_mul, xI_sub, xI_tn, xI_in, xI_ofNat, gi_si_eq, gi_n1, gi_n2, gl_sl_eq, gl_n1, gl_n2, gi_sl, gl_si, forall_eq, true_implies, false_implies, not_true_eq_false, not_false_eq_true, and_true, true_and, implies_true, and_self]
    · rw [if_neg (by omega), fd, Nat.add_sub_cancel] at hQ1
      simp (disch := omega) only [fa_lit0, xI_le_T, xI_le_F, xI_lt_T, xI_lt_F, xI_eq_T, xI_eq_F, xN_a, xN_b, xN_c, xN_d, xN_e, xN_f, xN_g, xN_h, xI_add, xI_mul, xI_sub, xI_tn, xI_in, xI_ofNat, gi_si_eq, gi_n1, gi_n2, gl_sl_eq, gl_n1, gl_n2, gi_sl, gl_si, forall_eq, true_implies, false_implies, not_true_eq_false, not_false_eq_true, and_true, true_and, implies_true, and_self]
      refine hQ1 _ (((s1.wi (Or.inl (by omega))).wi (Or.inl (by omega))).wi (Or.inl (by omega))) rfl ?_
      show PM T t m (p + 2) w (upC A 0 1 (3 * d)) _
      have e : ∀ a b, a ≠ 0 → upC A 0 1 (3 * d) a b = A a b := fun a b q => upC_ne (by omega)
      refine ⟨?_, ?_, ?_, fun i hi => ?_, ?_, ?_, fun i hi => ?_, fun i hi => ?_⟩
      · simp (disch := omega) only [fa_lit0, xI_le_T, xI_le_F, xI_lt_T, xI_lt_F, xI_eq_T, xI_eq_F, xN_a, xN_b, xN_c, xN_d, xN_e, xN_f, xN_g, xN_h, xI_add, xI_mul, xI_sub, xI_tn, xI_in, xI_ofNat, gi_si_eq, gi_n1, gi_n2, gl_sl_eq, gl_n1, gl_n2, gi_sl, gl_si, forall_eq, true_implies, false_implies, not_true_eq_false, not_false_eq_true, and_true, true_and, implies_true, and_self, h1]
      · simp (disch := omega) only [fa_lit0, xI_le_T, xI_le_F, xI_lt_T, xI_lt_F, xI_eq_T, xI_eq_F, xN_a, xN_b, xN_c, xN_d, xN_e, xN_f, xN_g, xN_h, xI_add, xI_mul, xI_sub, xI_tn, xI_in, xI_ofNat, gi_si_eq, gi_n1, gi_n2, gl_sl_eq, gl_n1, gl_n2, gi_sl, gl_si, forall_eq, true_implies, false_implies, not_true_eq_false, not_false_eq_true, and_true, true_and, implies_true, and_self]
      · simp (disch := omega) only [fa_lit0, xI_le_T, xI_le_F, xI_lt_T, xI_lt_F, xI_eq_T, xI_eq_F, xN_a, xN_b, xN_c, xN_d, xN_e, xN_f, xN_g, xN_h, xI_add, xI_mul, xI_sub, xI_tn, xI_in, xI_ofNat, gi_si_eq, gi_n1, gi_n2, gl_sl_eq, gl_n1, gl_n2, gi_sl, gl_si, forall_eq, true_implies, false_implies, not_true_eq_false, not_false_eq_true, and_true, true_and, implies_true, and_self, h3]
      · simp (disch := omega) only [fa_lit0, xI_le_T, xI_le_F, xI_lt_T, xI_lt_F, xI_eq_T, xI_eq_F, xN_a, xN_b, xN_c, xN_d, xN_e, xN_f, xN_g, xN_h, xI_add, xI_mul, xI_sub, xI_tn, xI_in, xI_ofNat, gi_si_eq, gi_n1, gi_n2, gl_sl_eq, gl_n1, gl_n2, gi_sl, gl_si, forall_eq, true_implies, false_implies, not_true_eq_false, not_false_eq_true, and_true, true_and, implies_true, and_self, h5 i hi]
      · rw [upC_ne (by omega)]; simp (disch := omega) only [fa_lit0, xI_le_T, xI_le_F, xI_lt_T, xI_lt_F, xI_eq_T, xI_eq_F, xN_a, xN_b, xN_c, xN_d, xN_e, xN_f, xN_g, xN_h, xI_add, xI_mul, xI_sub, xI_tn, xI_in, xI_ofNat, gi_si_eq, gi_n1, gi_n2, gl_sl_eq, gl_n1, gl_n2, gi_sl, gl_si, forall_eq, true_implies, false_implies, not_true_eq_false, not_false_eq_true, and_true, true_and, implies_true, and_self, h6]
      · rw [upC_eq]; simp (disch := omega) only [fa_lit0, xI_le_T, xI_le_F, xI_lt_T, xI_lt_F, xI_eq_T, xI_eq_F, xN_a, xN_b, xN_c, xN_d, xN_e, xN_f, xN_g, xN_h, xI_add, xI_mul, xI_sub, xI_tn, xI_in, xI_ofNat, gi_si_eq, gi_n1, gi_n2, gl_sl_eq, gl_n1, gl_n2, gi_sl, gl_si, forall_eq, true_implies, false_implies, not_true_eq_false, not_false_eq_true, and_true, true_and, implies_true, and_self]
      · rw [upC_ne (by omega)] at hi
        rw [e 1 i (by omega), e 2 i (by omega), e 3 i (by omega), e 4 i (by omega), e 5 i (by omega)]
        simp (disch := omega) only [fa_lit0, xI_le_T, xI_le_F, xI_lt_T, xI_lt_F, xI_eq_T, xI_eq_F, xN_a, xN_b, xN_c, xN_d, xN_e, xN_f, xN_g, xN_h, xI_add, xI_mul, xI_sub, xI_tn, xI_in, xI_ofNat, gi_si_eq, gi_n1, gi_n2, gl_sl_eq, gl_n1, gl_n2, gi_sl, gl_si, forall_eq, true_implies, false_implies, not_true_eq_false, not_false_eq_true, and_true, true_and, implies_true, and_self, h8 i hi]
      · rw [e 6 i (by omega)]; simp (disch := omega) only [fa_lit0, xI_le_T, xI_le_F, xI_lt_T, xI_lt_F, xI_eq_T, xI_eq_F, xN_a, xN_b, xN_c, xN_d, xN_e, xN_f, xN_g, xN_h, xI_add, xI_mul, xI_sub, xI_tn, xI_in, xI_ofNat, gi_si_eq, gi_n1, gi_n2, gl_sl_eq, gl_n1, gl_n2, gi_sl, gl_si, forall_eq, true_implies, false_implies, not_true_eq_false, not_false_eq_true, and_true, true_and, implies_true, and_self, h9 i hi]
  · rw [if_neg cr] at hQ0
    simp (disch := omega) only [fa_lit0, xI_le_T, xI_le_F, xI_lt_T, xI_lt_F, xI_eq_T, xI_eq_F, xN_a, xN_b, xN_c, xN_d, xN_e, xN_f, xN_g, xN_h, xI_add, xI_mul, xI_sub, xI_tn, xI_in, xI_ofNat, gi_si_eq, gi_n1, gi_n2, gl_sl_eq, gl_n1, gl_n2, gi_sl, gl_si, forall_eq, true_implies, false_implies, not_true_eq_false, not_false_eq_true, and_true, true_and, implies_true, and_self, cr]
    exact hQ0 M s0 (by dsimp only; omega) h2
theorem M_itemR {T m p w : Nat} {t : Nat → Int32} {A : Nat → Nat → Nat} {M : Mm} (hT : T < 4) (hm : m ≤ 60) (h : PM T t m p w A M) (hO : OkP w A) (hp : p < m) {Q : Int32 → Mm → Prop} (hQ1 : ∀ M', Sm SQ M M' → (itm t m p w A).1 = 0 → PM T t m (itm t m p w A).2.1 (itm t m p w A).2.2.1 (itm t m p w A).2.2.2 M' → Q (nI 1) M') (hQ0 : ∀ M', Sm SQ M M' → ¬ (itm t m p w A).1 = 0 → gi M' 312 18 = nI ((itm t m p w A).1 - 1) → Q (nI 0) M') : wp_M_readsItem (nI T) M Q := by
  have hh := h
  obtain ⟨h1, h2, h3, h5, h6, h7, h8, h9⟩ := h
  have hr := hO.2.2.1
  unfold wp_M_readsItem
  by_cases hA : A 0 1 = 0
  · simp (disch := omega) only [fa_lit0, xI_le_T, xI_le_F, xI_lt_T, xI_lt_F, xI_eq_T, xI_eq_F, xN_a, xN_b, xN_c, xN_d, xN_e, xN_f, xN_g, xN_h, xI_add, xI_mul, xI_sub, xI_tn, xI_in, xI_ofNat, gi_si_eq, gi_n1, gi_n2, gl_sl_eq, gl_n1, gl_n2, gi_sl, gl_si, forall_eq, true_implies, false_implies, not_true_eq_false, not_false_eq_true, and_true, true_and, implies_true, and_self, h7, hA]
    exact M_riverR hT hm hh hA hp (fun M' a b c => ⟨Or.inr rfl, hQ1 M' a b c⟩) (fun M' a b c => ⟨Or.inl rfl, hQ0 M' a b c⟩)
  · simp (disch := omega) only [fa_lit0, xI_le_T, xI_le_F, xI_lt_T, xI_lt_F, xI_eq_T, xI_eq_F, xN_a, xN_b, xN_c, xN_d, xN_e, xN_f, xN_g, xN_h, xI_add, xI_mul, xI_sub, xI_tn, xI_in, xI_ofNat, gi_si_eq, gi_n1, gi_n2, gl_sl_eq, gl_n1, gl_n2, gi_sl, gl_si, forall_eq, true_implies, false_implies, not_true_eq_false, not_false_eq_true, and_true, true_and, implies_true, and_self, h7]
    rw [h2]
    refine M_byte hT hm (by omega) h1 h5 ?_
    rw [if_pos hp]
    by_cases ht : t p = nI 119
    · refine ⟨fun w => absurd ht w, fun _ => ?_⟩
      exact M_waitR hT hm hh hO hA hp ht (fun M' a b c => ⟨Or.inr rfl, hQ1 M' a b c⟩) (fun M' a b c => ⟨Or.inl rfl, hQ0 M' a b c⟩)
    · refine ⟨fun _ => ?_, fun w => absurd w ht⟩
      exact M_armR hT hm hh hO hA hp ht (fun M' a b c => ⟨Or.inr rfl, hQ1 M' a b c⟩) (fun M' a b c => ⟨Or.inl rfl, hQ0 M' a b c⟩)
theorem PM.at {T m p q w : Nat} {t : Nat → Int32} {A : Nat → Nat → Nat} {M : Mm} (h : PM T t m p w A M) : PM T t m q w A (si M 312 18 (nI q)) := by
  obtain ⟨h1, h2, h3, h5, h6, h7, h8, h9⟩ := h
  refine ⟨?_, ?_, ?_, fun i hi => ?_, ?_, ?_, fun i hi => ?_, fun i hi => ?_⟩
  · simp (disch := omega) only [fa_lit0, xI_le_T, xI_le_F, xI_lt_T, xI_lt_F, xI_eq_T, xI_eq_F, xN_a, xN_b, xN_c, xN_d, xN_e, xN_f, xN_g, xN_h, xI_add, xI_mul, xI_sub, xI_tn, xI_in, xI_ofNat, gi_si_eq, gi_n1, gi_n2, gl_sl_eq, gl_n1, gl_n2, gi_sl, gl_si, forall_eq, true_implies, false_implies, not_true_eq_false, not_false_eq_true, and_true, true_and, implies_true, and_self, h1]
  · simp (disch := omega) only [fa_lit0, xI_le_T, xI_le_F, xI_lt_T, xI_lt_F, xI_eq_T, xI_eq_F, xN_a, xN_b, xN_c, xN_d, xN_e, xN_f, xN_g, xN_h, xI_add, xI_mul, xI_sub, xI_tn, xI_in, xI_ofNat, gi_si_eq, gi_n1, gi_n2, gl_sl_eq, gl_n1, gl_n2, gi_sl, gl_si, forall_eq, true_implies, false_implies, not_true_eq_false, not_false_eq_true, and_true, true_and, implies_true, and_self]
  · simp (disch := omega) only [fa_lit0, xI_le_T, xI_le_F, xI_lt_T, xI_lt_F, xI_eq_T, xI_eq_F, xN_a, xN_b, xN_c, xN_d, xN_e, xN_f, xN_g, xN_h, xI_add, xI_mul, xI_sub, xI_tn, xI_in, xI_ofNat, gi_si_eq, gi_n1, gi_n2, gl_sl_eq, gl_n1, gl_n2, gi_sl, gl_si, forall_eq, true_implies, false_implies, not_true_eq_false, not_false_eq_true, and_true, true_and, implies_true, and_self, h3]
  · simp (disch := omega) only [fa_lit0, xI_le_T, xI_le_F, xI_lt_T, xI_lt_F, xI_eq_T, xI_eq_F, xN_a, xN_b, xN_c, xN_d, xN_e, xN_f, xN_g, xN_h, xI_add, xI_mul, xI_sub, xI_tn, xI_in, xI_ofNat, gi_si_eq, gi_n1, gi_n2, gl_sl_eq, gl_n1, gl_n2, gi_sl, gl_si, forall_eq, true_implies, false_implies, not_true_eq_false, not_false_eq_true, and_true, true_and, implies_true, and_self, h5 i hi]
  · simp (disch := omega) only [fa_lit0, xI_le_T, xI_le_F, xI_lt_T, xI_lt_F, xI_eq_T, xI_eq_F, xN_a, xN_b, xN_c, xN_d, xN_e, xN_f, xN_g, xN_h, xI_add, xI_mul, xI_sub, xI_tn, xI_in, xI_ofNat, gi_si_eq, gi_n1, gi_n2, gl_sl_eq, gl_n1, gl_n2, gi_sl, gl_si, forall_eq, true_implies, false_implies, not_true_eq_false, not_false_eq_true, and_true, true_and, implies_true, and_self, h6]
  · simp (disch := omega) only [fa_lit0, xI_le_T, xI_le_F, xI_lt_T, xI_lt_F, xI_eq_T, xI_eq_F, xN_a, xN_b, xN_c, xN_d, xN_e, xN_f, xN_g, xN_h, xI_add, xI_mul, xI_sub, xI_tn, xI_in, xI_ofNat, gi_si_eq, gi_n1, gi_n2, gl_sl_eq, gl_n1, gl_n2, gi_sl, gl_si, forall_eq, true_implies, false_implies, not_true_eq_false, not_false_eq_true, and_true, true_and, implies_true, and_self, h7]
  · simp (disch := omega) only [fa_lit0, xI_le_T, xI_le_F, xI_lt_T, xI_lt_F, xI_eq_T, xI_eq_F, xN_a, xN_b, xN_c, xN_d, xN_e, xN_f, xN_g, xN_h, xI_add, xI_mul, xI_sub, xI_tn, xI_in, xI_ofNat, gi_si_eq, gi_n1, gi_n2, gl_sl_eq, gl_n1, gl_n2, gi_sl, gl_si, forall_eq, true_implies, false_implies, not_true_eq_false, not_false_eq_true, and_true, true_and, implies_true, and_self, h8 i hi]
  · simp (disch := omega) only [fa_lit0, xI_le_T, xI_le_F, xI_lt_T, xI_lt_F, xI_eq_T, xI_eq_F, xN_a, xN_b, xN_c, xN_d, xN_e, xN_f, xN_g, xN_h, xI_add, xI_mul, xI_sub, xI_tn, xI_in, xI_ofNat, gi_si_eq, gi_n1, gi_n2, gl_sl_eq, gl_n1, gl_n2, gi_sl, gl_si, forall_eq, true_implies, false_implies, not_true_eq_false, not_false_eq_true, and_true, true_and, implies_true, and_self, h9 i hi]
theorem M_loopR {T m : Nat} {t : Nat → Int32} (hT : T < 4) (hm : m ≤ 60) {M0 : Mm} {o : Nat × Nat × Nat × (Nat → Nat → Nat)} {Q : Int32 → Mm → Prop} {K : Mm → Prop} (hK : ∀ M', Sm SQ M0 M' → o.1 = 0 → PM T t m o.2.1 o.2.2.1 o.2.2.2 M' → K M') (hQ : ∀ M', Sm SQ M0 M' → ¬ o.1 = 0 → Q (nI (o.1 - 1)) M') : ∀ f p w A M, m ≤ p + f → p < 100 → Sm SQ M0 M → PM T t m p w A M → OkP w A → pr t m p w A = o → lp_M_faultOf_40 (nI T) Q K (f + 1) M := by
  intro f
  induction f with
  | zero =>
    intro p w A M hf hp s h hO he
    show k_M_faultOf_40 (nI T) Q _ K M
    unfold k_M_faultOf_40
    rw [pr_end (by omega)] at he
    simp (disch := omega) only [fa_lit0, xI_le_T, xI_le_F, xI_lt_T, xI_lt_F, xI_eq_T, xI_eq_F, xN_a, xN_b, xN_c, xN_d, xN_e, xN_f, xN_g, xN_h, xI_add, xI_mul, xI_sub, xI_tn, xI_in, xI_ofNat, gi_si_eq, gi_n1, gi_n2, gl_sl_eq, gl_n1, gl_n2, gi_sl, gl_si, forall_eq, true_implies, false_implies, not_true_eq_false, not_false_eq_true, and_true, true_and, implies_true, and_self, h.1, h.2.1]
    subst he
    exact hK M s rfl h
  | succ f ih =>
    intro p w A M hf hp s h hO he
    show k_M_faultOf_40 (nI T) Q _ K M
    unfold k_M_faultOf_40
    by_cases c : p < m
    · simp (disch := omega) only [fa_lit0, xI_le_T, xI_le_F, xI_lt_T, xI_lt_F, xI_eq_T, xI_eq_F, xN_a, xN_b, xN_c, xN_d, xN_e, xN_f, xN_g, xN_h, xI_add, xI_mul, xI_sub, xI_tn, xI_in, xI_ofNat, gi_si_eq, gi_n1, gi_n2, gl_sl_eq, gl_n1, gl_n2, gi_sl, gl_si, forall_eq, true_implies, false_implies, not_true_eq_false, not_false_eq_true, and_true, true_and, implies_true, and_self, h.1, h.2.1]
      refine M_byte hT hm (by omega) h.1 h.2.2.2.1 ?_
      rw [if_pos c]
      by_cases c2 : t p = nI 32
      · refine ⟨fun w => absurd c2 w, fun _ => ?_⟩
        have e3 := h.2.1
        simp (disch := omega) only [fa_lit0, xI_le_T, xI_le_F, xI_lt_T, xI_lt_F, xI_eq_T, xI_eq_F, xN_a, xN_b, xN_c, xN_d, xN_e, xN_f, xN_g, xN_h, xI_add, xI_mul, xI_sub, xI_tn, xI_in, xI_ofNat, gi_si_eq, gi_n1, gi_n2, gl_sl_eq, gl_n1, gl_n2, gi_sl, gl_si, forall_eq, true_implies, false_implies, not_true_eq_false, not_false_eq_true, and_true, true_and, implies_true, and_self, e3]
        refine ih (p + 1) w A _ (by omega) (by omega) (s.wi (Or.inl (by omega))) h.at hO ?_
        rw [← he, pr_bl c c2]
      · refine ⟨fun _ => ?_, fun w => absurd w c2⟩
        have bb := itm_b t m p w A
        refine M_itemR hT hm h hO c (fun M' s' c3 h' => ?_) (fun M' s' c3 e18 => ?_)
        · simp (disch := omega) only [fa_lit0, xI_le_T, xI_le_F, xI_lt_T, xI_lt_F, xI_eq_T, xI_eq_F, xN_a, xN_b, xN_c, xN_d, xN_e, xN_f, xN_g, xN_h, xI_add, xI_mul, xI_sub, xI_tn, xI_in, xI_ofNat, gi_si_eq, gi_n1, gi_n2, gl_sl_eq, gl_n1, gl_n2, gi_sl, gl_si, forall_eq, true_implies, false_implies, not_true_eq_false, not_false_eq_true, and_true, true_and, implies_true, and_self]
          have := itm_p c3
          refine ih _ _ _ M' (by omega) (by omega) (s.trans s') h' (itm_ok hO c3) ?_
          rw [← he, pr_it c c2, if_pos c3]
        · simp (disch := omega) only [fa_lit0, xI_le_T, xI_le_F, xI_lt_T, xI_lt_F, xI_eq_T, xI_eq_F, xN_a, xN_b, xN_c, xN_d, xN_e, xN_f, xN_g, xN_h, xI_add, xI_mul, xI_sub, xI_tn, xI_in, xI_ofNat, gi_si_eq, gi_n1, gi_n2, gl_sl_eq, gl_n1, gl_n2, gi_sl, gl_si, forall_eq, true_implies, false_implies, not_true_eq_false, not_false_eq_true, and_true, true_and, implies_true, and_self, e18]
          rw [pr_it c c2, if_neg c3] at he
          subst he
          exact hQ M' (s.trans s') c3
    · simp (disch := omega) only [fa_lit0, xI_le_T, xI_le_F, xI_lt_T, xI_lt_F, xI_eq_T, xI_eq_F, xN_a, xN_b, xN_c, xN_d, xN_e, xN_f, xN_g, xN_h, xI_add, xI_mul, xI_sub, xI_tn, xI_in, xI_ofNat, gi_si_eq, gi_n1, gi_n2, gl_sl_eq, gl_n1, gl_n2, gi_sl, gl_si, forall_eq, true_implies, false_implies, not_true_eq_false, not_false_eq_true, and_true, true_and, implies_true, and_self, h.1, h.2.1]
      rw [pr_end (by omega)] at he
      subst he
      exact hK M s rfl h
theorem M_faultOf {T m : Nat} {t : Nat → Int32} {M : Mm} (hT : T < 4) (hm : m ≤ 60) (g1 : gi M 317 T = nI m) (g2 : ∀ i, i < m → gi M 318 (60 * T + i) = t i) {Q : Int32 → Mm → Prop} (hQ : ∀ M', Sm SQ M M' → (pout m (pr t m 0 0 (fun _ _ => 0)) = -nI 9 → PM T t m (pr t m 0 0 (fun _ _ => 0)).2.1 (pr t m 0 0 (fun _ _ => 0)).2.2.1 (pr t m 0 0 (fun _ _ => 0)).2.2.2 M') → Q (pout m (pr t m 0 0 (fun _ _ => 0))) M') : wp_M_faultOf (nI T) M Q := by
  unfold wp_M_faultOf
  have hO0 : OkP 0 (fun _ _ => 0) := ⟨Nat.zero_le _, Nat.zero_le _, Nat.zero_le _, fun i hi => absurd hi (Nat.not_lt_zero i), fun i hi => ⟨Nat.two_pow_pos _, by rw [Nat.zero_div]⟩, fun _ _ _ => rfl⟩
  generalize ho : pr t m 0 0 (fun _ _ => 0) = o at hQ
  have ob : o.1 ≤ m + 5 := by rw [← ho]; exact pr_b m 0 0 _ (by omega)
  have s0 : Sm SQ M (si (si (si (si M 312 18 (nI 0)) 312 20 (nI 0)) 312 21 (nI 0)) 312 22 (nI 0)) := ((((Sm.refl SQ M).wi (Or.inl (by omega))).wi (Or.inl (by omega))).wi (Or.inl (by omega))).wi (Or.inl (by omega))
  generalize hM1 : si (si (si (si M 312 18 (nI 0)) 312 20 (nI 0)) 312 21 (nI 0)) 312 22 (nI 0) = M1 at s0
  simp (disch := omega) only [fa_lit0, xI_le_T, xI_le_F, xI_lt_T, xI_lt_F, xI_eq_T, xI_eq_F, xN_a, xN_b, xN_c, xN_d, xN_e, xN_f, xN_g, xN_h, xI_add, xI_mul, xI_sub, xI_tn, xI_in, xI_ofNat, gi_si_eq, gi_n1, gi_n2, gl_sl_eq, gl_n1, gl_n2, gi_sl, gl_si, forall_eq, true_implies, false_implies, not_true_eq_false, not_false_eq_true, and_true, true_and, implies_true, and_self, hM1]
  have z : ∀ K : Mm → Prop, K (fli M1 326 5 (nI 0)) → ∀ f v, v + f = 5 → lp_M_faultOf_22 (nI T) Q K (f + 1) (nI v) (fli M1 326 v (nI 0)) := by
    intro K hK f
    induction f with
    | zero =>
      intro v hv
      have : v = 5 := by omega
      subst this
      show k_M_faultOf_22 (nI T) Q _ K (nI 5) _
      unfold k_M_faultOf_22
      simp (disch := omega) only [fa_lit0, xI_le_T, xI_le_F, xI_lt_T, xI_lt_F, xI_eq_T, xI_eq_F, xN_a, xN_b, xN_c, xN_d, xN_e, xN_f, xN_g, xN_h, xI_add, xI_mul, xI_sub, xI_tn, xI_in, xI_ofNat, gi_si_eq, gi_n1, gi_n2, gl_sl_eq, gl_n1, gl_n2, gi_sl, gl_si, forall_eq, true_implies, false_implies, not_true_eq_false, not_false_eq_true, and_true, true_and, implies_true, and_self]
      exact hK
    | succ f ih =>
      intro v hv
      show k_M_faultOf_22 (nI T) Q _ K (nI v) _
      unfold k_M_faultOf_22
      simp (disch := omega) only [fa_lit0, xI_le_T, xI_le_F, xI_lt_T, xI_lt_F, xI_eq_T, xI_eq_F, xN_a, xN_b, xN_c, xN_d, xN_e, xN_f, xN_g, xN_h, xI_add, xI_mul, xI_sub, xI_tn, xI_in, xI_ofNat, gi_si_eq, gi_n1, gi_n2, gl_sl_eq, gl_n1, gl_n2, gi_sl, gl_si, forall_eq, true_implies, false_implies, not_true_eq_false, not_false_eq_true, and_true, true_and, implies_true, and_self, fli_step]
      exact ih (v + 1) (by omega)
  have z0 : ∀ K : Mm → Prop, K (fli M1 326 5 (nI 0)) → ∃ n, lp_M_faultOf_22 (nI T) Q K n (nI 0) M1 := by
    intro K hK
    have zz := z K hK 5 0 (by omega)
    rw [fli_0] at zz
    exact ⟨5 + 1, zz⟩
  refine z0 _ ?_
  · refine ⟨m + 1, M_loopR hT hm (M0 := M1) (o := o) (t := t) ?_ ?_ m 0 0 (fun _ _ => 0) _ (by omega) (by omega) ?_ ?_ hO0 ho⟩
    · intro M' s c h
      have hok : OkP o.2.2.1 o.2.2.2 := by
        rw [← ho] at c ⊢
        exact pr_ok m _ _ _ (by omega) hO0 c
      have := hok.1
      unfold pout at hQ
      rw [if_pos c] at hQ
      by_cases c2 : o.2.2.2 0 0 = 0
      · rw [if_pos c2] at hQ
        simp (disch := omega) only [fa_lit0, xI_le_T, xI_le_F, xI_lt_T, xI_lt_F, xI_eq_T, xI_eq_F, xN_a, xN_b, xN_c, xN_d, xN_e, xN_f, xN_g, xN_h, xI_add, xI_mul, xI_sub, xI_tn, xI_in, xI_ofNat, gi_si_eq, gi_n1, gi_n2, gl_sl_eq, gl_n1, gl_n2, gi_sl, gl_si, forall_eq, true_implies, false_implies, not_true_eq_false, not_false_eq_true, and_true, true_and, implies_true, and_self, h.2.2.2.2.1, c2, h.1]
        exact hQ _ (s0.trans s) (fun w => absurd w (by simp (disch := omega) only [fa_lit0, xI_le_T, xI_le_F, xI_lt_T, xI_lt_F, xI_eq_T, xI_eq_F, xN_a, xN_b, xN_c, xN_d, xN_e, xN_f, xN_g, xN_h, xI_add, xI_mul, xI_sub, xI_tn, xI_in, xI_ofNat, gi_si_eq, gi_n1, gi_n2, gl_sl_eq, gl_n1, gl_n2, gi_sl, gl_si, forall_eq, true_implies, false_implies, not_true_eq_false, not_false_eq_true, and_true, true_and, implies_true, and_self]))
      · rw [if_neg c2] at hQ
        simp (disch := omega) only [fa_lit0, xI_le_T, xI_le_F, xI_lt_T, xI_lt_F, xI_eq_T, xI_eq_F, xN_a, xN_b, xN_c, xN_d, xN_e, xN_f, xN_g, xN_h, xI_add, xI_mul, xI_sub, xI_tn, xI_in, xI_ofNat, gi_si_eq, gi_n1, gi_n2, gl_sl_eq, gl_n1, gl_n2, gi_sl, gl_si, forall_eq, true_implies, false_implies, not_true_eq_false, not_false_eq_true, and_true, true_and, implies_true, and_self, h.2.2.2.2.1]
        exact hQ _ (s0.trans s) (fun _ => h)
    · intro M' s c
      unfold pout at hQ
      rw [if_neg c] at hQ
      exact hQ _ (s0.trans s) (fun w => absurd w (by simp (disch := omega) only [fa_lit0, xI_le_T, xI_le_F, xI_lt_T, xI_lt_F, xI_eq_T, xI_eq_F, xN_a, xN_b, xN_c, xN_d, xN_e, xN_f, xN_g, xN_h, xI_add, xI_mul, xI_sub, xI_tn, xI_in, xI_ofNat, gi_si_eq, gi_n1, gi_n2, gl_sl_eq, gl_n1, gl_n2, gi_sl, gl_si, forall_eq, true_implies, false_implies, not_true_eq_false, not_false_eq_true, and_true, true_and, implies_true, and_self]))
    · intro a b q
      unfold SQ at q
      rw [gi_fli_ne (by omega), gl_fli]
      exact ⟨rfl, rfl⟩
    · subst hM1
      refine ⟨?_, ?_, ?_, fun i hi => ?_, ?_, ?_, fun i hi => absurd hi (Nat.not_lt_zero i), fun i hi => ?_⟩
      · rw [gi_fli_ne (by omega)]; simp (disch := omega) only [fa_lit0, xI_le_T, xI_le_F, xI_lt_T, xI_lt_F, xI_eq_T, xI_eq_F, xN_a, xN_b, xN_c, xN_d, xN_e, xN_f, xN_g, xN_h, xI_add, xI_mul, xI_sub, xI_tn, xI_in, xI_ofNat, gi_si_eq, gi_n1, gi_n2, gl_sl_eq, gl_n1, gl_n2, gi_sl, gl_si, forall_eq, true_implies, false_implies, not_true_eq_false, not_false_eq_true, and_true, true_and, implies_true, and_self, g1]
      · rw [gi_fli_ne (by omega)]; simp (disch := omega) only [fa_lit0, xI_le_T, xI_le_F, xI_lt_T, xI_lt_F, xI_eq_T, xI_eq_F, xN_a, xN_b, xN_c, xN_d, xN_e, xN_f, xN_g, xN_h, xI_add, xI_mul, xI_sub, xI_tn, xI_in, xI_ofNat, gi_si_eq, gi_n1, gi_n2, gl_sl_eq, gl_n1, gl_n2, gi_sl, gl_si, forall_eq, true_implies, false_implies, not_true_eq_false, not_false_eq_true, and_true, true_and, implies_true, and_self]
      · rw [gi_fli_ne (by omega)]; simp (disch := omega) only [fa_lit0, xI_le_T, xI_le_F, xI_lt_T, xI_lt_F, xI_eq_T, xI_eq_F, xN_a, xN_b, xN_c, xN_d, xN_e, xN_f, xN_g, xN_h, xI_add, xI_mul, xI_sub, xI_tn, xI_in, xI_ofNat, gi_si_eq, gi_n1, gi_n2, gl_sl_eq, gl_n1, gl_n2, gi_sl, gl_si, forall_eq, true_implies, false_implies, not_true_eq_false, not_false_eq_true, and_true, true_and, implies_true, and_self]
      · rw [gi_fli_ne (by omega)]; simp (disch := omega) only [fa_lit0, xI_le_T, xI_le_F, xI_lt_T, xI_lt_F, xI_eq_T, xI_eq_F, xN_a, xN_b, xN_c, xN_d, xN_e, xN_f, xN_g, xN_h, xI_add, xI_mul, xI_sub, xI_tn, xI_in, xI_ofNat, gi_si_eq, gi_n1, gi_n2, gl_sl_eq, gl_n1, gl_n2, gi_sl, gl_si, forall_eq, true_implies, false_implies, not_true_eq_false, not_false_eq_true, and_true, true_and, implies_true, and_self, g2 i hi]
      · rw [gi_fli_ne (by omega)]; simp (disch := omega) only [fa_lit0, xI_le_T, xI_le_F, xI_lt_T, xI_lt_F, xI_eq_T, xI_eq_F, xN_a, xN_b, xN_c, xN_d, xN_e, xN_f, xN_g, xN_h, xI_add, xI_mul, xI_sub, xI_tn, xI_in, xI_ofNat, gi_si_eq, gi_n1, gi_n2, gl_sl_eq, gl_n1, gl_n2, gi_sl, gl_si, forall_eq, true_implies, false_implies, not_true_eq_false, not_false_eq_true, and_true, true_and, implies_true, and_self]
      · rw [gi_fli_ne (by omega)]; simp (disch := omega) only [fa_lit0, xI_le_T, xI_le_F, xI_lt_T, xI_lt_F, xI_eq_T, xI_eq_F, xN_a, xN_b, xN_c, xN_d, xN_e, xN_f, xN_g, xN_h, xI_add, xI_mul, xI_sub, xI_tn, xI_in, xI_ofNat, gi_si_eq, gi_n1, gi_n2, gl_sl_eq, gl_n1, gl_n2, gi_sl, gl_si, forall_eq, true_implies, false_implies, not_true_eq_false, not_false_eq_true, and_true, true_and, implies_true, and_self]
      · rw [gi_fli_in hi]
/-- how a text stands on both sides -/
theorem txt_in {RD : Mm → Prop} {M : Mm} (h : Rel RD M) {T m : Nat} (hT : T < 4) (e : gi M 317 T = nI m) (hm : m ≤ 60) : gi M 14 T = nI m ∧ ∀ i, i < m → gi M (16 + T) i = gi M 318 (60 * T + i) := by
  obtain ⟨g1, g2, g3⟩ := h.2.1 T hT
  exact ⟨g1.trans e, fun i hi => g3 i m e hm hi⟩
theorem op_fault {a1 : Int32} {M : Mm} (h : Rel RDel M) : wp_B_fault a1 M (fun r M1 => wp_M_fault a1 M1 (fun r2 M2 => r = r2 ∧ Rel RDel M2)) := by
  obtain ⟨C, F, D, L, T', N, V, KL, hd⟩ := h.2.2.2.2.2.2.out
  rcases pk_ix a1 (n := 4) (by omega) with g | g | ⟨T, hT, rfl⟩
  · simp (disch := omega) only [fa_lit0, xI_le_T, xI_le_F, xI_lt_T, xI_lt_F, xI_eq_T, xI_eq_F, xN_a, xN_b, xN_c, xN_d, xN_e, xN_f, xN_g, xN_h, xI_add, xI_mul, xI_sub, xI_tn, xI_in, xI_ofNat, gi_si_eq, gi_n1, gi_n2, gl_sl_eq, gl_n1, gl_n2, gi_sl, gl_si, forall_eq, true_implies, false_implies, not_true_eq_false, not_false_eq_true, and_true, true_and, implies_true, and_self, wp_B_fault, wp_B_shelfRefusal, wp_Sh_knows, wp_M_fault, wp_M_isText, wp_M_in, ng_a g, zb_0]; exact h
  · simp (disch := omega) only [fa_lit0, xI_le_T, xI_le_F, xI_lt_T, xI_lt_F, xI_eq_T, xI_eq_F, xN_a, xN_b, xN_c, xN_d, xN_e, xN_f, xN_g, xN_h, xI_add, xI_mul, xI_sub, xI_tn, xI_in, xI_ofNat, gi_si_eq, gi_n1, gi_n2, gl_sl_eq, gl_n1, gl_n2, gi_sl, gl_si, forall_eq, true_implies, false_implies, not_true_eq_false, not_false_eq_true, and_true, true_and, implies_true, and_self, wp_B_fault, wp_B_shelfRefusal, wp_Sh_knows, wp_M_fault, wp_M_isText, wp_M_in, bg_a g, bg_b g, bg_c g, zb_0, shN_13]; exact h
  · obtain ⟨g1, g2, g3⟩ := h.2.1 T hT
    rcases g2 with e | ⟨m, hm, e⟩
    · rw [e] at g1
      simp (disch := omega) only [fa_lit0, xI_le_T, xI_le_F, xI_lt_T, xI_lt_F, xI_eq_T, xI_eq_F, xN_a, xN_b, xN_c, xN_d, xN_e, xN_f, xN_g, xN_h, xI_add, xI_mul, xI_sub, xI_tn, xI_in, xI_ofNat, gi_si_eq, gi_n1, gi_n2, gl_sl_eq, gl_n1, gl_n2, gi_sl, gl_si, forall_eq, true_implies, false_implies, not_true_eq_false, not_false_eq_true, and_true, true_and, implies_true, and_self, wp_B_fault, wp_B_shelfRefusal, wp_Sh_knows, wp_Sh_isThere, wp_M_fault, wp_M_isText, wp_M_in, zb_1, shN_13, g1, e, wp_B_answerFinding, wp_M_meets]
      exact find_pair RDel_mono h (by omega)
    · rw [e] at g1
      simp (disch := omega) only [fa_lit0, xI_le_T, xI_le_F, xI_lt_T, xI_lt_F, xI_eq_T, xI_eq_F, xN_a, xN_b, xN_c, xN_d, xN_e, xN_f, xN_g, xN_h, xI_add, xI_mul, xI_sub, xI_tn, xI_in, xI_ofNat, gi_si_eq, gi_n1, gi_n2, gl_sl_eq, gl_n1, gl_n2, gi_sl, gl_si, forall_eq, true_implies, false_implies, not_true_eq_false, not_false_eq_true, and_true, true_and, implies_true, and_self, wp_B_fault, wp_B_shelfRefusal, wp_Sh_knows, wp_Sh_isThere, shN_13, g1]
      refine B_read (j := 1) (t := fun i => gi M 318 (60 * T + i)) (by omega) hm hT g1 (fun i hi => g3 i m e hm hi) (fun M1 s1 _ => ?_)
      have e1 := (s1.g (a := 317) (b := T) (by unfold SPS; omega)).trans e
      simp (disch := omega) only [fa_lit0, xI_le_T, xI_le_F, xI_lt_T, xI_lt_F, xI_eq_T, xI_eq_F, xN_a, xN_b, xN_c, xN_d, xN_e, xN_f, xN_g, xN_h, xI_add, xI_mul, xI_sub, xI_tn, xI_in, xI_ofNat, gi_si_eq, gi_n1, gi_n2, gl_sl_eq, gl_n1, gl_n2, gi_sl, gl_si, forall_eq, true_implies, false_implies, not_true_eq_false, not_false_eq_true, and_true, true_and, implies_true, and_self, wp_M_fault, wp_M_isText, wp_M_in, zb_1, e1]
      refine M_faultOf (t := fun i => gi M 318 (60 * T + i)) hT hm e1 (fun i hi => s1.g (by unfold SPS; omega)) (fun M2 s2 _ => ?_)
      refine ⟨rfl, ?_⟩
      have s : Sm Asw M M2 := (s1.mono (fun a b q => by unfold SPS at q; unfold Asw; omega)).trans (s2.mono (fun a b q => by unfold SQ at q; unfold Asw; omega))
      have s3 : Sm (fun a b => (28 ≤ a ∧ a ≤ 39) ∨ SQ a b) M M2 := (s1.mono (fun a b q => by unfold SPS at q; omega)).trans (s2.mono (fun a b q => Or.inr q))
      refine h.fin hd s (fun hn => ?_) (h.1.sm s3 (fun a b q => by unfold SQ; omega)) (h.2.2.2.2.1.sm s3 (by unfold SQ; omega) (by unfold SQ; omega)) (h.2.2.2.2.2.1.sm s3 (fun a b q => by unfold SQ; omega))
      exact (hd.parts.2.2.2.2.2.2 hn).2.2.sm s3 (fun b => by unfold SQ; omega)
