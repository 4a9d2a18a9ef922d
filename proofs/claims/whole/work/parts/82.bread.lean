/-! the class reads a text: reader 36 + 2 j onto chart 20 + 8 j -/
theorem itm_b (t : Nat → Int32) (m p w : Nat) (A : Nat → Nat → Nat) : (itm t m p w A).1 ≤ p + 5 ∧ (itm t m p w A).2.1 ≤ p + 5 := by
  unfold itm
  repeat' split
  all_goals (dsimp only; omega)
theorem pr_b {t : Nat → Int32} {m : Nat} : ∀ f p w A, m ≤ p + f → (pr t m p w A).1 ≤ m + 5 := by
  intro f
  induction f with
  | zero => intro p w A h1; rw [pr_end (by omega)]; show 0 ≤ m + 5; omega
  | succ f ih =>
    intro p w A h1
    by_cases c : m ≤ p
    · rw [pr_end c]; show 0 ≤ m + 5; omega
    · by_cases c2 : t p = nI 32
      · rw [pr_bl (by omega) c2]; exact ih (p + 1) w A (by omega)
      · rw [pr_it (by omega) c2]
        by_cases c3 : (itm t m p w A).1 = 0
        · rw [if_pos c3]
          have := itm_p c3
          exact ih _ _ _ (by omega)
        · rw [if_neg c3]
          have := itm_b t m p w A
          omega
def SP (j a b : Nat) : Prop := a = 36 + 2 * j ∨ a = 36 + 2 * j + 1 ∨ (20 + 8 * j ≤ a ∧ a ≤ 26 + 8 * j)
def PB (j : Nat) (t : Nat → Int32) (m p w : Nat) (A : Nat → Nat → Nat) (M : Mm) : Prop := gi M (36 + 2 * j) 2 = nI m ∧ gi M (36 + 2 * j) 3 = nI p ∧ gi M (36 + 2 * j) 4 = nI w ∧ gi M (36 + 2 * j) 5 = -nI 9 ∧ (∀ i, i < m → gi M (36 + 2 * j + 1) i = t i) ∧ gi M (20 + 8 * j) 7 = nI (A 0 0) ∧ gi M (20 + 8 * j) 8 = nI (A 0 1) ∧ (∀ i, i < A 0 0 → gi M (20 + 8 * j + 1) i = nI (A 1 i) ∧ gi M (20 + 8 * j + 2) i = nI (A 2 i) ∧ gi M (20 + 8 * j + 3) i = nI (A 3 i) ∧ gi M (20 + 8 * j + 4) i = nI (A 4 i) ∧ gi M (20 + 8 * j + 5) i = nI (A 5 i)) ∧ ∀ i, i < 5 → gi M (20 + 8 * j + 6) i = nI (A 6 i)
theorem chO {j : Nat} (h : j ≤ 1) : chOf (36 + 2 * j) = 20 + 8 * j := by
  rcases (show j = 0 ∨ j = 1 by omega) with e | e <;> subst e <;> rfl
theorem B_sign {j m p : Nat} {t : Nat → Int32} {M : Mm} (hm : m ≤ 60) (hp : p < 100) (e2 : gi M (36 + 2 * j) 2 = nI m) (e3 : gi M (36 + 2 * j) 3 = nI p) (es : ∀ i, i < m → gi M (36 + 2 * j + 1) i = t i) {Q : Int32 → Mm → Prop} (h : Q (if p < m then t p else nI 1000) M) : wp_Rd_nextSign (36 + 2 * j) M Q := by
  by_cases c : p < m
  · rw [if_pos c] at h
    simp (disch := omega) only [fa_lit0, xI_le_T, xI_le_F, xI_lt_T, xI_lt_F, xI_eq_T, xI_eq_F, xN_a, xN_b, xN_c, xN_d, xN_e, xN_f, xN_g, xN_h, xI_add, xI_mul, xI_sub, xI_tn, xI_in, xI_ofNat, gi_si_eq, gi_n1, gi_n2, gl_sl_eq, gl_n1, gl_n2, gi_sl, gl_si, forall_eq, true_implies, false_implies, not_true_eq_false, not_false_eq_true, and_true, true_and, implies_true, and_self, wp_Rd_nextSign, e2, e3, es p c]
    exact h
  · rw [if_neg c] at h
    simp (disch := omega) only [fa_lit0, xI_le_T, xI_le_F, xI_lt_T, xI_lt_F, xI_eq_T, xI_eq_F, xN_a, xN_b, xN_c, xN_d, xN_e, xN_f, xN_g, xN_h, xI_add, xI_mul, xI_sub, xI_tn, xI_in, xI_ofNat, gi_si_eq, gi_n1, gi_n2, gl_sl_eq, gl_n1, gl_n2, gi_sl, gl_si, forall_eq, true_implies, false_implies, not_true_eq_false, not_false_eq_true, and_true, true_and, implies_true, and_self, wp_Rd_nextSign, e2, e3]
    exact h
theorem B_figF {j q : Nat} {x y : Int32} {M : Mm} (e5 : gi M (36 + 2 * j) 5 = nI q) (hq : q < 100) {Q : Int32 → Mm → Prop} (h : Q (nI 0) M) : wp_Rd_readFigure (36 + 2 * j) x y M Q := by
  simp (disch := omega) only [fa_lit0, xI_le_T, xI_le_F, xI_lt_T, xI_lt_F, xI_eq_T, xI_eq_F, xN_a, xN_b, xN_c, xN_d, xN_e, xN_f, xN_g, xN_h, xI_add, xI_mul, xI_sub, xI_tn, xI_in, xI_ofNat, gi_si_eq, gi_n1, gi_n2, gl_sl_eq, gl_n1, gl_n2, gi_sl, gl_si, forall_eq, true_implies, false_implies, not_true_eq_false, not_false_eq_true, and_true, true_and, implies_true, and_self, wp_Rd_readFigure, e5]
  exact h
theorem B_fig {j m p lo hi : Nat} {t : Nat → Int32} {M : Mm} (hm : m ≤ 60) (hp : p < 100) (hl : lo < 100) (hh : hi < 100) (e5 : gi M (36 + 2 * j) 5 = -nI 9) (e2 : gi M (36 + 2 * j) 2 = nI m) (e3 : gi M (36 + 2 * j) 3 = nI p) (es : ∀ i, i < m → gi M (36 + 2 * j + 1) i = t i) {Q : Int32 → Mm → Prop} (h0 : fg t m lo hi p = 0 → Q (nI 0) (si M (36 + 2 * j) 5 (nI p))) (h1 : ∀ d, fg t m lo hi p = d + 1 → lo ≤ d → d ≤ hi → Q (nI d) (si M (36 + 2 * j) 3 (nI (p + 1)))) : wp_Rd_readFigure (36 + 2 * j) (nI lo) (nI hi) M Q := by
  unfold wp_Rd_readFigure
  refine ⟨fun _ => ?_, fun w => absurd e5 w⟩
  refine B_sign hm hp e2 e3 es ?_
  simp (disch := omega) only [fa_lit0, xI_le_T, xI_le_F, xI_lt_T, xI_lt_F, xI_eq_T, xI_eq_F, xN_a, xN_b, xN_c, xN_d, xN_e, xN_f, xN_g, xN_h, xI_add, xI_mul, xI_sub, xI_tn, xI_in, xI_ofNat, gi_si_eq, gi_n1, gi_n2, gl_sl_eq, gl_n1, gl_n2, gi_sl, gl_si, forall_eq, true_implies, false_implies, not_true_eq_false, not_false_eq_true, and_true, true_and, implies_true, and_self, e3]
  by_cases c : p < m
  · rw [if_pos c]
    rcases fg_c t m lo hi p hl hh with ⟨q, q2⟩ | ⟨d, q1, q2, q3, q4, q5⟩
    · refine ⟨fun _ => h0 q, fun w => ⟨fun w2 => ?_, fun _ => h0 q⟩⟩
      refine absurd ⟨c, ?_, w2⟩ q2
      rw [Int32.lt_iff_toInt_lt] at w
      rw [Int32.le_iff_toInt_le]
      omega
    · rw [q3]
      simp (disch := omega) only [fa_lit0, xI_le_T, xI_le_F, xI_lt_T, xI_lt_F, xI_eq_T, xI_eq_F, xN_a, xN_b, xN_c, xN_d, xN_e, xN_f, xN_g, xN_h, xI_add, xI_mul, xI_sub, xI_tn, xI_in, xI_ofNat, gi_si_eq, gi_n1, gi_n2, gl_sl_eq, gl_n1, gl_n2, gi_sl, gl_si, forall_eq, true_implies, false_implies, not_true_eq_false, not_false_eq_true, and_true, true_and, implies_true, and_self]
      exact h1 d q1 q4 q5
  · rw [if_neg c]
    rcases fg_c t m lo hi p hl hh with ⟨q, q2⟩ | ⟨d, q1, q2, q3, q4, q5⟩
    · simp (disch := omega) only [fa_lit0, xI_le_T, xI_le_F, xI_lt_T, xI_lt_F, xI_eq_T, xI_eq_F, xN_a, xN_b, xN_c, xN_d, xN_e, xN_f, xN_g, xN_h, xI_add, xI_mul, xI_sub, xI_tn, xI_in, xI_ofNat, gi_si_eq, gi_n1, gi_n2, gl_sl_eq, gl_n1, gl_n2, gi_sl, gl_si, forall_eq, true_implies, false_implies, not_true_eq_false, not_false_eq_true, and_true, true_and, implies_true, and_self]
      exact h0 q
    · exact absurd q2 c
theorem lT0 : letT.getD 0 0 = nI 97 := rfl
theorem lT1 : letT.getD 1 0 = nI 116 := rfl
theorem lT2 : letT.getD 2 0 = nI 115 := rfl
theorem lT3 : letT.getD 3 0 = nI 98 := rfl
theorem lT4 : letT.getD 4 0 = nI 108 := rfl
theorem lT5 : letT.getD 5 0 = nI 109 := rfl
theorem B_kind {x : Int32} {M : Mm} {Q : Int32 → Mm → Prop} (h : Q (if kdl x = 9 then -nI 9 else nI (kdl x)) M) : wp_Ch_kindOfLetter x M Q := by
  unfold wp_Ch_kindOfLetter
  refine ⟨7, ?_⟩
  unfold kdl at h
  show k_Ch_kindOfLetter_2 x Q _ (nI 0) M
  have st : ∀ (i : Nat) (KB : Int32 → Mm → Prop) (y : Int32), i < 6 → letT.getD i 0 = y → (x = y → Q (nI i) M) → (¬ x = y → KB (nI (i + 1)) M) → k_Ch_kindOfLetter_2 x Q KB (nI i) M := by
    intro i KB y hi hy h1 h2
    unfold k_Ch_kindOfLetter_2
    have hy : letT.getD i (nI 0) = y := hy
    simp (disch := omega) only [fa_lit0, xI_le_T, xI_le_F, xI_lt_T, xI_lt_F, xI_eq_T, xI_eq_F, xN_a, xN_b, xN_c, xN_d, xN_e, xN_f, xN_g, xN_h, xI_add, xI_mul, xI_sub, xI_tn, xI_in, xI_ofNat, gi_si_eq, gi_n1, gi_n2, gl_sl_eq, gl_n1, gl_n2, gi_sl, gl_si, forall_eq, true_implies, false_implies, not_true_eq_false, not_false_eq_true, and_true, true_and, implies_true, and_self, hy]
    exact ⟨fun w => h2 (fun v => w v.symm), fun w => h1 w.symm⟩
  have en : ∀ (KB : Int32 → Mm → Prop), Q (-nI 9) M → k_Ch_kindOfLetter_2 x Q KB (nI 6) M := by
    intro KB h1
    unfold k_Ch_kindOfLetter_2
    simp (disch := omega) only [fa_lit0, xI_le_T, xI_le_F, xI_lt_T, xI_lt_F, xI_eq_T, xI_eq_F, xN_a, xN_b, xN_c, xN_d, xN_e, xN_f, xN_g, xN_h, xI_add, xI_mul, xI_sub, xI_tn, xI_in, xI_ofNat, gi_si_eq, gi_n1, gi_n2, gl_sl_eq, gl_n1, gl_n2, gi_sl, gl_si, forall_eq, true_implies, false_implies, not_true_eq_false, not_false_eq_true, and_true, true_and, implies_true, and_self]
    exact h1
  refine st 0 _ _ (by omega) lT0 (fun c => ?_) (fun c0 => ?_)
  · rw [if_pos c] at h; exact h
  rw [if_neg c0] at h
  refine st 1 _ _ (by omega) lT1 (fun c => ?_) (fun c1 => ?_)
  · rw [if_pos c] at h; exact h
  rw [if_neg c1] at h
  refine st 2 _ _ (by omega) lT2 (fun c => ?_) (fun c2 => ?_)
  · rw [if_pos c] at h; exact h
  rw [if_neg c2] at h
  refine st 3 _ _ (by omega) lT3 (fun c => ?_) (fun c3 => ?_)
  · rw [if_pos c] at h; exact h
  rw [if_neg c3] at h
  refine st 4 _ _ (by omega) lT4 (fun c => ?_) (fun c4 => ?_)
  · rw [if_pos c] at h; exact h
  rw [if_neg c4] at h
  refine st 5 _ _ (by omega) lT5 (fun c => ?_) (fun c5 => ?_)
  · rw [if_pos c] at h; exact h
  rw [if_neg c5] at h
  exact en _ h
/-- a river's number is read -/
theorem PB.riv {j m p w d : Nat} {t : Nat → Int32} {A : Nat → Nat → Nat} {M : Mm} (hj : j ≤ 1) (h : PB j t m p w A M) : PB j t m (p + 1 + 1) w (upC A 0 1 (3 * d)) (si (si (si M (36 + 2 * j) 3 (nI (p + 1))) (36 + 2 * j) 3 (nI (p + 1 + 1))) (20 + 8 * j) 8 (nI (3 * d))) := by
  obtain ⟨h1, h2, h3, h4, h5, h6, h7, h8, h9⟩ := h
  have e : ∀ a b, a ≠ 0 → upC A 0 1 (3 * d) a b = A a b := fun a b q => upC_ne (by omega)
  refine ⟨?_, ?_, ?_, ?_, fun i hi => ?_, ?_, ?_, fun i hi => ?_, fun i hi => ?_⟩
  · simp (disch := omega) only [fa_lit0, xI_le_T, xI_le_F, xI_lt_T, xI_lt_F, xI_eq_T, xI_eq_F, xN_a, xN_b, xN_c, xN_d, xN_e, xN_f, xN_g, xN_h, xI_add, xI_mul, xI_sub, xI_tn, xI_in, xI_ofNat, gi_si_eq, gi_n1, gi_n2, gl_sl_eq, gl_n1, gl_n2, gi_sl, gl_si, forall_eq, true_implies, false_implies, not_true_eq_false, not_false_eq_true, and_true, true_and, implies_true, and_self, h1]
  · simp (disch := omega) only [fa_lit0, xI_le_T, xI_le_F, xI_lt_T, xI_lt_F, xI_eq_T, xI_eq_F, xN_a, xN_b, xN_c, xN_d, xN_e, xN_f, xN_g, xN_h, xI_add, xI_mul, xI_sub, xI_tn, xI_in, xI_ofNat, gi_si_eq, gi_n1, gi_n2, gl_sl_eq, gl_n1, gl_n2, gi_sl, gl_si, forall_eq, true_implies, false_implies, not_true_eq_false, not_false_eq_true, and_true, true_and, implies_true, and_self]
  · simp (disch := omega) only [fa_lit0, xI_le_T, xI_le_F, xI_lt_T, xI_lt_F, xI_eq_T, xI_eq_F, xN_a, xN_b, xN_c, xN_d, xN_e, xN_f, xN_g, xN_h, xI_add, xI_mul, xI_sub, xI_tn, xI_in, xI_ofNat, gi_si_eq, gi_n1, gi_n2, gl_sl_eq, gl_n1, gl_n2, gi_sl, gl_si, forall_eq, true_implies, false_implies, not_true_eq_false, not_false_eq_true, and_true, true_and, implies_true, and_self, h3]
  · simp (disch := omega) only [fa_lit0, xI_le_T, xI_le_F, xI_lt_T, xI_lt_F, xI_eq_T, xI_eq_F, xN_a, xN_b, xN_c, xN_d, xN_e, xN_f, xN_g, xN_h, xI_add, xI_mul, xI_sub, xI_tn, xI_in, xI_ofNat, gi_si_eq, gi_n1, gi_n2, gl_sl_eq, gl_n1, gl_n2, gi_sl, gl_si, forall_eq, true_implies, false_implies, not_true_eq_false, not_false_eq_true, and_true, true_and, implies_true, and_self, h4]
  · simp (disch := omega) only [fa_lit0, xI_le_T, xI_le_F, xI_lt_T, xI_lt_F, xI_eq_T, xI_eq_F, xN_a, xN_b, xN_c, xN_d, xN_e, xN_f, xN_g, xN_h, xI_add, xI_mul, xI_sub, xI_tn, xI_in, xI_ofNat, gi_si_eq, gi_n1, gi_n2, gl_sl_eq, gl_n1, gl_n2, gi_sl, gl_si, forall_eq, true_implies, false_implies, not_true_eq_false, not_false_eq_true, and_true, true_and, implies_true, and_self, h5 i hi]
  · rw [upC_ne (by omega)]; simp (disch := omega) only [fa_lit0, xI_le_T, xI_le_F, xI_lt_T, xI_lt_F, xI_eq_T, xI_eq_F, xN_a, xN_b, xN_c, xN_d, xN_e, xN_f, xN_g, xN_h, xI_add, xI_mul, xI_sub, xI_tn, xI_in, xI_ofNat, gi_si_eq, gi_n1, gi_n2, gl_sl_eq, gl_n1, gl_n2, gi_sl, gl_si, forall_eq, true_implies, false_implies, not_true_eq_false, not_false_eq_true, and_true, true_and, implies_true, and_self, h6]
  · rw [upC_eq]; simp (disch := omega) only [fa_lit0, xI_le_T, xI_le_F, xI_lt_T, xI_lt_F, xI_eq_T, xI_eq_F, xN_a, xN_b, xN_c, xN_d, xN_e, xN_f, xN_g, xN_h, xI_add, xI_mul, xI_sub, xI_tn, xI_in, xI_ofNat, gi_si_eq, gi_n1, gi_n2, gl_sl_eq, gl_n1, gl_n2, gi_sl, gl_si, forall_eq, true_implies, false_implies, not_true_eq_false, not_false_eq_true, and_true, true_and, implies_true, and_self]
  · rw [upC_ne (by omega)] at hi
    rw [e 1 i (by omega), e 2 i (by omega), e 3 i (by omega), e 4 i (by omega), e 5 i (by omega)]
    simp (disch := omega) only [fa_lit0, xI_le_T, xI_le_F, xI_lt_T, xI_lt_F, xI_eq_T, xI_eq_F, xN_a, xN_b, xN_c, xN_d, xN_e, xN_f, xN_g, xN_h, xI_add, xI_mul, xI_sub, xI_tn, xI_in, xI_ofNat, gi_si_eq, gi_n1, gi_n2, gl_sl_eq, gl_n1, gl_n2, gi_sl, gl_si, forall_eq, true_implies, false_implies, not_true_eq_false, not_false_eq_true, and_true, true_and, implies_true, and_self, h8 i hi]
  · rw [e 6 i (by omega)]; simp (disch := omega) only [fa_lit0, xI_le_T, xI_le_F, xI_lt_T, xI_lt_F, xI_eq_T, xI_eq_F, xN_a, xN_b, xN_c, xN_d, xN_e, xN_f, xN_g, xN_h, xI_add, xI_mul, xI_sub, xI_tn, xI_in, xI_ofNat, gi_si_eq, gi_n1, gi_n2, gl_sl_eq, gl_n1, gl_n2, gi_sl, gl_si, forall_eq, true_implies, false_implies, not_true_eq_false, not_false_eq_true, and_true, true_and, implies_true, and_self, h9 i hi]
theorem B_wait {j m p w : Nat} {t : Nat → Int32} {A : Nat → Nat → Nat} {M : Mm} (hj : j ≤ 1) (hm : m ≤ 60) (h : PB j t m p w A M) (hO : OkP w A) (hA : ¬ A 0 1 = 0) (hp : p < m) (ht : t p = nI 119) {Q : Mm → Prop} (hQ : ∀ M', Sm (SP j) M M' → ((itm t m p w A).1 = 0 → PB j t m (itm t m p w A).2.1 (itm t m p w A).2.2.1 (itm t m p w A).2.2.2 M') → (¬ (itm t m p w A).1 = 0 → gi M' (36 + 2 * j) 5 = nI ((itm t m p w A).1 - 1)) → Q M') : wp_Rd_readWait (36 + 2 * j) M Q := by
  obtain ⟨h1, h2, h3, h4, h5, h6, h7, h8, h9⟩ := h
  have hn := hO.1
  have hw := hO.2.1
  unfold itm at hQ
  rw [if_neg hA, if_pos ht] at hQ
  unfold wp_Rd_readWait
  rw [chO hj]
  have s0 := Sm.refl (SP j) M
  by_cases c : A 0 0 = 0 ∨ w = 8
  · rw [if_pos c] at hQ
    have fin := hQ (si M (36 + 2 * j) 5 (nI p)) (s0.wi (Or.inl rfl)) (fun w => absurd w (by dsimp only; omega)) (fun _ => by rw [gi_si_eq]; rfl)
    by_cases c1 : A 0 0 = 0
    · simp (disch := omega) only [fa_lit0, xI_le_T, xI_le_F, xI_lt_T, xI_lt_F, xI_eq_T, xI_eq_F, xN_a, xN_b, xN_c, xN_d, xN_e, xN_f, xN_g, xN_h, xI_add, xI_mul, xI_sub, xI_tn, xI_in, xI_ofNat, gi_si_eq, gi_n1, gi_n2, gl_sl_eq, gl_n1, gl_n2, gi_sl, gl_si, forall_eq, true_implies, false_implies, not_true_eq_false, not_false_eq_true, and_true, true_and, implies_true, and_self, h6, h2, c1]; exact fin
    · simp (disch := omega) only [fa_lit0, xI_le_T, xI_le_F, xI_lt_T, xI_lt_F, xI_eq_T, xI_eq_F, xN_a, xN_b, xN_c, xN_d, xN_e, xN_f, xN_g, xN_h, xI_add, xI_mul, xI_sub, xI_tn, xI_in, xI_ofNat, gi_si_eq, gi_n1, gi_n2, gl_sl_eq, gl_n1, gl_n2, gi_sl, gl_si, forall_eq, true_implies, false_implies, not_true_eq_false, not_false_eq_true, and_true, true_and, implies_true, and_self, h6, h2, h3]; exact fin
  · rw [if_neg c] at hQ
    simp (disch := omega) only [fa_lit0, xI_le_T, xI_le_F, xI_lt_T, xI_lt_F, xI_eq_T, xI_eq_F, xN_a, xN_b, xN_c, xN_d, xN_e, xN_f, xN_g, xN_h, xI_add, xI_mul, xI_sub, xI_tn, xI_in, xI_ofNat, gi_si_eq, gi_n1, gi_n2, gl_sl_eq, gl_n1, gl_n2, gi_sl, gl_si, forall_eq, true_implies, false_implies, not_true_eq_false, not_false_eq_true, and_true, true_and, implies_true, and_self, h6, h2, h3]
    have s1 := s0.wi (x := nI (p + 1)) (show SP j (36 + 2 * j) 3 from Or.inl rfl)
    refine B_fig (m := m) (p := p + 1) (t := t) hm (by omega) (by omega) (by omega) (by simp (disch := omega) only [fa_lit0, xI_le_T, xI_le_F, xI_lt_T, xI_lt_F, xI_eq_T, xI_eq_F, xN_a, xN_b, xN_c, xN_d, xN_e, xN_f, xN_g, xN_h, xI_add, xI_mul, xI_sub, xI_tn, xI_in, xI_ofNat, gi_si_eq, gi_n1, gi_n2, gl_sl_eq, gl_n1, gl_n2, gi_sl, gl_si, forall_eq, true_implies, false_implies, not_true_eq_false, not_false_eq_true, and_true, true_and, implies_true, and_self, h4]) (by simp (disch := omega) only [fa_lit0, xI_le_T, xI_le_F, xI_lt_T, xI_lt_F, xI_eq_T, xI_eq_F, xN_a, xN_b, xN_c, xN_d, xN_e, xN_f, xN_g, xN_h, xI_add, xI_mul, xI_sub, xI_tn, xI_in, xI_ofNat, gi_si_eq, gi_n1, gi_n2, gl_sl_eq, gl_n1, gl_n2, gi_sl, gl_si, forall_eq, true_implies, false_implies, not_true_eq_false, not_false_eq_true, and_true, true_and, implies_true, and_self, h1]) (by simp (disch := omega) only [fa_lit0, xI_le_T, xI_le_F, xI_lt_T, xI_lt_F, xI_eq_T, xI_eq_F, xN_a, xN_b, xN_c, xN_d, xN_e, xN_f, xN_g, xN_h, xI_add, xI_mul, xI_sub, xI_tn, xI_in, xI_ofNat, gi_si_eq, gi_n1, gi_n2, gl_sl_eq, gl_n1, gl_n2, gi_sl, gl_si, forall_eq, true_implies, false_implies, not_true_eq_false, not_false_eq_true, and_true, true_and, implies_true, and_self]) (fun i hi => by simp (disch := omega) only [fa_lit0, xI_le_T, xI_le_F, xI_lt_T, xI_lt_F, xI_eq_T, xI_eq_F, xN_a, xN_b, xN_c, xN_d, xN_e, xN_f, xN_g, xN_h, xI_add, xI_mul, xI_sub, xI_tn, xI_in, xI_ofNat, gi_si_eq, gi_n1, gi_n2, gl_sl_eq, gl_n1, gl_n2, gi_sl, gl_si, forall_eq, true_implies, false_implies, not_true_eq_false, not_false_eq_true, and_true, true_and, implies_true, and_self, h5 i hi]) (fun f0 => ?_) (fun a fa la ha => ?_)
    · rw [if_pos f0] at hQ
      simp (disch := omega) only [fa_lit0, xI_le_T, xI_le_F, xI_lt_T, xI_lt_F, xI_eq_T, xI_eq_F, xN_a, xN_b, xN_c, xN_d, xN_e, xN_f, xN_g, xN_h, xI_add, xI_mul, xI_sub, xI_tn, xI_in, xI_ofNat, gi_si_eq, gi_n1, gi_n2, gl_sl_eq, gl_n1, gl_n2, gi_sl, gl_si, forall_eq, true_implies, false_implies, not_true_eq_false, not_false_eq_true, and_true, true_and, implies_true, and_self, h6]
      refine B_figF (q := p + 1) (by simp (disch := omega) only [fa_lit0, xI_le_T, xI_le_F, xI_lt_T, xI_lt_F, xI_eq_T, xI_eq_F, xN_a, xN_b, xN_c, xN_d, xN_e, xN_f, xN_g, xN_h, xI_add, xI_mul, xI_sub, xI_tn, xI_in, xI_ofNat, gi_si_eq, gi_n1, gi_n2, gl_sl_eq, gl_n1, gl_n2, gi_sl, gl_si, forall_eq, true_implies, false_implies, not_true_eq_false, not_false_eq_true, and_true, true_and, implies_true, and_self]) (by omega) ?_
      simp (disch := omega) only [fa_lit0, xI_le_T, xI_le_F, xI_lt_T, xI_lt_F, xI_eq_T, xI_eq_F, xN_a, xN_b, xN_c, xN_d, xN_e, xN_f, xN_g, xN_h, xI_add, xI_mul, xI_sub, xI_tn, xI_in, xI_ofNat, gi_si_eq, gi_n1, gi_n2, gl_sl_eq, gl_n1, gl_n2, gi_sl, gl_si, forall_eq, true_implies, false_implies, not_true_eq_false, not_false_eq_true, and_true, true_and, implies_true, and_self]
      refine hQ _ (s1.wi (Or.inl rfl)) (fun w => absurd w (by dsimp only; omega)) (fun _ => ?_)
      simp (disch := omega) only [fa_lit0, xI_le_T, xI_le_F, xI_lt_T, xI_lt_F, xI_eq_T, xI_eq_F, xN_a, xN_b, xN_c, xN_d, xN_e, xN_f, xN_g, xN_h, xI_add, xI_mul, xI_sub, xI_tn, xI_in, xI_ofNat, gi_si_eq, gi_n1, gi_n2, gl_sl_eq, gl_n1, gl_n2, gi_sl, gl_si, forall_eq, true_implies, false_implies, not_true_eq_false, not_false_eq_true, and_true, true_and, implies_true, and_self]
    · rw [if_neg (by omega), fa, Nat.add_sub_cancel] at hQ
      have s2 := s1.wi (x := nI (p + 1 + 1)) (show SP j (36 + 2 * j) 3 from Or.inl rfl)
      simp (disch := omega) only [fa_lit0, xI_le_T, xI_le_F, xI_lt_T, xI_lt_F, xI_eq_T, xI_eq_F, xN_a, xN_b, xN_c, xN_d, xN_e, xN_f, xN_g, xN_h, xI_add, xI_mul, xI_sub, xI_tn, xI_in, xI_ofNat, gi_si_eq, gi_n1, gi_n2, gl_sl_eq, gl_n1, gl_n2, gi_sl, gl_si, forall_eq, true_implies, false_implies, not_true_eq_false, not_false_eq_true, and_true, true_and, implies_true, and_self, h6]
      refine B_fig (m := m) (p := p + 2) (t := t) hm (by omega) (by omega) (by omega) (by simp (disch := omega) only [fa_lit0, xI_le_T, xI_le_F, xI_lt_T, xI_lt_F, xI_eq_T, xI_eq_F, xN_a, xN_b, xN_c, xN_d, xN_e, xN_f, xN_g, xN_h, xI_add, xI_mul, xI_sub, xI_tn, xI_in, xI_ofNat, gi_si_eq, gi_n1, gi_n2, gl_sl_eq, gl_n1, gl_n2, gi_sl, gl_si, forall_eq, true_implies, false_implies, not_true_eq_false, not_false_eq_true, and_true, true_and, implies_true, and_self, h4]) (by simp (disch := omega) only [fa_lit0, xI_le_T, xI_le_F, xI_lt_T, xI_lt_F, xI_eq_T, xI_eq_F, xN_a, xN_b, xN_c, xN_d, xN_e, xN_f, xN_g, xN_h, xI_add, xI_mul, xI_sub, xI_tn, xI_in, xI_ofNat, gi_si_eq, gi_n1, gi_n2, gl_sl_eq, gl_n1, gl_n2, gi_sl, gl_si, forall_eq, true_implies, false_implies, not_true_eq_false, not_false_eq_true, and_true, true_and, implies_true, and_self, h1]) (by simp (disch := omega) only [fa_lit0, xI_le_T, xI_le_F, xI_lt_T, xI_lt_F, xI_eq_T, xI_eq_F, xN_a, xN_b, xN_c, xN_d, xN_e, xN_f, xN_g, xN_h, xI_add, xI_mul, xI_sub, xI_tn, xI_in, xI_ofNat, gi_si_eq, gi_n1, gi_n2, gl_sl_eq, gl_n1, gl_n2, gi_sl, gl_si, forall_eq, true_implies, false_implies, not_true_eq_false, not_false_eq_true, and_true, true_and, implies_true, and_self]) (fun i hi => by simp (disch := omega) only [fa_lit0, xI_le_T, xI_le_F, xI_lt_T, xI_lt_F, xI_eq_T, xI_eq_F, xN_a, xN_b, xN_c, xN_d, xN_e, xN_f, xN_g, xN_h, xI_add, xI_mul, xI_sub, xI_tn, xI_in, xI_ofNat, gi_si_eq, gi_n1, gi_n2, gl_sl_eq, gl_n1, gl_n2, gi_sl, gl_si, forall_eq, true_implies, false_implies, not_true_eq_false, not_false_eq_true, and_true, true_and, implies_true, and_self, h5 i hi]) (fun f0 => ?_) (fun b fb lb hb => ?_)
      · rw [if_pos f0] at hQ
        simp (disch := omega) only [fa_lit0, xI_le_T, xI_le_F, xI_lt_T, xI_lt_F, xI_eq_T, xI_eq_F, xN_a, xN_b, xN_c, xN_d, xN_e, xN_f, xN_g, xN_h, xI_add, xI_mul, xI_sub, xI_tn, xI_in, xI_ofNat, gi_si_eq, gi_n1, gi_n2, gl_sl_eq, gl_n1, gl_n2, gi_sl, gl_si, forall_eq, true_implies, false_implies, not_true_eq_false, not_false_eq_true, and_true, true_and, implies_true, and_self]
        refine hQ _ (s2.wi (Or.inl rfl)) (fun w => absurd w (by dsimp only; omega)) (fun _ => ?_)
        simp (disch := omega) only [fa_lit0, xI_le_T, xI_le_F, xI_lt_T, xI_lt_F, xI_eq_T, xI_eq_F, xN_a, xN_b, xN_c, xN_d, xN_e, xN_f, xN_g, xN_h, xI_add, xI_mul, xI_sub, xI_tn, xI_in, xI_ofNat, gi_si_eq, gi_n1, gi_n2, gl_sl_eq, gl_n1, gl_n2, gi_sl, gl_si, forall_eq, true_implies, false_implies, not_true_eq_false, not_false_eq_true, and_true, true_and, implies_true, and_self]
      · rw [if_neg (by omega), fb, Nat.add_sub_cancel] at hQ
        have s3 := s2.wi (x := nI (p + 2 + 1)) (show SP j (36 + 2 * j) 3 from Or.inl rfl)
        simp (disch := omega) only [fa_lit0, xI_le_T, xI_le_F, xI_lt_T, xI_lt_F, xI_eq_T, xI_eq_F, xN_a, xN_b, xN_c, xN_d, xN_e, xN_f, xN_g, xN_h, xI_add, xI_mul, xI_sub, xI_tn, xI_in, xI_ofNat, gi_si_eq, gi_n1, gi_n2, gl_sl_eq, gl_n1, gl_n2, gi_sl, gl_si, forall_eq, true_implies, false_implies, not_true_eq_false, not_false_eq_true, and_true, true_and, implies_true, and_self, h4]
        have l6 := lt_32 (hO.2.2.2.2.1 a (by omega)).1 hn
        by_cases cab : a = b
        · rw [if_pos (Or.inl (by omega))] at hQ
          simp (disch := omega) only [fa_lit0, xI_le_T, xI_le_F, xI_lt_T, xI_lt_F, xI_eq_T, xI_eq_F, xN_a, xN_b, xN_c, xN_d, xN_e, xN_f, xN_g, xN_h, xI_add, xI_mul, xI_sub, xI_tn, xI_in, xI_ofNat, gi_si_eq, gi_n1, gi_n2, gl_sl_eq, gl_n1, gl_n2, gi_sl, gl_si, forall_eq, true_implies, false_implies, not_true_eq_false, not_false_eq_true, and_true, true_and, implies_true, and_self]
          refine hQ _ (s3.wi (Or.inl rfl)) (fun w => absurd w (by dsimp only; omega)) (fun _ => ?_)
          simp (disch := omega) only [fa_lit0, xI_le_T, xI_le_F, xI_lt_T, xI_lt_F, xI_eq_T, xI_eq_F, xN_a, xN_b, xN_c, xN_d, xN_e, xN_f, xN_g, xN_h, xI_add, xI_mul, xI_sub, xI_tn, xI_in, xI_ofNat, gi_si_eq, gi_n1, gi_n2, gl_sl_eq, gl_n1, gl_n2, gi_sl, gl_si, forall_eq, true_implies, false_implies, not_true_eq_false, not_false_eq_true, and_true, true_and, implies_true, and_self]
        · simp (disch := omega) only [fa_lit0, xI_le_T, xI_le_F, xI_lt_T, xI_lt_F, xI_eq_T, xI_eq_F, xN_a, xN_b, xN_c, xN_d, xN_e, xN_f, xN_g, xN_h, xI_add, xI_mul, xI_sub, xI_tn, xI_in, xI_ofNat, gi_si_eq, gi_n1, gi_n2, gl_sl_eq, gl_n1, gl_n2, gi_sl, gl_si, forall_eq, true_implies, false_implies, not_true_eq_false, not_false_eq_true, and_true, true_and, implies_true, and_self, h9 a (by omega)]
          refine B_has l6 (by omega) ?_
          by_cases cb : A 6 a / 2 ^ b % 2 = 1
          · rw [if_pos (Or.inr cb)] at hQ
            simp (disch := omega) only [fa_lit0, xI_le_T, xI_le_F, xI_lt_T, xI_lt_F, xI_eq_T, xI_eq_F, xN_a, xN_b, xN_c, xN_d, xN_e, xN_f, xN_g, xN_h, xI_add, xI_mul, xI_sub, xI_tn, xI_in, xI_ofNat, gi_si_eq, gi_n1, gi_n2, gl_sl_eq, gl_n1, gl_n2, gi_sl, gl_si, forall_eq, true_implies, false_implies, not_true_eq_false, not_false_eq_true, and_true, true_and, implies_true, and_self, cb]
            refine hQ _ (s3.wi (Or.inl rfl)) (fun w => absurd w (by dsimp only; omega)) (fun _ => ?_)
            simp (disch := omega) only [fa_lit0, xI_le_T, xI_le_F, xI_lt_T, xI_lt_F, xI_eq_T, xI_eq_F, xN_a, xN_b, xN_c, xN_d, xN_e, xN_f, xN_g, xN_h, xI_add, xI_mul, xI_sub, xI_tn, xI_in, xI_ofNat, gi_si_eq, gi_n1, gi_n2, gl_sl_eq, gl_n1, gl_n2, gi_sl, gl_si, forall_eq, true_implies, false_implies, not_true_eq_false, not_false_eq_true, and_true, true_and, implies_true, and_self]
          · have cb0 : A 6 a / 2 ^ b % 2 = 0 := by omega
            rw [if_neg (by omega)] at hQ
            simp (disch := omega) only [fa_lit0, xI_le_T, xI_le_F, xI_lt_T, xI_lt_F, xI_eq_T, xI_eq_F, xN_a, xN_b, xN_c, xN_d, xN_e, xN_f, xN_g, xN_h, xI_add, xI_mul, xI_sub, xI_tn, xI_in, xI_ofNat, gi_si_eq, gi_n1, gi_n2, gl_sl_eq, gl_n1, gl_n2, gi_sl, gl_si, forall_eq, true_implies, false_implies, not_true_eq_false, not_false_eq_true, and_true, true_and, implies_true, and_self, cb0, h9 a (by omega), bset_or _ l6 b (by omega), h3]
            refine hQ _ ((s3.wi (Or.inr (Or.inr (by omega)))).wi (Or.inl rfl)) (fun _ => ?_) (fun w => absurd rfl w)
            show PB j t m (p + 3) (w + 1) (upC A 6 a (bset (A 6 a) b 1)) _
            have e : ∀ q i, q ≠ 6 → upC A 6 a (bset (A 6 a) b 1) q i = A q i := fun q i v => upC_ne (by omega)
            refine ⟨?_, ?_, ?_, ?_, fun i hi => ?_, ?_, ?_, fun i hi => ?_, fun i hi => ?_⟩
            · simp (disch := omega) only [fa_lit0, xI_le_T, xI_le_F, xI_lt_T, xI_lt_F, xI_eq_T, xI_eq_F, xN_a, xN_b, xN_c, xN_d, xN_e, xN_f, xN_g, xN_h, xI_add, xI_mul, xI_sub, xI_tn, xI_in, xI_ofNat, gi_si_eq, gi_n1, gi_n2, gl_sl_eq, gl_n1, gl_n2, gi_sl, gl_si, forall_eq, true_implies, false_implies, not_true_eq_false, not_false_eq_true, and_true, true_and, implies_true, and_self, h1]
            · simp (disch := omega) only [fa_lit0, xI_le_T, xI_le_F, xI_lt_T, xI_lt_F, xI_eq_T, xI_eq_F, xN_a, xN_b, xN_c, xN_d, xN_e, xN_f, xN_g, xN_h, xI_add, xI_mul, xI_sub, xI_tn, xI_in, xI_ofNat, gi_si_eq, gi_n1, gi_n2, gl_sl_eq, gl_n1, gl_n2, gi_sl, gl_si, forall_eq, true_implies, false_implies, not_true_eq_false, not_false_eq_true, and_true, true_and, implies_true, and_self]
            · simp (disch := omega) only [fa_lit0, xI_le_T, xI_le_F, xI_lt_T, xI_lt_F, xI_eq_T, xI_eq_F, xN_a, xN_b, xN_c, xN_d, xN_e, xN_f, xN_g, xN_h, xI_add, xI_mul, xI_sub, xI_tn, xI_in, xI_ofNat, gi_si_eq, gi_n1, gi_n2, gl_sl_eq, gl_n1, gl_n2, gi_sl, gl_si, forall_eq, true_implies, false_implies, not_true_eq_false, not_false_eq_true, and_true, true_and, implies_true, and_self]
            · simp (disch := omega) only [fa_lit0, xI_le_T, xI_le_F, xI_lt_T, xI_lt_F, xI_eq_T, xI_eq_F, xN_a, xN_b, xN_c, xN_d, xN_e, xN_f, xN_g, xN_h, xI_add, xI_mul, xI_sub, xI_tn, xI_in, xI_ofNat, gi_si_eq, gi_n1, gi_n2, gl_sl_eq, gl_n1, gl_n2, gi_sl, gl_si, forall_eq, true_implies, false_implies, not_true_eq_false, not_false_eq_true, and_true, true_and, implies_true, and_self, h4]
            · simp (disch := omega) only [fa_lit0, xI_le_T, xI_le_F, xI_lt_T, xI_lt_F, xI_eq_T, xI_eq_F, xN_a, xN_b, xN_c, xN_d, xN_e, xN_f, xN_g, xN_h, xI_add, xI_mul, xI_sub, xI_tn, xI_in, xI_ofNat, gi_si_eq, gi_n1, gi_n2, gl_sl_eq, gl_n1, gl_n2, gi_sl, gl_si, forall_eq, true_implies, false_implies, not_true_eq_false, not_false_eq_true, and_true, true_and, implies_true, and_self, h5 i hi]
            · rw [e 0 0 (by omega)]; simp (disch := omega) only [fa_lit0, xI_le_T, xI_le_F, xI_lt_T, xI_lt_F, xI_eq_T, xI_eq_F, xN_a, xN_b, xN_c, xN_d, xN_e, xN_f, xN_g, xN_h, xI_add, xI_mul, xI_sub, xI_tn, xI_in, xI_ofNat, gi_si_eq, gi_n1, gi_n2, gl_sl_eq, gl_n1, gl_n2, gi_sl, gl_si, forall_eq, true_implies, false_implies, not_true_eq_false, not_false_eq_true, and_true, true_and, implies_true, and_self, h6]
            · rw [e 0 1 (by omega)]; simp (disch := omega) only [fa_lit0, xI_le_T, xI_le_F, xI_lt_T, xI_lt_F, xI_eq_T, xI_eq_F, xN_a, xN_b, xN_c, xN_d, xN_e, xN_f, xN_g, xN_h, xI_add, xI_mul, xI_sub, xI_tn, xI_in, xI_ofNat, gi_si_eq, gi_n1, gi_n2, gl_sl_eq, gl_n1, gl_n2, gi_sl, gl_si, forall_eq, true_implies, false_implies, not_true_eq_false, not_false_eq_true, and_true, true_and, implies_true, and_self, h7]
            · rw [e 0 0 (by omega)] at hi
              rw [e 1 i (by omega), e 2 i (by omega), e 3 i (by omega), e 4 i (by omega), e 5 i (by omega)]
              simp (disch := omega) only [fa_lit0, xI_le_T, xI_le_F, xI_lt_T, xI_lt_F, xI_eq_T, xI_eq_F, xN_a, xN_b, xN_c, xN_d, xN_e, xN_f, xN_g, xN_h, xI_add, xI_mul, xI_sub, xI_tn, xI_in, xI_ofNat, gi_si_eq, gi_n1, gi_n2, gl_sl_eq, gl_n1, gl_n2, gi_sl, gl_si, forall_eq, true_implies, false_implies, not_true_eq_false, not_false_eq_true, and_true, true_and, implies_true, and_self, h8 i hi]
            · by_cases ci : i = a
              · subst ci; rw [upC_eq]; simp (disch := omega) only [fa_lit0, xI_le_T, xI_le_F, xI_lt_T, xI_lt_F, xI_eq_T, xI_eq_F, xN_a, xN_b, xN_c, xN_d, xN_e, xN_f, xN_g, xN_h, xI_add, xI_mul, xI_sub, xI_tn, xI_in, xI_ofNat, gi_si_eq, gi_n1, gi_n2, gl_sl_eq, gl_n1, gl_n2, gi_sl, gl_si, forall_eq, true_implies, false_implies, not_true_eq_false, not_false_eq_true, and_true, true_and, implies_true, and_self]
              · rw [upC_ne (by omega)]; simp (disch := omega) only [fa_lit0, xI_le_T, xI_le_F, xI_lt_T, xI_lt_F, xI_eq_T, xI_eq_F, xN_a, xN_b, xN_c, xN_d, xN_e, xN_f, xN_g, xN_h, xI_add, xI_mul, xI_sub, xI_tn, xI_in, xI_ofNat, gi_si_eq, gi_n1, gi_n2, gl_sl_eq, gl_n1, gl_n2, gi_sl, gl_si, forall_eq, true_implies, false_implies, not_true_eq_false, not_false_eq_true, and_true, true_and, implies_true, and_self, h9 i hi]

theorem B_arm {j m p w : Nat} {t : Nat → Int32} {A : Nat → Nat → Nat} {M : Mm} (hj : j ≤ 1) (hm : m ≤ 60) (h : PB j t m p w A M) (hO : OkP w A) (hA : ¬ A 0 1 = 0) (hp : p < m) (ht : ¬ t p = nI 119) (hk : ¬ (kdl (t p) = 9 ∨ A 0 0 = 5 ∨ 0 < w)) {Q : Mm → Prop} (hQ : ∀ M', Sm (SP j) M M' → ((itm t m p w A).1 = 0 → PB j t m (itm t m p w A).2.1 (itm t m p w A).2.2.1 (itm t m p w A).2.2.2 M') → (¬ (itm t m p w A).1 = 0 → gi M' (36 + 2 * j) 5 = nI ((itm t m p w A).1 - 1)) → Q M') : wp_Rd_readArm (36 + 2 * j) (nI (kdl (t p))) M Q := by
  obtain ⟨h1, h2, h3, h4, h5, h6, h7, h8, h9⟩ := h
  have hn := hO.1
  unfold itm at hQ
  rw [if_neg hA, if_neg ht, if_neg hk] at hQ
  unfold wp_Rd_readArm
  rw [chO hj]
  have s0 := Sm.refl (SP j) M
  simp (disch := omega) only [fa_lit0, xI_le_T, xI_le_F, xI_lt_T, xI_lt_F, xI_eq_T, xI_eq_F, xN_a, xN_b, xN_c, xN_d, xN_e, xN_f, xN_g, xN_h, xI_add, xI_mul, xI_sub, xI_tn, xI_in, xI_ofNat, gi_si_eq, gi_n1, gi_n2, gl_sl_eq, gl_n1, gl_n2, gi_sl, gl_si, forall_eq, true_implies, false_implies, not_true_eq_false, not_false_eq_true, and_true, true_and, implies_true, and_self, h6, h2]
  have s1 := (s0.wi (x := nI (p + 1)) (show SP j (36 + 2 * j) 3 from Or.inl rfl)).wi (k := 20 + 8 * j + 1) (j := A 0 0) (x := nI (kdl (t p))) (Or.inr (Or.inr (by omega)))
  refine B_fig (m := m) (p := p + 1) (t := t) hm (by omega) (by omega) (by omega) (by simp (disch := omega) only [fa_lit0, xI_le_T, xI_le_F, xI_lt_T, xI_lt_F, xI_eq_T, xI_eq_F, xN_a, xN_b, xN_c, xN_d, xN_e, xN_f, xN_g, xN_h, xI_add, xI_mul, xI_sub, xI_tn, xI_in, xI_ofNat, gi_si_eq, gi_n1, gi_n2, gl_sl_eq, gl_n1, gl_n2, gi_sl, gl_si, forall_eq, true_implies, false_implies, not_true_eq_false, not_false_eq_true, and_true, true_and, implies_true, and_self, h4]) (by simp (disch := omega) only [fa_lit0, xI_le_T, xI_le_F, xI_lt_T, xI_lt_F, xI_eq_T, xI_eq_F, xN_a, xN_b, xN_c, xN_d, xN_e, xN_f, xN_g, xN_h, xI_add, xI_mul, xI_sub, xI_tn, xI_in, xI_ofNat, gi_si_eq, gi_n1, gi_n2, gl_sl_eq, gl_n1, gl_n2, gi_sl, gl_si, forall_eq, true_implies, false_implies, not_true_eq_false, not_false_eq_true, and_true, true_and, implies_true, and_self, h1]) (by simp (disch := omega) only [fa_lit0, xI_le_T, xI_le_F, xI_lt_T, xI_lt_F, xI_eq_T, xI_eq_F, xN_a, xN_b, xN_c, xN_d, xN_e, xN_f, xN_g, xN_h, xI_add, xI_mul, xI_sub, xI_tn, xI_in, xI_ofNat, gi_si_eq, gi_n1, gi_n2, gl_sl_eq, gl_n1, gl_n2, gi_sl, gl_si, forall_eq, true_implies, false_implies, not_true_eq_false, not_false_eq_true, and_true, true_and, implies_true, and_self]) (fun i hi => by simp (disch := omega) only [fa_lit0, xI_le_T, xI_le_F, xI_lt_T, xI_lt_F, xI_eq_T, xI_eq_F, xN_a, xN_b, xN_c, xN_d, xN_e, xN_f, xN_g, xN_h, xI_add, xI_mul, xI_sub, xI_tn, xI_in, xI_ofNat, gi_si_eq, gi_n1, gi_n2, gl_sl_eq, gl_n1, gl_n2, gi_sl, gl_si, forall_eq, true_implies, false_implies, not_true_eq_false, not_false_eq_true, and_true, true_and, implies_true, and_self, h5 i hi]) (fun f0 => ?_) (fun a fa la ha => ?_)
  · rw [if_pos f0] at hQ
    have s2 := s1.wi (x := nI (p + 1)) (show SP j (36 + 2 * j) 5 from Or.inl rfl)
    refine B_figF (q := p + 1) (by simp (disch := omega) only [fa_lit0, xI_le_T, xI_le_F, xI_lt_T, xI_lt_F, xI_eq_T, xI_eq_F, xN_a, xN_b, xN_c, xN_d, xN_e, xN_f, xN_g, xN_h, xI_add, xI_mul, xI_sub, xI_tn, xI_in, xI_ofNat, gi_si_eq, gi_n1, gi_n2, gl_sl_eq, gl_n1, gl_n2, gi_sl, gl_si, forall_eq, true_implies, false_implies, not_true_eq_false, not_false_eq_true, and_true, true_and, implies_true, and_self]) (by omega) ?_
    refine B_figF (q := p + 1) (by simp (disch := omega) only [fa_lit0, xI_le_T, xI_le_F, xI_lt_T, xI_lt_F, xI_eq_T, xI_eq_F, xN_a, xN_b, xN_c, xN_d, xN_e, xN_f, xN_g, xN_h, xI_add, xI_mul, xI_sub, xI_tn, xI_in, xI_ofNat, gi_si_eq, gi_n1, gi_n2, gl_sl_eq, gl_n1, gl_n2, gi_sl, gl_si, forall_eq, true_implies, false_implies, not_true_eq_false, not_false_eq_true, and_true, true_and, implies_true, and_self]) (by omega) ?_
    refine B_figF (q := p + 1) (by simp (disch := omega) only [fa_lit0, xI_le_T, xI_le_F, xI_lt_T, xI_lt_F, xI_eq_T, xI_eq_F, xN_a, xN_b, xN_c, xN_d, xN_e, xN_f, xN_g, xN_h, xI_add, xI_mul, xI_sub, xI_tn, xI_in, xI_ofNat, gi_si_eq, gi_n1, gi_n2, gl_sl_eq, gl_n1, gl_n2, gi_sl, gl_si, forall_eq, true_implies, false_implies, not_true_eq_false, not_false_eq_true, and_true, true_and, implies_true, and_self]) (by omega) ?_
    simp (disch := omega) only [fa_lit0, xI_le_T, xI_le_F, xI_lt_T, xI_lt_F, xI_eq_T, xI_eq_F, xN_a, xN_b, xN_c, xN_d, xN_e, xN_f, xN_g, xN_h, xI_add, xI_mul, xI_sub, xI_tn, xI_in, xI_ofNat, gi_si_eq, gi_n1, gi_n2, gl_sl_eq, gl_n1, gl_n2, gi_sl, gl_si, forall_eq, true_implies, false_implies, not_true_eq_false, not_false_eq_true, and_true, true_and, implies_true, and_self, h6]
    refine hQ _ ((((((s2.wi (Or.inr (Or.inr (by omega)))).wi (Or.inr (Or.inr (by omega)))).wi (Or.inr (Or.inr (by omega)))).wi (Or.inr (Or.inr (by omega)))).wi (Or.inr (Or.inr (by omega))))) (fun w => absurd w (by dsimp only; omega)) (fun _ => ?_)
    simp (disch := omega) only [fa_lit0, xI_le_T, xI_le_F, xI_lt_T, xI_lt_F, xI_eq_T, xI_eq_F, xN_a, xN_b, xN_c, xN_d, xN_e, xN_f, xN_g, xN_h, xI_add, xI_mul, xI_sub, xI_tn, xI_in, xI_ofNat, gi_si_eq, gi_n1, gi_n2, gl_sl_eq, gl_n1, gl_n2, gi_sl, gl_si, forall_eq, true_implies, false_implies, not_true_eq_false, not_false_eq_true, and_true, true_and, implies_true, and_self]
  · rw [if_neg (by omega)] at hQ
    have s2 := (s1.wi (x := nI (p + 1 + 1)) (show SP j (36 + 2 * j) 3 from Or.inl rfl)).wi (k := 20 + 8 * j + 2) (j := A 0 0) (x := nI a) (Or.inr (Or.inr (by omega)))
    refine B_fig (m := m) (p := p + 2) (t := t) hm (by omega) (by omega) (by omega) (by simp (disch := omega) only [fa_lit0, xI_le_T, xI_le_F, xI_lt_T, xI_lt_F, xI_eq_T, xI_eq_F, xN_a, xN_b, xN_c, xN_d, xN_e, xN_f, xN_g, xN_h, xI_add, xI_mul, xI_sub, xI_tn, xI_in, xI_ofNat, gi_si_eq, gi_n1, gi_n2, gl_sl_eq, gl_n1, gl_n2, gi_sl, gl_si, forall_eq, true_implies, false_implies, not_true_eq_false, not_false_eq_true, and_true, true_and, implies_true, and_self, h4]) (by simp (disch := omega) only [fa_lit0, xI_le_T, xI_le_F, xI_lt_T, xI_lt_F, xI_eq_T, xI_eq_F, xN_a, xN_b, xN_c, xN_d, xN_e, xN_f, xN_g, xN_h, xI_add, xI_mul, xI_sub, xI_tn, xI_in, xI_ofNat, gi_si_eq, gi_n1, gi_n2, gl_sl_eq, gl_n1, gl_n2, gi_sl, gl_si, forall_eq, true_implies, false_implies, not_true_eq_false, not_false_eq_true, and_true, true_and, implies_true, and_self, h1]) (by simp (disch := omega) only [fa_lit0, xI_le_T, xI_le_F, xI_lt_T, xI_lt_F, xI_eq_T, xI_eq_F, xN_a, xN_b, xN_c, xN_d, xN_e, xN_f, xN_g, xN_h, xI_add, xI_mul, xI_sub, xI_tn, xI_in, xI_ofNat, gi_si_eq, gi_n1, gi_n2, gl_sl_eq, gl_n1, gl_n2, gi_sl, gl_si, forall_eq, true_implies, false_implies, not_true_eq_false, not_false_eq_true, and_true, true_and, implies_true, and_self]) (fun i hi => by simp (disch := omega) only [fa_lit0, xI_le_T, xI_le_F, xI_lt_T, xI_lt_F, xI_eq_T, xI_eq_F, xN_a, xN_b, xN_c, xN_d, xN_e, xN_f, xN_g, xN_h, xI_add, xI_mul, xI_sub, xI_tn, xI_in, xI_ofNat, gi_si_eq, gi_n1, gi_n2, gl_sl_eq, gl_n1, gl_n2, gi_sl, gl_si, forall_eq, true_implies, false_implies, not_true_eq_false, not_false_eq_true, and_true, true_and, implies_true, and_self, h5 i hi]) (fun f0 => ?_) (fun b fb lb hb => ?_)
    · rw [if_pos f0] at hQ
      have s3 := s2.wi (x := nI (p + 2)) (show SP j (36 + 2 * j) 5 from Or.inl rfl)
      refine B_figF (q := p + 2) (by simp (disch := omega) only [fa_lit0, xI_le_T, xI_le_F, xI_lt_T, xI_lt_F, xI_eq_T, xI_eq_F, xN_a, xN_b, xN_c, xN_d, xN_e, xN_f, xN_g, xN_h, xI_add, xI_mul, xI_sub, xI_tn, xI_in, xI_ofNat, gi_si_eq, gi_n1, gi_n2, gl_sl_eq, gl_n1, gl_n2, gi_sl, gl_si, forall_eq, true_implies, false_implies, not_true_eq_false, not_false_eq_true, and_true, true_and, implies_true, and_self]) (by omega) ?_
      refine B_figF (q := p + 2) (by simp (disch := omega) only [fa_lit0, xI_le_T, xI_le_F, xI_lt_T, xI_lt_F, xI_eq_T, xI_eq_F, xN_a, xN_b, xN_c, xN_d, xN_e, xN_f, xN_g, xN_h, xI_add, xI_mul, xI_sub, xI_tn, xI_in, xI_ofNat, gi_si_eq, gi_n1, gi_n2, gl_sl_eq, gl_n1, gl_n2, gi_sl, gl_si, forall_eq, true_implies, false_implies, not_true_eq_false, not_false_eq_true, and_true, true_and, implies_true, and_self]) (by omega) ?_
      simp (disch := omega) only [fa_lit0, xI_le_T, xI_le_F, xI_lt_T, xI_lt_F, xI_eq_T, xI_eq_F, xN_a, xN_b, xN_c, xN_d, xN_e, xN_f, xN_g, xN_h, xI_add, xI_mul, xI_sub, xI_tn, xI_in, xI_ofNat, gi_si_eq, gi_n1, gi_n2, gl_sl_eq, gl_n1, gl_n2, gi_sl, gl_si, forall_eq, true_implies, false_implies, not_true_eq_false, not_false_eq_true, and_true, true_and, implies_true, and_self, h6]
      refine hQ _ ((((s3.wi (Or.inr (Or.inr (by omega)))).wi (Or.inr (Or.inr (by omega)))).wi (Or.inr (Or.inr (by omega)))).wi (Or.inr (Or.inr (by omega)))) (fun w => absurd w (by dsimp only; omega)) (fun _ => ?_)
      simp (disch := omega) only [fa_lit0, xI_le_T, xI_le_F, xI_lt_T, xI_lt_F, xI_eq_T, xI_eq_F, xN_a, xN_b, xN_c, xN_d, xN_e, xN_f, xN_g, xN_h, xI_add, xI_mul, xI_sub, xI_tn, xI_in, xI_ofNat, gi_si_eq, gi_n1, gi_n2, gl_sl_eq, gl_n1, gl_n2, gi_sl, gl_si, forall_eq, true_implies, false_implies, not_true_eq_false, not_false_eq_true, and_true, true_and, implies_true, and_self]
    · rw [if_neg (by omega)] at hQ
      have s3 := (s2.wi (x := nI (p + 2 + 1)) (show SP j (36 + 2 * j) 3 from Or.inl rfl)).wi (k := 20 + 8 * j + 3) (j := A 0 0) (x := nI b) (Or.inr (Or.inr (by omega)))
      refine B_fig (m := m) (p := p + 3) (t := t) hm (by omega) (by omega) (by omega) (by simp (disch := omega) only [fa_lit0, xI_le_T, xI_le_F, xI_lt_T, xI_lt_F, xI_eq_T, xI_eq_F, xN_a, xN_b, xN_c, xN_d, xN_e, xN_f, xN_g, xN_h, xI_add, xI_mul, xI_sub, xI_tn, xI_in, xI_ofNat, gi_si_eq, gi_n1, gi_n2, gl_sl_eq, gl_n1, gl_n2, gi_sl, gl_si, forall_eq, true_implies, false_implies, not_true_eq_false, not_false_eq_true, and_true, true_and, implies_true, and_self, h4]) (by simp (disch := omega) only [fa_lit0, xI_le_T, xI_le_F, xI_lt_T, xI_lt_F, xI_eq_T, xI_eq_F, xN_a, xN_b, xN_c, xN_d, xN_e, xN_f, xN_g, xN_h, xI_add, xI_mul, xI_sub, xI_tn, xI_in, xI_ofNat, gi_si_eq, gi_n1, gi_n2, gl_sl_eq, gl_n1, gl_n2, gi_sl, gl_si, forall_eq, true_implies, false_implies, not_true_eq_false, not_false_eq_true, and_true, true_and, implies_true, and_self, h1]) (by simp (disch := omega) only [fa_lit0, xI_le_T, xI_le_F, xI_lt_T, xI_lt_F, xI_eq_T, xI_eq_F, xN_a, xN_b, xN_c, xN_d, xN_e, xN_f, xN_g, xN_h, xI_add, xI_mul, xI_sub, xI_tn, xI_in, xI_ofNat, gi_si_eq, gi_n1, gi_n2, gl_sl_eq, gl_n1, gl_n2, gi_sl, gl_si, forall_eq, true_implies, false_implies, not_true_eq_false, not_false_eq_true, and_true, true_and, implies_true, and_self]) (fun i hi => by simp (disch := omega) only [fa_lit0, xI_le_T, xI_le_F, xI_lt_T, xI_lt_F, xI_eq_T, xI_eq_F, xN_a, xN_b, xN_c, xN_d, xN_e, xN_f, xN_g, xN_h, xI_add, xI_mul, xI_sub, xI_tn, xI_in, xI_ofNat, gi_si_eq, gi_n1, gi_n2, gl_sl_eq, gl_n1, gl_n2, gi_sl, gl_si, forall_eq, true_implies, false_implies, not_true_eq_false, not_false_eq_true, and_true, true_and, implies_true, and_self, h5 i hi]) (fun f0 => ?_) (fun c fc lc hc => ?_)
      · rw [if_pos f0] at hQ
        have s4 := s3.wi (x := nI (p + 3)) (show SP j (36 + 2 * j) 5 from Or.inl rfl)
        refine B_figF (q := p + 3) (by simp (disch := omega) only [fa_lit0, xI_le_T, xI_le_F, xI_lt_T, xI_lt_F, xI_eq_T, xI_eq_F, xN_a, xN_b, xN_c, xN_d, xN_e, xN_f, xN_g, xN_h, xI_add, xI_mul, xI_sub, xI_tn, xI_in, xI_ofNat, gi_si_eq, gi_n1, gi_n2, gl_sl_eq, gl_n1, gl_n2, gi_sl, gl_si, forall_eq, true_implies, false_implies, not_true_eq_false, not_false_eq_true, and_true, true_and, implies_true, and_self]) (by omega) ?_
        simp (disch := omega) only [fa_lit0, xI_le_T, xI_le_F, xI_lt_T, xI_lt_F, xI_eq_T, xI_eq_F, xN_a, xN_b, xN_c, xN_d, xN_e, xN_f, xN_g, xN_h, xI_add, xI_mul, xI_sub, xI_tn, xI_in, xI_ofNat, gi_si_eq, gi_n1, gi_n2, gl_sl_eq, gl_n1, gl_n2, gi_sl, gl_si, forall_eq, true_implies, false_implies, not_true_eq_false, not_false_eq_true, and_true, true_and, implies_true, and_self, h6]
        refine hQ _ (((s4.wi (Or.inr (Or.inr (by omega)))).wi (Or.inr (Or.inr (by omega)))).wi (Or.inr (Or.inr (by omega)))) (fun w => absurd w (by dsimp only; omega)) (fun _ => ?_)
        simp (disch := omega) only [fa_lit0, xI_le_T, xI_le_F, xI_lt_T, xI_lt_F, xI_eq_T, xI_eq_F, xN_a, xN_b, xN_c, xN_d, xN_e, xN_f, xN_g, xN_h, xI_add, xI_mul, xI_sub, xI_tn, xI_in, xI_ofNat, gi_si_eq, gi_n1, gi_n2, gl_sl_eq, gl_n1, gl_n2, gi_sl, gl_si, forall_eq, true_implies, false_implies, not_true_eq_false, not_false_eq_true, and_true, true_and, implies_true, and_self]
      · rw [if_neg (by omega)] at hQ
        have s4 := (s3.wi (x := nI (p + 3 + 1)) (show SP j (36 + 2 * j) 3 from Or.inl rfl)).wi (k := 20 + 8 * j + 4) (j := A 0 0) (x := nI c) (Or.inr (Or.inr (by omega)))
        simp (disch := omega) only [fa_lit0, xI_le_T, xI_le_F, xI_lt_T, xI_lt_F, xI_eq_T, xI_eq_F, xN_a, xN_b, xN_c, xN_d, xN_e, xN_f, xN_g, xN_h, xI_add, xI_mul, xI_sub, xI_tn, xI_in, xI_ofNat, gi_si_eq, gi_n1, gi_n2, gl_sl_eq, gl_n1, gl_n2, gi_sl, gl_si, forall_eq, true_implies, false_implies, not_true_eq_false, not_false_eq_true, and_true, true_and, implies_true, and_self]
        rw [fa, fb, fc, Nat.add_sub_cancel, Nat.add_sub_cancel, Nat.add_sub_cancel] at hQ
        refine B_fig (m := m) (p := p + 4) (t := t) hm (by omega) (by omega) (by omega) (by simp (disch := omega) only [fa_lit0, xI_le_T, xI_le_F, xI_lt_T, xI_lt_F, xI_eq_T, xI_eq_F, xN_a, xN_b, xN_c, xN_d, xN_e, xN_f, xN_g, xN_h, xI_add, xI_mul, xI_sub, xI_tn, xI_in, xI_ofNat, gi_si_eq, gi_n1, gi_n2, gl_sl_eq, gl_n1, gl_n2, gi_sl, gl_si, forall_eq, true_implies, false_implies, not_true_eq_false, not_false_eq_true, and_true, true_and, implies_true, and_self, h4]) (by simp (disch := omega) only [fa_lit0, xI_le_T, xI_le_F, xI_lt_T, xI_lt_F, xI_eq_T, xI_eq_F, xN_a, xN_b, xN_c, xN_d, xN_e, xN_f, xN_g, xN_h, xI_add, xI_mul, xI_sub, xI_tn, xI_in, xI_ofNat, gi_si_eq, gi_n1, gi_n2, gl_sl_eq, gl_n1, gl_n2, gi_sl, gl_si, forall_eq, true_implies, false_implies, not_true_eq_false, not_false_eq_true, and_true, true_and, implies_true, and_self, h1]) (by simp (disch := omega) only [fa_lit0, xI_le_T, xI_le_F, xI_lt_T, xI_lt_F, xI_eq_T, xI_eq_F, xN_a, xN_b, xN_c, xN_d, xN_e, xN_f, xN_g, xN_h, xI_add, xI_mul, xI_sub, xI_tn, xI_in, xI_ofNat, gi_si_eq, gi_n1, gi_n2, gl_sl_eq, gl_n1, gl_n2, gi_sl, gl_si, forall_eq, true_implies, false_implies, not_true_eq_false, not_false_eq_true, and_true, true_and, implies_true, and_self]) (fun i hi => by simp (disch := omega) only [fa_lit0, xI_le_T, xI_le_F, xI_lt_T, xI_lt_F, xI_eq_T, xI_eq_F, xN_a, xN_b, xN_c, xN_d, xN_e, xN_f, xN_g, xN_h, xI_add, xI_mul, xI_sub, xI_tn, xI_in, xI_ofNat, gi_si_eq, gi_n1, gi_n2, gl_sl_eq, gl_n1, gl_n2, gi_sl, gl_si, forall_eq, true_implies, false_implies, not_true_eq_false, not_false_eq_true, and_true, true_and, implies_true, and_self, h5 i hi]) (fun f0 => ?_) (fun d fd ld hd => ?_)
        · rw [if_pos f0] at hQ
          have s5 := s4.wi (x := nI (p + 4)) (show SP j (36 + 2 * j) 5 from Or.inl rfl)
          simp (disch := omega) only [fa_lit0, xI_le_T, xI_le_F, xI_lt_T, xI_lt_F, xI_eq_T, xI_eq_F, xN_a, xN_b, xN_c, xN_d, xN_e, xN_f, xN_g, xN_h, xI_add, xI_mul, xI_sub, xI_tn, xI_in, xI_ofNat, gi_si_eq, gi_n1, gi_n2, gl_sl_eq, gl_n1, gl_n2, gi_sl, gl_si, forall_eq, true_implies, false_implies, not_true_eq_false, not_false_eq_true, and_true, true_and, implies_true, and_self, h6]
          refine hQ _ ((s5.wi (Or.inr (Or.inr (by omega)))).wi (Or.inr (Or.inr (by omega)))) (fun w => absurd w (by dsimp only; omega)) (fun _ => ?_)
          simp (disch := omega) only [fa_lit0, xI_le_T, xI_le_F, xI_lt_T, xI_lt_F, xI_eq_T, xI_eq_F, xN_a, xN_b, xN_c, xN_d, xN_e, xN_f, xN_g, xN_h, xI_add, xI_mul, xI_sub, xI_tn, xI_in, xI_ofNat, gi_si_eq, gi_n1, gi_n2, gl_sl_eq, gl_n1, gl_n2, gi_sl, gl_si, forall_eq, true_implies, false_implies, not_true_eq_false, not_false_eq_true, and_true, true_and, implies_true, and_self]
        · rw [if_neg (by omega), fd, Nat.add_sub_cancel] at hQ
          have s5 := s4.wi (x := nI (p + 4 + 1)) (show SP j (36 + 2 * j) 3 from Or.inl rfl)
          simp (disch := omega) only [fa_lit0, xI_le_T, xI_le_F, xI_lt_T, xI_lt_F, xI_eq_T, xI_eq_F, xN_a, xN_b, xN_c, xN_d, xN_e, xN_f, xN_g, xN_h, xI_add, xI_mul, xI_sub, xI_tn, xI_in, xI_ofNat, gi_si_eq, gi_n1, gi_n2, gl_sl_eq, gl_n1, gl_n2, gi_sl, gl_si, forall_eq, true_implies, false_implies, not_true_eq_false, not_false_eq_true, and_true, true_and, implies_true, and_self, h6]
          refine hQ _ ((s5.wi (Or.inr (Or.inr (by omega)))).wi (Or.inr (Or.inr (by omega)))) (fun _ => ?_) (fun w => absurd rfl w)
          show PB j t m (p + 5) w (addA A (kdl (t p)) a b c d) _
          obtain ⟨e1, e2, e3, e4, e5⟩ := addA_n A (kdl (t p)) a b c d
          refine ⟨?_, ?_, ?_, ?_, fun i hi => ?_, ?_, ?_, fun i hi => ?_, fun i hi => ?_⟩
          · simp (disch := omega) only [fa_lit0, xI_le_T, xI_le_F, xI_lt_T, xI_lt_F, xI_eq_T, xI_eq_F, xN_a, xN_b, xN_c, xN_d, xN_e, xN_f, xN_g, xN_h, xI_add, xI_mul, xI_sub, xI_tn, xI_in, xI_ofNat, gi_si_eq, gi_n1, gi_n2, gl_sl_eq, gl_n1, gl_n2, gi_sl, gl_si, forall_eq, true_implies, false_implies, not_true_eq_false, not_false_eq_true, and_true, true_and, implies_true, and_self, h1]
          · simp (disch := omega) only [fa_lit0, xI_le_T, xI_le_F, xI_lt_T, xI_lt_F, xI_eq_T, xI_eq_F, xN_a, xN_b, xN_c, xN_d, xN_e, xN_f, xN_g, xN_h, xI_add, xI_mul, xI_sub, xI_tn, xI_in, xI_ofNat, gi_si_eq, gi_n1, gi_n2, gl_sl_eq, gl_n1, gl_n2, gi_sl, gl_si, forall_eq, true_implies, false_implies, not_true_eq_false, not_false_eq_true, and_true, true_and, implies_true, and_self]
          · simp (disch := omega) only [fa_lit0, xI_le_T, xI_le_F, xI_lt_T, xI_lt_F, xI_eq_T, xI_eq_F, xN_a, xN_b, xN_c, xN_d, xN_e, xN_f, xN_g, xN_h, xI_add, xI_mul, xI_sub, xI_tn, xI_in, xI_ofNat, gi_si_eq, gi_n1, gi_n2, gl_sl_eq, gl_n1, gl_n2, gi_sl, gl_si, forall_eq, true_implies, false_implies, not_true_eq_false, not_false_eq_true, and_true, true_and, implies_true, and_self, h3]
          · simp (disch := omega) only [fa_lit0, xI_le_T, xI_le_F, xI_lt_T, xI_lt_F, xI_eq_T, xI_eq_F, xN_a, xN_b, xN_c, xN_d, xN_e, xN_f, xN_g, xN_h, xI_add, xI_mul, xI_sub, xI_tn, xI_in, xI_ofNat, gi_si_eq, gi_n1, gi_n2, gl_sl_eq, gl_n1, gl_n2, gi_sl, gl_si, forall_eq, true_implies, false_implies, not_true_eq_false, not_false_eq_true, and_true, true_and, implies_true, and_self, h4]
          · simp (disch := omega) only [fa_lit0, xI_le_T, xI_le_F, xI_lt_T, xI_lt_F, xI_eq_T, xI_eq_F, xN_a, xN_b, xN_c, xN_d, xN_e, xN_f, xN_g, xN_h, xI_add, xI_mul, xI_sub, xI_tn, xI_in, xI_ofNat, gi_si_eq, gi_n1, gi_n2, gl_sl_eq, gl_n1, gl_n2, gi_sl, gl_si, forall_eq, true_implies, false_implies, not_true_eq_false, not_false_eq_true, and_true, true_and, implies_true, and_self, h5 i hi]
          · rw [addA_z]; simp (disch := omega) only [fa_lit0, xI_le_T, xI_le_F, xI_lt_T, xI_lt_F, xI_eq_T, xI_eq_F, xN_a, xN_b, xN_c, xN_d, xN_e, xN_f, xN_g, xN_h, xI_add, xI_mul, xI_sub, xI_tn, xI_in, xI_ofNat, gi_si_eq, gi_n1, gi_n2, gl_sl_eq, gl_n1, gl_n2, gi_sl, gl_si, forall_eq, true_implies, false_implies, not_true_eq_false, not_false_eq_true, and_true, true_and, implies_true, and_self]
          · rw [addA_o (by omega) (by omega)]; simp (disch := omega) only [fa_lit0, xI_le_T, xI_le_F, xI_lt_T, xI_lt_F, xI_eq_T, xI_eq_F, xN_a, xN_b, xN_c, xN_d, xN_e, xN_f, xN_g, xN_h, xI_add, xI_mul, xI_sub, xI_tn, xI_in, xI_ofNat, gi_si_eq, gi_n1, gi_n2, gl_sl_eq, gl_n1, gl_n2, gi_sl, gl_si, forall_eq, true_implies, false_implies, not_true_eq_false, not_false_eq_true, and_true, true_and, implies_true, and_self, h7]
          · rw [addA_z] at hi
            by_cases ci : i = A 0 0
            · subst ci
              rw [e1, e2, e3, e4, e5]
              simp (disch := omega) only [fa_lit0, xI_le_T, xI_le_F, xI_lt_T, xI_lt_F, xI_eq_T, xI_eq_F, xN_a, xN_b, xN_c, xN_d, xN_e, xN_f, xN_g, xN_h, xI_add, xI_mul, xI_sub, xI_tn, xI_in, xI_ofNat, gi_si_eq, gi_n1, gi_n2, gl_sl_eq, gl_n1, gl_n2, gi_sl, gl_si, forall_eq, true_implies, false_implies, not_true_eq_false, not_false_eq_true, and_true, true_and, implies_true, and_self]
            · rw [addA_o (by omega) (by omega), addA_o (by omega) (by omega), addA_o (by omega) (by omega), addA_o (by omega) (by omega), addA_o (by omega) (by omega)]
              simp (disch := omega) only [fa_lit0, xI_le_T, xI_le_F, xI_lt_T, xI_lt_F, xI_eq_T, xI_eq_F, xN_a, xN_b, xN_c, xN_d, xN_e, xN_f, xN_g, xN_h, xI_add, xI_mul, xI_sub, xI_tn, xI_in, xI_ofNat, gi_si_eq, gi_n1, gi_n2, gl_sl_eq, gl_n1, gl_n2, gi_sl, gl_si, forall_eq, true_implies, false_implies, not_true_eq_false, not_false_eq_true, and_true, true_and, implies_true, and_self, h8 i (by omega)]
          · rw [addA_o (by omega) (by omega)]; simp (disch := omega) only [fa_lit0, xI_le_T, xI_le_F, xI_lt_T, xI_lt_F, xI_eq_T, xI_eq_F, xN_a, xN_b, xN_c, xN_d, xN_e, xN_f, xN_g, xN_h, xI_add, xI_mul, xI_sub, xI_tn, xI_in, xI_ofNat, gi_si_eq, gi_n1, gi_n2, gl_sl_eq, gl_n1, gl_n2, gi_sl, gl_si, forall_eq, true_implies, false_implies, not_true_eq_false, not_false_eq_true, and_true, true_and, implies_true, and_self, h9 i hi]
theorem B_item {j m p w : Nat} {t : Nat → Int32} {A : Nat → Nat → Nat} {M : Mm} (hj : j ≤ 1) (hm : m ≤ 60) (h : PB j t m p w A M) (hO : OkP w A) (hA : ¬ A 0 1 = 0) (hp : p < m) {Q : Mm → Prop} (hQ : ∀ M', Sm (SP j) M M' → ((itm t m p w A).1 = 0 → PB j t m (itm t m p w A).2.1 (itm t m p w A).2.2.1 (itm t m p w A).2.2.2 M') → (¬ (itm t m p w A).1 = 0 → gi M' (36 + 2 * j) 5 = nI ((itm t m p w A).1 - 1)) → Q M') : wp_Rd_readItem (36 + 2 * j) M Q := by
  have hh := h
  obtain ⟨h1, h2, h3, h4, h5, h6, h7, h8, h9⟩ := h
  have hn := hO.1
  have hw := hO.2.1
  unfold wp_Rd_readItem
  refine B_sign hm (by omega) h1 h2 h5 ?_
  rw [if_pos hp]
  by_cases ht : t p = nI 119
  · refine ⟨fun w => absurd ht w, fun _ => ?_⟩
    exact B_wait hj hm hh hO hA hp ht hQ
  · refine ⟨fun _ => ?_, fun w => absurd w ht⟩
    refine B_sign hm (by omega) h1 h2 h5 ?_
    rw [if_pos hp]
    refine B_kind ?_
    rw [chO hj]
    by_cases hk : kdl (t p) = 9 ∨ A 0 0 = 5 ∨ 0 < w
    · unfold itm at hQ
      rw [if_neg hA, if_neg ht, if_pos hk] at hQ
      have fin := hQ (si M (36 + 2 * j) 5 (nI p)) ((Sm.refl (SP j) M).wi (Or.inl rfl)) (fun w => absurd w (by dsimp only; omega)) (fun _ => by rw [gi_si_eq]; rfl)
      have fin := hh.2.1 ▸ fin
      refine ⟨fun _ => ?_, fun _ => ⟨fun _ => ?_, fun w1 => ⟨fun w2 => ?_, fun _ => ?_⟩⟩⟩
      · intro x e; subst e; exact fin
      · intro x e; subst e; exact fin
      · exfalso
        rename_i w0
        by_cases k9 : kdl (t p) = 9
        · rw [if_pos k9] at w0; exact w0 rfl
        · have w1 : ¬ nI 5 ≤ nI (A 0 0) := by rw [← h6]; exact w1
          have w2 : nI w ≤ nI 0 := by rw [← h3]; exact w2
          rcases hk with v | v | v
          · exact k9 v
          · rw [v] at w1; exact w1 (by simp (disch := omega) only [fa_lit0, xI_le_T, xI_le_F, xI_lt_T, xI_lt_F, xI_eq_T, xI_eq_F, xN_a, xN_b, xN_c, xN_d, xN_e, xN_f, xN_g, xN_h, xI_add, xI_mul, xI_sub, xI_tn, xI_in, xI_ofNat, gi_si_eq, gi_n1, gi_n2, gl_sl_eq, gl_n1, gl_n2, gi_sl, gl_si, forall_eq, true_implies, false_implies, not_true_eq_false, not_false_eq_true, and_true, true_and, implies_true, and_self])
          · exact absurd w2 (by simp (disch := omega) only [fa_lit0, xI_le_T, xI_le_F, xI_lt_T, xI_lt_F, xI_eq_T, xI_eq_F, xN_a, xN_b, xN_c, xN_d, xN_e, xN_f, xN_g, xN_h, xI_add, xI_mul, xI_sub, xI_tn, xI_in, xI_ofNat, gi_si_eq, gi_n1, gi_n2, gl_sl_eq, gl_n1, gl_n2, gi_sl, gl_si, forall_eq, true_implies, false_implies, not_true_eq_false, not_false_eq_true, and_true, true_and, implies_true, and_self])
      · intro x e; subst e; exact fin
    · have k9 : ¬ kdl (t p) = 9 := by omega
      have k6 := kdl_lt (t p)
      rw [if_neg k9]
      simp (disch := omega) only [fa_lit0, xI_le_T, xI_le_F, xI_lt_T, xI_lt_F, xI_eq_T, xI_eq_F, xN_a, xN_b, xN_c, xN_d, xN_e, xN_f, xN_g, xN_h, xI_add, xI_mul, xI_sub, xI_tn, xI_in, xI_ofNat, gi_si_eq, gi_n1, gi_n2, gl_sl_eq, gl_n1, gl_n2, gi_sl, gl_si, forall_eq, true_implies, false_implies, not_true_eq_false, not_false_eq_true, and_true, true_and, implies_true, and_self, h6, h3]
      exact B_arm hj hm hh hO hA hp ht hk hQ
theorem PB.at {j m p q w : Nat} {t : Nat → Int32} {A : Nat → Nat → Nat} {M : Mm} (hj : j ≤ 1) (h : PB j t m p w A M) : PB j t m q w A (si M (36 + 2 * j) 3 (nI q)) := by
  obtain ⟨h1, h2, h3, h4, h5, h6, h7, h8, h9⟩ := h
  refine ⟨?_, ?_, ?_, ?_, fun i hi => ?_, ?_, ?_, fun i hi => ?_, fun i hi => ?_⟩
  · simp (disch := omega) only [fa_lit0, xI_le_T, xI_le_F, xI_lt_T, xI_lt_F, xI_eq_T, xI_eq_F, xN_a, xN_b, xN_c, xN_d, xN_e, xN_f, xN_g, xN_h, xI_add, xI_mul, xI_sub, xI_tn, xI_in, xI_ofNat, gi_si_eq, gi_n1, gi_n2, gl_sl_eq, gl_n1, gl_n2, gi_sl, gl_si, forall_eq, true_implies, false_implies, not_true_eq_false, not_false_eq_true, and_true, true_and, implies_true, and_self, h1]
  · simp (disch := omega) only [fa_lit0, xI_le_T, xI_le_F, xI_lt_T, xI_lt_F, xI_eq_T, xI_eq_F, xN_a, xN_b, xN_c, xN_d, xN_e, xN_f, xN_g, xN_h, xI_add, xI_mul, xI_sub, xI_tn, xI_in, xI_ofNat, gi_si_eq, gi_n1, gi_n2, gl_sl_eq, gl_n1, gl_n2, gi_sl, gl_si, forall_eq, true_implies, false_implies, not_true_eq_false, not_false_eq_true, and_true, true_and, implies_true, and_self]
  · simp (disch := omega) only [fa_lit0, xI_le_T, xI_le_F, xI_lt_T, xI_lt_F, xI_eq_T, xI_eq_F, xN_a, xN_b, xN_c, xN_d, xN_e, xN_f, xN_g, xN_h, xI_add, xI_mul, xI_sub, xI_tn, xI_in, xI_ofNat, gi_si_eq, gi_n1, gi_n2, gl_sl_eq, gl_n1, gl_n2, gi_sl, gl_si, forall_eq, true_implies, false_implies, not_true_eq_false, not_false_eq_true, and_true, true_and, implies_true, and_self, h3]
  · simp (disch := omega) only [fa_lit0, xI_le_T, xI_le_F, xI_lt_T, xI_lt_F, xI_eq_T, xI_eq_F, xN_a, xN_b, xN_c, xN_d, xN_e, xN_f, xN_g, xN_h, xI_add, xI_mul, xI_sub, xI_tn, xI_in, xI_ofNat, gi_si_eq, gi_n1, gi_n2, gl_sl_eq, gl_n1, gl_n2, gi_sl, gl_si, forall_eq, true_implies, false_implies, not_true_eq_false, not_false_eq_true, and_true, true_and, implies_true, and_self, h4]
  · simp (disch := omega) only [fa_lit0, xI_le_T, xI_le_F, xI_lt_T, xI_lt_F, xI_eq_T, xI_eq_F, xN_a, xN_b, xN_c, xN_d, xN_e, xN_f, xN_g, xN_h, xI_add, xI_mul, xI_sub, xI_tn, xI_in, xI_ofNat, gi_si_eq, gi_n1, gi_n2, gl_sl_eq, gl_n1, gl_n2, gi_sl, gl_si, forall_eq, true_implies, false_implies, not_true_eq_false, not_false_eq_true, and_true, true_and, implies_true, and_self, h5 i hi]
  · simp (disch := omega) only [fa_lit0, xI_le_T, xI_le_F, xI_lt_T, xI_lt_F, xI_eq_T, xI_eq_F, xN_a, xN_b, xN_c, xN_d, xN_e, xN_f, xN_g, xN_h, xI_add, xI_mul, xI_sub, xI_tn, xI_in, xI_ofNat, gi_si_eq, gi_n1, gi_n2, gl_sl_eq, gl_n1, gl_n2, gi_sl, gl_si, forall_eq, true_implies, false_implies, not_true_eq_false, not_false_eq_true, and_true, true_and, implies_true, and_self, h6]
  · simp (disch := omega) only [fa_lit0, xI_le_T, xI_le_F, xI_lt_T, xI_lt_F, xI_eq_T, xI_eq_F, xN_a, xN_b, xN_c, xN_d, xN_e, xN_f, xN_g, xN_h, xI_add, xI_mul, xI_sub, xI_tn, xI_in, xI_ofNat, gi_si_eq, gi_n1, gi_n2, gl_sl_eq, gl_n1, gl_n2, gi_sl, gl_si, forall_eq, true_implies, false_implies, not_true_eq_false, not_false_eq_true, and_true, true_and, implies_true, and_self, h7]
  · simp (disch := omega) only [fa_lit0, xI_le_T, xI_le_F, xI_lt_T, xI_lt_F, xI_eq_T, xI_eq_F, xN_a, xN_b, xN_c, xN_d, xN_e, xN_f, xN_g, xN_h, xI_add, xI_mul, xI_sub, xI_tn, xI_in, xI_ofNat, gi_si_eq, gi_n1, gi_n2, gl_sl_eq, gl_n1, gl_n2, gi_sl, gl_si, forall_eq, true_implies, false_implies, not_true_eq_false, not_false_eq_true, and_true, true_and, implies_true, and_self, h8 i hi]
  · simp (disch := omega) only [fa_lit0, xI_le_T, xI_le_F, xI_lt_T, xI_lt_F, xI_eq_T, xI_eq_F, xN_a, xN_b, xN_c, xN_d, xN_e, xN_f, xN_g, xN_h, xI_add, xI_mul, xI_sub, xI_tn, xI_in, xI_ofNat, gi_si_eq, gi_n1, gi_n2, gl_sl_eq, gl_n1, gl_n2, gi_sl, gl_si, forall_eq, true_implies, false_implies, not_true_eq_false, not_false_eq_true, and_true, true_and, implies_true, and_self, h9 i hi]
theorem B_skip {j m w : Nat} {t : Nat → Int32} {A : Nat → Nat → Nat} (hj : j ≤ 1) (hm : m ≤ 60) {M0 : Mm} {p0 : Nat} {Q : Mm → Prop} (hQ : ∀ M' p', Sm (SP j) M0 M' → PB j t m p' w A M' → p0 ≤ p' → (p' ≤ p0 ∨ p' ≤ m) → pr t m p' w A = pr t m p0 w A → (m ≤ p' ∨ ¬ t p' = nI 32) → Q M') : ∀ f p M, m ≤ p + f → p < 100 → Sm (SP j) M0 M → PB j t m p w A M → p0 ≤ p → (p ≤ p0 ∨ p ≤ m) → pr t m p w A = pr t m p0 w A → lp_Rd_skipBlanks_0 (36 + 2 * j) Q (f + 1) M := by
  intro f
  induction f with
  | zero =>
    intro p M hf hp s h hp0 hpm he
    show k_Rd_skipBlanks_0 (36 + 2 * j) Q _ M
    unfold k_Rd_skipBlanks_0
    simp (disch := omega) only [fa_lit0, xI_le_T, xI_le_F, xI_lt_T, xI_lt_F, xI_eq_T, xI_eq_F, xN_a, xN_b, xN_c, xN_d, xN_e, xN_f, xN_g, xN_h, xI_add, xI_mul, xI_sub, xI_tn, xI_in, xI_ofNat, gi_si_eq, gi_n1, gi_n2, gl_sl_eq, gl_n1, gl_n2, gi_sl, gl_si, forall_eq, true_implies, false_implies, not_true_eq_false, not_false_eq_true, and_true, true_and, implies_true, and_self, h.1, h.2.1]
    exact hQ M p s h hp0 hpm he (Or.inl (by omega))
  | succ f ih =>
    intro p M hf hp s h hp0 hpm he
    show k_Rd_skipBlanks_0 (36 + 2 * j) Q _ M
    unfold k_Rd_skipBlanks_0
    by_cases c : p < m
    · simp (disch := omega) only [fa_lit0, xI_le_T, xI_le_F, xI_lt_T, xI_lt_F, xI_eq_T, xI_eq_F, xN_a, xN_b, xN_c, xN_d, xN_e, xN_f, xN_g, xN_h, xI_add, xI_mul, xI_sub, xI_tn, xI_in, xI_ofNat, gi_si_eq, gi_n1, gi_n2, gl_sl_eq, gl_n1, gl_n2, gi_sl, gl_si, forall_eq, true_implies, false_implies, not_true_eq_false, not_false_eq_true, and_true, true_and, implies_true, and_self, h.1, h.2.1]
      refine B_sign hm (by omega) h.1 h.2.1 h.2.2.2.2.1 ?_
      rw [if_pos c]
      refine ⟨fun w => hQ M p s h hp0 hpm he (Or.inr w), fun w => ?_⟩
      have e3 := h.2.1
      simp (disch := omega) only [fa_lit0, xI_le_T, xI_le_F, xI_lt_T, xI_lt_F, xI_eq_T, xI_eq_F, xN_a, xN_b, xN_c, xN_d, xN_e, xN_f, xN_g, xN_h, xI_add, xI_mul, xI_sub, xI_tn, xI_in, xI_ofNat, gi_si_eq, gi_n1, gi_n2, gl_sl_eq, gl_n1, gl_n2, gi_sl, gl_si, forall_eq, true_implies, false_implies, not_true_eq_false, not_false_eq_true, and_true, true_and, implies_true, and_self, e3]
      refine ih (p + 1) _ (by omega) (by omega) (s.wi (Or.inl rfl)) (h.at hj) (by omega) (by omega) ?_
      rw [← he, pr_bl c w]
    · simp (disch := omega) only [fa_lit0, xI_le_T, xI_le_F, xI_lt_T, xI_lt_F, xI_eq_T, xI_eq_F, xN_a, xN_b, xN_c, xN_d, xN_e, xN_f, xN_g, xN_h, xI_add, xI_mul, xI_sub, xI_tn, xI_in, xI_ofNat, gi_si_eq, gi_n1, gi_n2, gl_sl_eq, gl_n1, gl_n2, gi_sl, gl_si, forall_eq, true_implies, false_implies, not_true_eq_false, not_false_eq_true, and_true, true_and, implies_true, and_self, h.1, h.2.1]
      exact hQ M p s h hp0 hpm he (Or.inl (by omega))
/-- a text's outcome -/
def pout (m : Nat) (o : Nat × Nat × Nat × (Nat → Nat → Nat)) : Int32 := if o.1 = 0 then (if o.2.2.2 0 0 = 0 then nI m else -nI 9) else nI (o.1 - 1)
theorem B_loop {j m : Nat} {t : Nat → Int32} (hj : j ≤ 1) (hm : m ≤ 60) {a1 : Nat} {a2 : Int32} {M0 : Mm} {o : Nat × Nat × Nat × (Nat → Nat → Nat)} {QQ : Int32 → Mm → Prop} {K : Mm → Prop} (hK : ∀ M', Sm (SP j) M0 M' → (o.1 = 0 → PB j t m o.2.1 o.2.2.1 o.2.2.2 M') → (¬ o.1 = 0 → gi M' (36 + 2 * j) 5 = nI (o.1 - 1)) → K M') : ∀ f v p w A M, m ≤ p + f → v ≤ p → p < 100 → Sm (SP j) M0 M → PB j t m p w A M → OkP w A → ¬ A 0 1 = 0 → pr t m p w A = o → lp_Rd_read_42 (36 + 2 * j) a1 a2 QQ K K (f + 2) (nI v) M := by
  intro f
  induction f with
  | zero =>
    intro v p w A M hf hv hp s h hO hA he
    show k_Rd_read_42 (36 + 2 * j) a1 a2 QQ _ K K (nI v) M
    have he2 := he
    rw [pr_end (by omega)] at he
    by_cases c : 60 ≤ v
    · unfold k_Rd_read_42
      simp (disch := omega) only [fa_lit0, xI_le_T, xI_le_F, xI_lt_T, xI_lt_F, xI_eq_T, xI_eq_F, xN_a, xN_b, xN_c, xN_d, xN_e, xN_f, xN_g, xN_h, xI_add, xI_mul, xI_sub, xI_tn, xI_in, xI_ofNat, gi_si_eq, gi_n1, gi_n2, gl_sl_eq, gl_n1, gl_n2, gi_sl, gl_si, forall_eq, true_implies, false_implies, not_true_eq_false, not_false_eq_true, and_true, true_and, implies_true, and_self]
      subst he
      exact hK M s (fun _ => h) (fun w => absurd rfl w)
    · unfold k_Rd_read_42
      simp (disch := omega) only [fa_lit0, xI_le_T, xI_le_F, xI_lt_T, xI_lt_F, xI_eq_T, xI_eq_F, xN_a, xN_b, xN_c, xN_d, xN_e, xN_f, xN_g, xN_h, xI_add, xI_mul, xI_sub, xI_tn, xI_in, xI_ofNat, gi_si_eq, gi_n1, gi_n2, gl_sl_eq, gl_n1, gl_n2, gi_sl, gl_si, forall_eq, true_implies, false_implies, not_true_eq_false, not_false_eq_true, and_true, true_and, implies_true, and_self, h.2.2.2.1]
      unfold wp_Rd_skipBlanks
      refine ⟨0 + 1, B_skip hj hm (M0 := M) (p0 := p) (w := w) (A := A) (t := t) ?_ 0 p M (by omega) (by omega) (Sm.refl _ M) h (by omega) (by omega) rfl⟩
      intro M' p' s' h' hp0 hpm he' hend
      simp (disch := omega) only [fa_lit0, xI_le_T, xI_le_F, xI_lt_T, xI_lt_F, xI_eq_T, xI_eq_F, xN_a, xN_b, xN_c, xN_d, xN_e, xN_f, xN_g, xN_h, xI_add, xI_mul, xI_sub, xI_tn, xI_in, xI_ofNat, gi_si_eq, gi_n1, gi_n2, gl_sl_eq, gl_n1, gl_n2, gi_sl, gl_si, forall_eq, true_implies, false_implies, not_true_eq_false, not_false_eq_true, and_true, true_and, implies_true, and_self, h'.1, h'.2.1]
      rw [pr_end (by omega), pr_end (by omega)] at he'
      subst he
      have : p' = p := by
        have := congrArg (fun q => q.2.1) he'
        exact this
      subst this
      exact hK M' (s.trans s') (fun _ => h') (fun w => absurd rfl w)
  | succ f ih =>
    intro v p w A M hf hv hp s h hO hA he
    show k_Rd_read_42 (36 + 2 * j) a1 a2 QQ _ K K (nI v) M
    by_cases c : 60 ≤ v
    · unfold k_Rd_read_42
      rw [pr_end (by omega)] at he
      simp (disch := omega) only [fa_lit0, xI_le_T, xI_le_F, xI_lt_T, xI_lt_F, xI_eq_T, xI_eq_F, xN_a, xN_b, xN_c, xN_d, xN_e, xN_f, xN_g, xN_h, xI_add, xI_mul, xI_sub, xI_tn, xI_in, xI_ofNat, gi_si_eq, gi_n1, gi_n2, gl_sl_eq, gl_n1, gl_n2, gi_sl, gl_si, forall_eq, true_implies, false_implies, not_true_eq_false, not_false_eq_true, and_true, true_and, implies_true, and_self]
      subst he
      exact hK M s (fun _ => h) (fun w => absurd rfl w)
    · unfold k_Rd_read_42
      simp (disch := omega) only [fa_lit0, xI_le_T, xI_le_F, xI_lt_T, xI_lt_F, xI_eq_T, xI_eq_F, xN_a, xN_b, xN_c, xN_d, xN_e, xN_f, xN_g, xN_h, xI_add, xI_mul, xI_sub, xI_tn, xI_in, xI_ofNat, gi_si_eq, gi_n1, gi_n2, gl_sl_eq, gl_n1, gl_n2, gi_sl, gl_si, forall_eq, true_implies, false_implies, not_true_eq_false, not_false_eq_true, and_true, true_and, implies_true, and_self, h.2.2.2.1]
      unfold wp_Rd_skipBlanks
      refine ⟨m + 1, B_skip hj hm (M0 := M) (p0 := p) (w := w) (A := A) (t := t) ?_ m p M (by omega) (by omega) (Sm.refl _ M) h (by omega) (by omega) rfl⟩
      intro M' p' s' h' hp0 hpm he' hend
      by_cases c2 : p' < m
      · simp (disch := omega) only [fa_lit0, xI_le_T, xI_le_F, xI_lt_T, xI_lt_F, xI_eq_T, xI_eq_F, xN_a, xN_b, xN_c, xN_d, xN_e, xN_f, xN_g, xN_h, xI_add, xI_mul, xI_sub, xI_tn, xI_in, xI_ofNat, gi_si_eq, gi_n1, gi_n2, gl_sl_eq, gl_n1, gl_n2, gi_sl, gl_si, forall_eq, true_implies, false_implies, not_true_eq_false, not_false_eq_true, and_true, true_and, implies_true, and_self, h'.1, h'.2.1]
        have ht : ¬ t p' = nI 32 := by
          rcases hend with v | v
          · omega
          · exact v
        refine B_item hj hm h' hO hA c2 ?_
        intro M2 s2 hok hno
        have bb := itm_b t m p' w A
        by_cases c3 : (itm t m p' w A).1 = 0
        · have := itm_p c3
          refine ih (v + 1) _ _ _ M2 (by omega) (by omega) (by omega) ((s.trans s').trans s2) (hok c3) (itm_ok hO c3) ?_ ?_
          · unfold itm
            rw [if_neg hA]
            unfold itm at c3
            rw [if_neg hA] at c3
            revert c3
            repeat' split
            all_goals (intro c3; first | exact hA | (exfalso; revert c3; dsimp only; omega) | (dsimp only; rw [upC_ne (by omega)]; exact hA) | (dsimp only; rw [addA_o (by omega) (by omega)]; exact hA))
          · rw [← he, ← he', pr_it c2 ht, if_pos c3]
        · have e5 := hno c3
          show k_Rd_read_42 (36 + 2 * j) a1 a2 QQ _ K K (nI (v + 1)) M2
          have ko : K M2 := by
            rw [pr_it c2 ht, if_neg c3, he] at he'
            subst he'
            exact hK M2 ((s.trans s').trans s2) (fun w => absurd w c3) (fun _ => e5)
          unfold k_Rd_read_42
          by_cases c4 : 60 ≤ v + 1
          · simp (disch := omega) only [fa_lit0, xI_le_T, xI_le_F, xI_lt_T, xI_lt_F, xI_eq_T, xI_eq_F, xN_a, xN_b, xN_c, xN_d, xN_e, xN_f, xN_g, xN_h, xI_add, xI_mul, xI_sub, xI_tn, xI_in, xI_ofNat, gi_si_eq, gi_n1, gi_n2, gl_sl_eq, gl_n1, gl_n2, gi_sl, gl_si, forall_eq, true_implies, false_implies, not_true_eq_false, not_false_eq_true, and_true, true_and, implies_true, and_self]
            exact ko
          · simp (disch := omega) only [fa_lit0, xI_le_T, xI_le_F, xI_lt_T, xI_lt_F, xI_eq_T, xI_eq_F, xN_a, xN_b, xN_c, xN_d, xN_e, xN_f, xN_g, xN_h, xI_add, xI_mul, xI_sub, xI_tn, xI_in, xI_ofNat, gi_si_eq, gi_n1, gi_n2, gl_sl_eq, gl_n1, gl_n2, gi_sl, gl_si, forall_eq, true_implies, false_implies, not_true_eq_false, not_false_eq_true, and_true, true_and, implies_true, and_self, e5]
            exact ko
      · simp (disch := omega) only [fa_lit0, xI_le_T, xI_le_F, xI_lt_T, xI_lt_F, xI_eq_T, xI_eq_F, xN_a, xN_b, xN_c, xN_d, xN_e, xN_f, xN_g, xN_h, xI_add, xI_mul, xI_sub, xI_tn, xI_in, xI_ofNat, gi_si_eq, gi_n1, gi_n2, gl_sl_eq, gl_n1, gl_n2, gi_sl, gl_si, forall_eq, true_implies, false_implies, not_true_eq_false, not_false_eq_true, and_true, true_and, implies_true, and_self, h'.1, h'.2.1]
        rw [pr_end (by omega), he] at he'
        subst he'
        exact hK M' (s.trans s') (fun _ => h') (fun w => absurd rfl w)

theorem mn60 : ∀ m, m < 61 → (if (if (0 : Int32) < nI m then nI m else (0 : Int32)) < (Int32.ofNat 60) then (if (0 : Int32) < nI m then nI m else (0 : Int32)) else (Int32.ofNat 60)) = nI m := by decide +kernel
theorem B_cout {j m T : Nat} {t : Nat → Int32} {M : Mm} (hj : j ≤ 1) (hm : m ≤ 60) (hT : T < 4) (g1 : gi M 14 T = nI m) (g2 : ∀ i, i < m → gi M (16 + T) i = t i) {Q : Int32 → Mm → Prop} (hQ : ∀ M', Sm (fun a _ => a = 36 + 2 * j + 1) M M' → (∀ i, i < m → gi M' (36 + 2 * j + 1) i = t i) → Q (nI m) M') : wp_Sh_copyOut 13 (nI T) (36 + 2 * j + 1) 60 M Q := by
  unfold wp_Sh_copyOut
  have key : ∀ f v M', v + f = m → Sm (fun a _ => a = 36 + 2 * j + 1) M M' → (∀ i, i < v → gi M' (36 + 2 * j + 1) i = t i) → lp_Sh_copyOut_18 13 (nI T) (36 + 2 * j + 1) 60 Q (f + 1) (nI m) (nI v) M' := by
    intro f
    induction f with
    | zero =>
      intro v M' hv s hi
      have : v = m := by omega
      subst this
      show k_Sh_copyOut_18 13 (nI T) (36 + 2 * j + 1) 60 Q _ (nI v) (nI v) M'
      unfold k_Sh_copyOut_18
      simp (disch := omega) only [fa_lit0, xI_le_T, xI_le_F, xI_lt_T, xI_lt_F, xI_eq_T, xI_eq_F, xN_a, xN_b, xN_c, xN_d, xN_e, xN_f, xN_g, xN_h, xI_add, xI_mul, xI_sub, xI_tn, xI_in, xI_ofNat, gi_si_eq, gi_n1, gi_n2, gl_sl_eq, gl_n1, gl_n2, gi_sl, gl_si, forall_eq, true_implies, false_implies, not_true_eq_false, not_false_eq_true, and_true, true_and, implies_true, and_self]
      exact hQ M' s hi
    | succ f ih =>
      intro v M' hv s hi
      show k_Sh_copyOut_18 13 (nI T) (36 + 2 * j + 1) 60 Q _ (nI m) (nI v) M'
      unfold k_Sh_copyOut_18
      have e := (s.g (a := 16 + T) (b := v) (by omega)).trans (g2 v (by omega))
      have e : gi M' (13 + 2 + 1 + T) v = t v := e
      simp (disch := omega) only [fa_lit0, xI_le_T, xI_le_F, xI_lt_T, xI_lt_F, xI_eq_T, xI_eq_F, xN_a, xN_b, xN_c, xN_d, xN_e, xN_f, xN_g, xN_h, xI_add, xI_mul, xI_sub, xI_tn, xI_in, xI_ofNat, gi_si_eq, gi_n1, gi_n2, gl_sl_eq, gl_n1, gl_n2, gi_sl, gl_si, forall_eq, true_implies, false_implies, not_true_eq_false, not_false_eq_true, and_true, true_and, implies_true, and_self, shN_13, shR_13, e]
      refine ih (v + 1) _ (by omega) (s.wi rfl) (fun i hi' => ?_)
      by_cases c : i = v
      · subst c; rw [gi_si_eq]
      · rw [gi_n2 c]; exact hi i (by omega)
  have g1 : gi M (13 + 1) T = nI m := g1
  simp (disch := omega) only [fa_lit0, xI_le_T, xI_le_F, xI_lt_T, xI_lt_F, xI_eq_T, xI_eq_F, xN_a, xN_b, xN_c, xN_d, xN_e, xN_f, xN_g, xN_h, xI_add, xI_mul, xI_sub, xI_tn, xI_in, xI_ofNat, gi_si_eq, gi_n1, gi_n2, gl_sl_eq, gl_n1, gl_n2, gi_sl, gl_si, forall_eq, true_implies, false_implies, not_true_eq_false, not_false_eq_true, and_true, true_and, implies_true, and_self, wp_Sh_sizeOf, wp_Sh_knows, shN_13]
  have mn := mn60 m (by omega)
  rw [g1]
  have mn : (if (if nI 0 < nI m then nI m else nI 0) < nI 60 then (if nI 0 < nI m then nI m else nI 0) else nI 60) = nI m := mn
  rw [mn]
  exact ⟨m + 1, key m 0 M (by omega) (Sm.refl _ M) (fun i hi => absurd hi (Nat.not_lt_zero i))⟩
def SPS (j a b : Nat) : Prop := a = 36 + 2 * j ∨ a = 36 + 2 * j + 1 ∨ (20 + 8 * j ≤ a ∧ a ≤ 27 + 8 * j)
theorem B_read {j m T : Nat} {t : Nat → Int32} {M : Mm} (hj : j ≤ 1) (hm : m ≤ 60) (hT : T < 4) (g1 : gi M 14 T = nI m) (g2 : ∀ i, i < m → gi M (16 + T) i = t i) {Q : Int32 → Mm → Prop} (hQ : ∀ M', Sm (SPS j) M M' → (pout m (pr t m 0 0 (fun _ _ => 0)) = -nI 9 → PB j t m (pr t m 0 0 (fun _ _ => 0)).2.1 (pr t m 0 0 (fun _ _ => 0)).2.2.1 (pr t m 0 0 (fun _ _ => 0)).2.2.2 M' ∧ ∀ s, s < 32 → gi M' (20 + 8 * j + 7) s = -nI 1) → Q (pout m (pr t m 0 0 (fun _ _ => 0))) M') : wp_Rd_read (36 + 2 * j) 13 (nI T) M Q := by
  unfold wp_Rd_read
  refine B_cout hj hm hT g1 g2 (fun M1 s1 hs => ?_)
  rw [chO hj]
  unfold wp_Ch_clear wp_Ch_forgetServed
  refine J_fill_ok (by omega) (J_fill_ok (by omega) ?_)
  simp (disch := omega) only [fa_lit0, xI_le_T, xI_le_F, xI_lt_T, xI_lt_F, xI_eq_T, xI_eq_F, xN_a, xN_b, xN_c, xN_d, xN_e, xN_f, xN_g, xN_h, xI_add, xI_mul, xI_sub, xI_tn, xI_in, xI_ofNat, gi_si_eq, gi_n1, gi_n2, gl_sl_eq, gl_n1, gl_n2, gi_sl, gl_si, forall_eq, true_implies, false_implies, not_true_eq_false, not_false_eq_true, and_true, true_and, implies_true, and_self]
  generalize hM2 : fli (fli (si (si (si (si (si (si M1 (36 + 2 * j) 2 (nI m)) (36 + 2 * j) 3 (nI 0)) (36 + 2 * j) 4 (nI 0)) (36 + 2 * j) 5 (-nI 9)) (20 + 8 * j) 7 (nI 0)) (20 + 8 * j) 8 (nI 0)) (20 + 8 * j + 6) 5 (nI 0)) (20 + 8 * j + 7) 32 (-nI 1) = M2
  have s2 : Sm (SPS j) M M2 := by
    subst hM2
    intro a b q
    unfold SPS at q
    rw [gi_fli_ne (by omega), gi_fli_ne (by omega), gl_fli, gl_fli]
    have s1 := s1 a b (by omega)
    simp (disch := omega) only [fa_lit0, xI_le_T, xI_le_F, xI_lt_T, xI_lt_F, xI_eq_T, xI_eq_F, xN_a, xN_b, xN_c, xN_d, xN_e, xN_f, xN_g, xN_h, xI_add, xI_mul, xI_sub, xI_tn, xI_in, xI_ofNat, gi_si_eq, gi_n1, gi_n2, gl_sl_eq, gl_n1, gl_n2, gi_sl, gl_si, forall_eq, true_implies, false_implies, not_true_eq_false, not_false_eq_true, and_true, true_and, implies_true, and_self]
    exact s1
  have hsv : ∀ s, s < 32 → gi M2 (20 + 8 * j + 7) s = -nI 1 := by
    intro s hs
    subst hM2
    rw [gi_fli_in hs]
  have hP : PB j t m 0 0 (fun _ _ => 0) M2 := by
    subst hM2
    refine ⟨?_, ?_, ?_, ?_, fun i hi => ?_, ?_, ?_, fun i hi => absurd hi (Nat.not_lt_zero i), fun i hi => ?_⟩
    · rw [gi_fli_ne (by omega), gi_fli_ne (by omega)]; simp (disch := omega) only [fa_lit0, xI_le_T, xI_le_F, xI_lt_T, xI_lt_F, xI_eq_T, xI_eq_F, xN_a, xN_b, xN_c, xN_d, xN_e, xN_f, xN_g, xN_h, xI_add, xI_mul, xI_sub, xI_tn, xI_in, xI_ofNat, gi_si_eq, gi_n1, gi_n2, gl_sl_eq, gl_n1, gl_n2, gi_sl, gl_si, forall_eq, true_implies, false_implies, not_true_eq_false, not_false_eq_true, and_true, true_and, implies_true, and_self]
    · rw [gi_fli_ne (by omega), gi_fli_ne (by omega)]; simp (disch := omega) only [fa_lit0, xI_le_T, xI_le_F, xI_lt_T, xI_lt_F, xI_eq_T, xI_eq_F, xN_a, xN_b, xN_c, xN_d, xN_e, xN_f, xN_g, xN_h, xI_add, xI_mul, xI_sub, xI_tn, xI_in, xI_ofNat, gi_si_eq, gi_n1, gi_n2, gl_sl_eq, gl_n1, gl_n2, gi_sl, gl_si, forall_eq, true_implies, false_implies, not_true_eq_false, not_false_eq_true, and_true, true_and, implies_true, and_self]
    · rw [gi_fli_ne (by omega), gi_fli_ne (by omega)]; simp (disch := omega) only [fa_lit0, xI_le_T, xI_le_F, xI_lt_T, xI_lt_F, xI_eq_T, xI_eq_F, xN_a, xN_b, xN_c, xN_d, xN_e, xN_f, xN_g, xN_h, xI_add, xI_mul, xI_sub, xI_tn, xI_in, xI_ofNat, gi_si_eq, gi_n1, gi_n2, gl_sl_eq, gl_n1, gl_n2, gi_sl, gl_si, forall_eq, true_implies, false_implies, not_true_eq_false, not_false_eq_true, and_true, true_and, implies_true, and_self]
    · rw [gi_fli_ne (by omega), gi_fli_ne (by omega)]; simp (disch := omega) only [fa_lit0, xI_le_T, xI_le_F, xI_lt_T, xI_lt_F, xI_eq_T, xI_eq_F, xN_a, xN_b, xN_c, xN_d, xN_e, xN_f, xN_g, xN_h, xI_add, xI_mul, xI_sub, xI_tn, xI_in, xI_ofNat, gi_si_eq, gi_n1, gi_n2, gl_sl_eq, gl_n1, gl_n2, gi_sl, gl_si, forall_eq, true_implies, false_implies, not_true_eq_false, not_false_eq_true, and_true, true_and, implies_true, and_self]
    · rw [gi_fli_ne (by omega), gi_fli_ne (by omega)]; simp (disch := omega) only [fa_lit0, xI_le_T, xI_le_F, xI_lt_T, xI_lt_F, xI_eq_T, xI_eq_F, xN_a, xN_b, xN_c, xN_d, xN_e, xN_f, xN_g, xN_h, xI_add, xI_mul, xI_sub, xI_tn, xI_in, xI_ofNat, gi_si_eq, gi_n1, gi_n2, gl_sl_eq, gl_n1, gl_n2, gi_sl, gl_si, forall_eq, true_implies, false_implies, not_true_eq_false, not_false_eq_true, and_true, true_and, implies_true, and_self, hs i hi]
    · rw [gi_fli_ne (by omega), gi_fli_ne (by omega)]; simp (disch := omega) only [fa_lit0, xI_le_T, xI_le_F, xI_lt_T, xI_lt_F, xI_eq_T, xI_eq_F, xN_a, xN_b, xN_c, xN_d, xN_e, xN_f, xN_g, xN_h, xI_add, xI_mul, xI_sub, xI_tn, xI_in, xI_ofNat, gi_si_eq, gi_n1, gi_n2, gl_sl_eq, gl_n1, gl_n2, gi_sl, gl_si, forall_eq, true_implies, false_implies, not_true_eq_false, not_false_eq_true, and_true, true_and, implies_true, and_self]
    · rw [gi_fli_ne (by omega), gi_fli_ne (by omega)]; simp (disch := omega) only [fa_lit0, xI_le_T, xI_le_F, xI_lt_T, xI_lt_F, xI_eq_T, xI_eq_F, xN_a, xN_b, xN_c, xN_d, xN_e, xN_f, xN_g, xN_h, xI_add, xI_mul, xI_sub, xI_tn, xI_in, xI_ofNat, gi_si_eq, gi_n1, gi_n2, gl_sl_eq, gl_n1, gl_n2, gi_sl, gl_si, forall_eq, true_implies, false_implies, not_true_eq_false, not_false_eq_true, and_true, true_and, implies_true, and_self]
    · rw [gi_fli_ne (by omega), gi_fli_in hi]
  clear hM2 s1 hs
  have hO0 : OkP 0 (fun _ _ => 0) := ⟨Nat.zero_le _, Nat.zero_le _, Nat.zero_le _, fun i hi => absurd hi (Nat.not_lt_zero i), fun i hi => ⟨Nat.two_pow_pos _, by rw [Nat.zero_div]⟩, fun _ _ _ => rfl⟩
  generalize ho : pr t m 0 0 (fun _ _ => 0) = o at hQ
  have ob : o.1 ≤ m + 5 := by rw [← ho]; exact pr_b m 0 0 _ (by omega)
  /- the end -/
  have en : ∀ M', Sm (SP j) M2 M' → (o.1 = 0 → PB j t m o.2.1 o.2.2.1 o.2.2.2 M') → (¬ o.1 = 0 → gi M' (36 + 2 * j) 5 = nI (o.1 - 1)) → OkP o.2.2.1 o.2.2.2 ∨ ¬ o.1 = 0 → k_Rd_read_85 (36 + 2 * j) 13 (nI T) Q M' := by
    intro M' s h1 h2 hok
    have sv : ∀ s', s' < 32 → gi M' (20 + 8 * j + 7) s' = -nI 1 := fun s' hs' => (s.g (by unfold SP; omega)).trans (hsv s' hs')
    have s3 : Sm (SPS j) M M' := s2.trans (s.mono (fun a b q => by unfold SP at q; unfold SPS; omega))
    unfold k_Rd_read_85
    rw [chO hj]
    unfold pout at hQ
    by_cases c : o.1 = 0
    · rw [if_pos c] at hQ
      obtain ⟨p1, p2, p3, p4, p5, p6, p7, p8, p9⟩ := h1 c
      have hok : OkP o.2.2.1 o.2.2.2 := by
        rcases hok with v | v
        · exact v
        · exact absurd c v
      have := hok.1
      by_cases c2 : o.2.2.2 0 0 = 0
      · rw [if_pos c2] at hQ
        simp (disch := omega) only [fa_lit0, xI_le_T, xI_le_F, xI_lt_T, xI_lt_F, xI_eq_T, xI_eq_F, xN_a, xN_b, xN_c, xN_d, xN_e, xN_f, xN_g, xN_h, xI_add, xI_mul, xI_sub, xI_tn, xI_in, xI_ofNat, gi_si_eq, gi_n1, gi_n2, gl_sl_eq, gl_n1, gl_n2, gi_sl, gl_si, forall_eq, true_implies, false_implies, not_true_eq_false, not_false_eq_true, and_true, true_and, implies_true, and_self, p4, p6, c2, p1]
        refine hQ _ (s3.wi (Or.inl rfl)) (fun w => ?_)
        exact absurd w (by simp (disch := omega) only [fa_lit0, xI_le_T, xI_le_F, xI_lt_T, xI_lt_F, xI_eq_T, xI_eq_F, xN_a, xN_b, xN_c, xN_d, xN_e, xN_f, xN_g, xN_h, xI_add, xI_mul, xI_sub, xI_tn, xI_in, xI_ofNat, gi_si_eq, gi_n1, gi_n2, gl_sl_eq, gl_n1, gl_n2, gi_sl, gl_si, forall_eq, true_implies, false_implies, not_true_eq_false, not_false_eq_true, and_true, true_and, implies_true, and_self])
      · rw [if_neg c2] at hQ
        simp (disch := omega) only [fa_lit0, xI_le_T, xI_le_F, xI_lt_T, xI_lt_F, xI_eq_T, xI_eq_F, xN_a, xN_b, xN_c, xN_d, xN_e, xN_f, xN_g, xN_h, xI_add, xI_mul, xI_sub, xI_tn, xI_in, xI_ofNat, gi_si_eq, gi_n1, gi_n2, gl_sl_eq, gl_n1, gl_n2, gi_sl, gl_si, forall_eq, true_implies, false_implies, not_true_eq_false, not_false_eq_true, and_true, true_and, implies_true, and_self, p4, p6]
        exact hQ _ s3 (fun _ => ⟨h1 c, sv⟩)
    · rw [if_neg c] at hQ
      have e5 := h2 c
      simp (disch := omega) only [fa_lit0, xI_le_T, xI_le_F, xI_lt_T, xI_lt_F, xI_eq_T, xI_eq_F, xN_a, xN_b, xN_c, xN_d, xN_e, xN_f, xN_g, xN_h, xI_add, xI_mul, xI_sub, xI_tn, xI_in, xI_ofNat, gi_si_eq, gi_n1, gi_n2, gl_sl_eq, gl_n1, gl_n2, gi_sl, gl_si, forall_eq, true_implies, false_implies, not_true_eq_false, not_false_eq_true, and_true, true_and, implies_true, and_self, e5]
      refine hQ _ s3 (fun w => ?_)
      exact absurd w (by simp (disch := omega) only [fa_lit0, xI_le_T, xI_le_F, xI_lt_T, xI_lt_F, xI_eq_T, xI_eq_F, xN_a, xN_b, xN_c, xN_d, xN_e, xN_f, xN_g, xN_h, xI_add, xI_mul, xI_sub, xI_tn, xI_in, xI_ofNat, gi_si_eq, gi_n1, gi_n2, gl_sl_eq, gl_n1, gl_n2, gi_sl, gl_si, forall_eq, true_implies, false_implies, not_true_eq_false, not_false_eq_true, and_true, true_and, implies_true, and_self])
  unfold wp_Rd_readRiver wp_Rd_skipBlanks
  refine ⟨m + 1, B_skip hj hm (M0 := M2) (p0 := 0) (w := 0) (A := fun _ _ => 0) (t := t) ?_ m 0 M2 (by omega) (by omega) (Sm.refl _ M2) hP (by omega) (by omega) rfl⟩
  intro M3 p s3 h3 hp0 hpm he hend
  rw [ho] at he
  refine B_sign hm (by omega) h3.1 h3.2.1 h3.2.2.2.2.1 ?_
  rw [chO hj]
  have bad : ∀ M' q, Sm (SP j) M2 M' → gi M' (36 + 2 * j) 5 = nI q → q < 100 → (o.1 = 0 → q = m ∧ o.2.2.2 0 0 = 0) → (¬ o.1 = 0 → q = o.1 - 1) → ∃ n, lp_Rd_read_42 (36 + 2 * j) 13 (nI T) Q (fun M => k_Rd_read_85 (36 + 2 * j) 13 (nI T) Q M) (fun M => k_Rd_read_85 (36 + 2 * j) 13 (nI T) Q M) n (nI 0) M' := by
    intro M' q s e5 hq hz hnz
    refine ⟨0 + 1, ?_⟩
    show k_Rd_read_42 (36 + 2 * j) 13 (nI T) Q _ _ _ (nI 0) M'
    unfold k_Rd_read_42
    simp (disch := omega) only [fa_lit0, xI_le_T, xI_le_F, xI_lt_T, xI_lt_F, xI_eq_T, xI_eq_F, xN_a, xN_b, xN_c, xN_d, xN_e, xN_f, xN_g, xN_h, xI_add, xI_mul, xI_sub, xI_tn, xI_in, xI_ofNat, gi_si_eq, gi_n1, gi_n2, gl_sl_eq, gl_n1, gl_n2, gi_sl, gl_si, forall_eq, true_implies, false_implies, not_true_eq_false, not_false_eq_true, and_true, true_and, implies_true, and_self, e5]
    unfold k_Rd_read_85
    simp (disch := omega) only [fa_lit0, xI_le_T, xI_le_F, xI_lt_T, xI_lt_F, xI_eq_T, xI_eq_F, xN_a, xN_b, xN_c, xN_d, xN_e, xN_f, xN_g, xN_h, xI_add, xI_mul, xI_sub, xI_tn, xI_in, xI_ofNat, gi_si_eq, gi_n1, gi_n2, gl_sl_eq, gl_n1, gl_n2, gi_sl, gl_si, forall_eq, true_implies, false_implies, not_true_eq_false, not_false_eq_true, and_true, true_and, implies_true, and_self, e5]
    have s3 : Sm (SPS j) M M' := s2.trans (s.mono (fun a b q => by unfold SP at q; unfold SPS; omega))
    unfold pout at hQ
    by_cases c : o.1 = 0
    · obtain ⟨z1, z2⟩ := hz c
      rw [if_pos c, if_pos z2] at hQ
      subst z1
      refine hQ _ s3 (fun w => ?_)
      exact absurd w (by simp (disch := omega) only [fa_lit0, xI_le_T, xI_le_F, xI_lt_T, xI_lt_F, xI_eq_T, xI_eq_F, xN_a, xN_b, xN_c, xN_d, xN_e, xN_f, xN_g, xN_h, xI_add, xI_mul, xI_sub, xI_tn, xI_in, xI_ofNat, gi_si_eq, gi_n1, gi_n2, gl_sl_eq, gl_n1, gl_n2, gi_sl, gl_si, forall_eq, true_implies, false_implies, not_true_eq_false, not_false_eq_true, and_true, true_and, implies_true, and_self])
    · rw [if_neg c, ← hnz c] at hQ
      refine hQ _ s3 (fun w => ?_)
      exact absurd w (by simp (disch := omega) only [fa_lit0, xI_le_T, xI_le_F, xI_lt_T, xI_lt_F, xI_eq_T, xI_eq_F, xN_a, xN_b, xN_c, xN_d, xN_e, xN_f, xN_g, xN_h, xI_add, xI_mul, xI_sub, xI_tn, xI_in, xI_ofNat, gi_si_eq, gi_n1, gi_n2, gl_sl_eq, gl_n1, gl_n2, gi_sl, gl_si, forall_eq, true_implies, false_implies, not_true_eq_false, not_false_eq_true, and_true, true_and, implies_true, and_self])
  by_cases c : p < m
  · rw [if_pos c]
    have ht : ¬ t p = nI 32 := by
      rcases hend with v | v
      · omega
      · exact v
    rw [pr_it c ht] at he
    unfold itm at he
    by_cases cr : t p = nI 114
    · rw [if_pos (show (fun (_ _ : Nat) => 0) 0 1 = 0 from rfl), if_pos cr] at he
      simp (disch := omega) only [fa_lit0, xI_le_T, xI_le_F, xI_lt_T, xI_lt_F, xI_eq_T, xI_eq_F, xN_a, xN_b, xN_c, xN_d, xN_e, xN_f, xN_g, xN_h, xI_add, xI_mul, xI_sub, xI_tn, xI_in, xI_ofNat, gi_si_eq, gi_n1, gi_n2, gl_sl_eq, gl_n1, gl_n2, gi_sl, gl_si, forall_eq, true_implies, false_implies, not_true_eq_false, not_false_eq_true, and_true, true_and, implies_true, and_self, cr, h3.2.1]
      refine B_fig (m := m) (p := p + 1) (t := t) hm (by omega) (by omega) (by omega) (by simp (disch := omega) only [fa_lit0, xI_le_T, xI_le_F, xI_lt_T, xI_lt_F, xI_eq_T, xI_eq_F, xN_a, xN_b, xN_c, xN_d, xN_e, xN_f, xN_g, xN_h, xI_add, xI_mul, xI_sub, xI_tn, xI_in, xI_ofNat, gi_si_eq, gi_n1, gi_n2, gl_sl_eq, gl_n1, gl_n2, gi_sl, gl_si, forall_eq, true_implies, false_implies, not_true_eq_false, not_false_eq_true, and_true, true_and, implies_true, and_self, h3.2.2.2.1]) (by simp (disch := omega) only [fa_lit0, xI_le_T, xI_le_F, xI_lt_T, xI_lt_F, xI_eq_T, xI_eq_F, xN_a, xN_b, xN_c, xN_d, xN_e, xN_f, xN_g, xN_h, xI_add, xI_mul, xI_sub, xI_tn, xI_in, xI_ofNat, gi_si_eq, gi_n1, gi_n2, gl_sl_eq, gl_n1, gl_n2, gi_sl, gl_si, forall_eq, true_implies, false_implies, not_true_eq_false, not_false_eq_true, and_true, true_and, implies_true, and_self, h3.1]) (by simp (disch := omega) only [fa_lit0, xI_le_T, xI_le_F, xI_lt_T, xI_lt_F, xI_eq_T, xI_eq_F, xN_a, xN_b, xN_c, xN_d, xN_e, xN_f, xN_g, xN_h, xI_add, xI_mul, xI_sub, xI_tn, xI_in, xI_ofNat, gi_si_eq, gi_n1, gi_n2, gl_sl_eq, gl_n1, gl_n2, gi_sl, gl_si, forall_eq, true_implies, false_implies, not_true_eq_false, not_false_eq_true, and_true, true_and, implies_true, and_self]) (fun i hi => by simp (disch := omega) only [fa_lit0, xI_le_T, xI_le_F, xI_lt_T, xI_lt_F, xI_eq_T, xI_eq_F, xN_a, xN_b, xN_c, xN_d, xN_e, xN_f, xN_g, xN_h, xI_add, xI_mul, xI_sub, xI_tn, xI_in, xI_ofNat, gi_si_eq, gi_n1, gi_n2, gl_sl_eq, gl_n1, gl_n2, gi_sl, gl_si, forall_eq, true_implies, false_implies, not_true_eq_false, not_false_eq_true, and_true, true_and, implies_true, and_self, h3.2.2.2.2.1 i hi]) (fun f0 => ?_) (fun d fd ld hd => ?_)
      · rw [if_pos f0, if_neg (show ¬ p + 2 = 0 by omega)] at he
        simp (disch := omega) only [fa_lit0, xI_le_T, xI_le_F, xI_lt_T, xI_lt_F, xI_eq_T, xI_eq_F, xN_a, xN_b, xN_c, xN_d, xN_e, xN_f, xN_g, xN_h, xI_add, xI_mul, xI_sub, xI_tn, xI_in, xI_ofNat, gi_si_eq, gi_n1, gi_n2, gl_sl_eq, gl_n1, gl_n2, gi_sl, gl_si, forall_eq, true_implies, false_implies, not_true_eq_false, not_false_eq_true, and_true, true_and, implies_true, and_self]
        subst he
        refine bad _ (p + 1) (((s3.wi (Or.inl rfl)).wi (Or.inl rfl)).wi (Or.inr (Or.inr (by omega)))) (by simp (disch := omega) only [fa_lit0, xI_le_T, xI_le_F, xI_lt_T, xI_lt_F, xI_eq_T, xI_eq_F, xN_a, xN_b, xN_c, xN_d, xN_e, xN_f, xN_g, xN_h, xI_add, xI_mul, xI_sub, xI_tn, xI_in, xI_ofNat, gi_si_eq, gi_n1, gi_n2, gl_sl_eq, gl_n1, gl_n2, gi_sl, gl_si, forall_eq, true_implies, false_implies, not_true_eq_false, not_false_eq_true, and_true, true_and, implies_true, and_self]) (by omega) (fun w => absurd w (by dsimp only; omega)) (fun _ => rfl)
      · rw [if_neg (show ¬ fg t m 1 9 (p + 1) = 0 by omega), if_pos rfl, fd] at he
        simp (disch := omega) only [fa_lit0, xI_le_T, xI_le_F, xI_lt_T, xI_lt_F, xI_eq_T, xI_eq_F, xN_a, xN_b, xN_c, xN_d, xN_e, xN_f, xN_g, xN_h, xI_add, xI_mul, xI_sub, xI_tn, xI_in, xI_ofNat, gi_si_eq, gi_n1, gi_n2, gl_sl_eq, gl_n1, gl_n2, gi_sl, gl_si, forall_eq, true_implies, false_implies, not_true_eq_false, not_false_eq_true, and_true, true_and, implies_true, and_self]
        have hP4 := h3.riv (d := d) hj
        have hO4 : OkP 0 (upC (fun _ _ => 0) 0 1 (3 * d)) := hO0.riv (by omega)
        refine ⟨m + 2, B_loop hj hm (M0 := M2) (o := o) (t := t) ?_ m 0 (p + 1 + 1) 0 _ _ (by omega) (by omega) (by omega) (((s3.wi (Or.inl rfl)).wi (Or.inl rfl)).wi (Or.inr (Or.inr (by omega)))) hP4 hO4 (by rw [upC_eq]; omega) he⟩
        intro M' s h1 h2
        refine en M' s h1 h2 ?_
        by_cases c0 : o.1 = 0
        · left
          rw [← he] at c0 ⊢
          exact pr_ok m _ _ _ (by omega) hO4 c0
        · exact Or.inr c0
    · rw [if_pos (show (fun (_ _ : Nat) => 0) 0 1 = 0 from rfl), if_neg cr, if_neg (show ¬ p + 1 = 0 by omega)] at he
      simp (disch := omega) only [fa_lit0, xI_le_T, xI_le_F, xI_lt_T, xI_lt_F, xI_eq_T, xI_eq_F, xN_a, xN_b, xN_c, xN_d, xN_e, xN_f, xN_g, xN_h, xI_add, xI_mul, xI_sub, xI_tn, xI_in, xI_ofNat, gi_si_eq, gi_n1, gi_n2, gl_sl_eq, gl_n1, gl_n2, gi_sl, gl_si, forall_eq, true_implies, false_implies, not_true_eq_false, not_false_eq_true, and_true, true_and, implies_true, and_self, cr, h3.2.1]
      subst he
      exact bad _ p (s3.wi (Or.inl rfl)) (by simp (disch := omega) only [fa_lit0, xI_le_T, xI_le_F, xI_lt_T, xI_lt_F, xI_eq_T, xI_eq_F, xN_a, xN_b, xN_c, xN_d, xN_e, xN_f, xN_g, xN_h, xI_add, xI_mul, xI_sub, xI_tn, xI_in, xI_ofNat, gi_si_eq, gi_n1, gi_n2, gl_sl_eq, gl_n1, gl_n2, gi_sl, gl_si, forall_eq, true_implies, false_implies, not_true_eq_false, not_false_eq_true, and_true, true_and, implies_true, and_self]) (by omega) (fun w => absurd w (by dsimp only; omega)) (fun _ => rfl)
  · rw [if_neg c]
    rw [pr_end (show m ≤ p by omega)] at he
    simp (disch := omega) only [fa_lit0, xI_le_T, xI_le_F, xI_lt_T, xI_lt_F, xI_eq_T, xI_eq_F, xN_a, xN_b, xN_c, xN_d, xN_e, xN_f, xN_g, xN_h, xI_add, xI_mul, xI_sub, xI_tn, xI_in, xI_ofNat, gi_si_eq, gi_n1, gi_n2, gl_sl_eq, gl_n1, gl_n2, gi_sl, gl_si, forall_eq, true_implies, false_implies, not_true_eq_false, not_false_eq_true, and_true, true_and, implies_true, and_self, h3.2.1]
    subst he
    exact bad _ p (s3.wi (Or.inl rfl)) (by simp (disch := omega) only [fa_lit0, xI_le_T, xI_le_F, xI_lt_T, xI_lt_F, xI_eq_T, xI_eq_F, xN_a, xN_b, xN_c, xN_d, xN_e, xN_f, xN_g, xN_h, xI_add, xI_mul, xI_sub, xI_tn, xI_in, xI_ofNat, gi_si_eq, gi_n1, gi_n2, gl_sl_eq, gl_n1, gl_n2, gi_sl, gl_si, forall_eq, true_implies, false_implies, not_true_eq_false, not_false_eq_true, and_true, true_and, implies_true, and_self]) (by omega) (fun _ => ⟨by omega, rfl⟩) (fun w => absurd rfl w)
