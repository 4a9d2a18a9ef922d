/-! the reference plans -/
def MBs (K : Nat) (b : Bst) (M : Mm) : Prop := gi M 312 37 = (if b.1 = 0 then -nI 1 else nI (b.1 - 1)) ∧ gi M 312 38 = nI b.2.1 ∧ (0 < b.1 → ∀ i, i < K → gi M 336 i = nI (b.2.2 i))
theorem MBs.sm {K : Nat} {b : Bst} {M M' : Mm} {S : Nat → Nat → Prop} (h : MBs K b M) (s : Sm S M M') (q1 : ¬ S 312 37) (q2 : ¬ S 312 38) (q3 : ∀ i, ¬ S 336 i) : MBs K b M' := by
  obtain ⟨h1, h2, h3⟩ := h
  refine ⟨(s.g q1).trans h1, (s.g q2).trans h2, fun w i hi => ?_⟩
  rw [s.g (q3 i)]; exact h3 w i hi
theorem M_takes {K w st : Nat} {pl : Nat → Nat} {M : Mm} (hK : K ≤ 3) (hw : 0 < w) (hp : ∀ i, i < K → gi M 335 i = nI (pl i)) {Q : Mm → Prop} (hQ : ∀ M', Sm (fun a c => a = 336 ∨ (a = 312 ∧ (c = 37 ∨ c = 38))) M M' → MBs K (w, st, pl) M' → Q M') : wp_M_takes (nI K) (nI (w - 1)) (nI st) M Q := by
  unfold wp_M_takes
  have key : ∀ f v M', v + f = K → Sm (fun a c => a = 336 ∨ (a = 312 ∧ (c = 37 ∨ c = 38))) M M' → gi M' 312 37 = nI (w - 1) → gi M' 312 38 = nI st → (∀ i, i < v → gi M' 336 i = nI (pl i)) → lp_M_takes_13 (nI K) (nI (w - 1)) (nI st) Q (f + 1) (nI v) M' := by
    intro f
    induction f with
    | zero =>
      intro v M' hvf s e1 e2 hI
      have : v = K := by omega
      subst this
      show k_M_takes_13 (nI v) (nI (w - 1)) (nI st) Q _ _ M'
      unfold k_M_takes_13
      simp (disch := omega) only [fa_lit0, xI_le_T, xI_le_F, xI_lt_T, xI_lt_F, xI_eq_T, xI_eq_F, xN_a, xN_b, xN_c, xN_d, xN_e, xN_f, xN_g, xN_h, xI_add, xI_mul, xI_sub, xI_tn, xI_in, xI_ofNat, gi_si_eq, gi_n1, gi_n2, gl_sl_eq, gl_n1, gl_n2, gi_sl, gl_si, forall_eq, true_implies, false_implies, not_true_eq_false, not_false_eq_true, and_true, true_and, implies_true, and_self]
      refine hQ M' s ⟨?_, e2, fun _ => hI⟩
      rw [e1, if_neg (by dsimp only; omega)]
    | succ f ih =>
      intro v M' hvf s e1 e2 hI
      show k_M_takes_13 (nI K) (nI (w - 1)) (nI st) Q _ _ M'
      unfold k_M_takes_13
      have e335 := (s.g (a := 335) (b := v) (by omega)).trans (hp v (by omega))
      simp (disch := omega) only [fa_lit0, xI_le_T, xI_le_F, xI_lt_T, xI_lt_F, xI_eq_T, xI_eq_F, xN_a, xN_b, xN_c, xN_d, xN_e, xN_f, xN_g, xN_h, xI_add, xI_mul, xI_sub, xI_tn, xI_in, xI_ofNat, gi_si_eq, gi_n1, gi_n2, gl_sl_eq, gl_n1, gl_n2, gi_sl, gl_si, forall_eq, true_implies, false_implies, not_true_eq_false, not_false_eq_true, and_true, true_and, implies_true, and_self, e335]
      refine ih (v + 1) _ (by omega) (s.wi (Or.inl rfl)) ((gi_n1 (by omega)).trans e1) ((gi_n1 (by omega)).trans e2) (fun i hi => ?_)
      by_cases c : i = v
      · subst c; exact gi_si_eq _ _ _ _
      · rw [gi_n2 c]; exact hI i (by omega)
  exact ⟨K + 1, key K 0 _ (by omega) (((Sm.refl (fun a c => a = 336 ∨ (a = 312 ∧ (c = 37 ∨ c = 38))) M).wi (Or.inr ⟨rfl, Or.inl rfl⟩)).wi (Or.inr ⟨rfl, Or.inr rfl⟩)) (by simp (disch := omega) only [fa_lit0, xI_le_T, xI_le_F, xI_lt_T, xI_lt_F, xI_eq_T, xI_eq_F, xN_a, xN_b, xN_c, xN_d, xN_e, xN_f, xN_g, xN_h, xI_add, xI_mul, xI_sub, xI_tn, xI_in, xI_ofNat, gi_si_eq, gi_n1, gi_n2, gl_sl_eq, gl_n1, gl_n2, gi_sl, gl_si, forall_eq, true_implies, false_implies, not_true_eq_false, not_false_eq_true, and_true, true_and, implies_true, and_self]) (by simp (disch := omega) only [fa_lit0, xI_le_T, xI_le_F, xI_lt_T, xI_lt_F, xI_eq_T, xI_eq_F, xN_a, xN_b, xN_c, xN_d, xN_e, xN_f, xN_g, xN_h, xI_add, xI_mul, xI_sub, xI_tn, xI_in, xI_ofNat, gi_si_eq, gi_n1, gi_n2, gl_sl_eq, gl_n1, gl_n2, gi_sl, gl_si, forall_eq, true_implies, false_implies, not_true_eq_false, not_false_eq_true, and_true, true_and, implies_true, and_self]) (fun i hi => by omega)⟩
/-- at a plan's end -/
theorem M_leaf {RC : Int32 → Int32 → Int32 → Int32 → Int32 → Mm → (Mm → Prop) → Prop} {tg K w st hm : Nat} {A : Int32} {pl : Nat → Nat} {b : Bst} {M : Mm} (hK : K ≤ 3) (ht : tg = 9 ∨ tg < 5) (hb : MBs K b M) (hg : GB tg b) (hgw : GW tg 0 w st) (hw0 : t0 tg ≤ w) (hA : tg = 9 → A = nI (w - 1)) (h26 : gi M 312 26 = nI hm) (hm32 : hm < 32) (hmw : tg ≠ 9 → w = hm / 2 ^ tg % 2) (hp : ∀ i, i < K → gi M 335 i = nI (pl i)) {Q : Mm → Prop} (hQ : ∀ M', Sm (fun a c => a = 336 ∨ (a = 312 ∧ (c = 37 ∨ c = 38))) M M' → MBs K (if bt w st b then (w, st, pl) else b) M' → Q M') : wpB_M_layPlans RC (nI K) (nI K) (tI tg) A (nI st) M Q := by
  obtain ⟨e1, e2, e3⟩ := hb
  obtain ⟨g1, g2, g3, g4⟩ := hg
  obtain ⟨w1, w2, w3⟩ := hgw
  unfold wpB_M_layPlans
  refine ⟨fun w => absurd rfl w, fun _ => ?_⟩
  have keep : ¬ bt w st b → Q M := fun c => by
    rw [if_neg c] at hQ
    exact hQ M (Sm.refl _ M) ⟨e1, e2, e3⟩
  by_cases c : tg = 9
  · have et : tI tg = -nI 9 := if_pos c
    have hA := hA c
    have hw : 1 ≤ w := by unfold t0 at hw0; rw [if_pos c] at hw0; exact hw0
    subst hA
    have y : bt w st b → k_M_layPlans_32 RC (nI K) (nI K) (tI tg) (nI (w - 1)) (nI st) Q M := by
      intro v
      rw [if_pos v] at hQ
      unfold k_M_layPlans_32 k_M_layPlans_37
      rw [et]
      simp (disch := omega) only [fa_lit0, xI_le_T, xI_le_F, xI_lt_T, xI_lt_F, xI_eq_T, xI_eq_F, xN_a, xN_b, xN_c, xN_d, xN_e, xN_f, xN_g, xN_h, xI_add, xI_mul, xI_sub, xI_tn, xI_in, xI_ofNat, gi_si_eq, gi_n1, gi_n2, gl_sl_eq, gl_n1, gl_n2, gi_sl, gl_si, forall_eq, true_implies, false_implies, not_true_eq_false, not_false_eq_true, and_true, true_and, implies_true, and_self, k_M_layPlans_80, k_M_layPlans_94]
      exact M_takes hK (by omega) hp hQ
    have n : ¬ bt w st b → k_M_layPlans_36 RC (nI K) (nI K) (tI tg) (nI (w - 1)) (nI st) Q M := by
      intro v
      unfold k_M_layPlans_36 k_M_layPlans_37
      rw [et]
      simp (disch := omega) only [fa_lit0, xI_le_T, xI_le_F, xI_lt_T, xI_lt_F, xI_eq_T, xI_eq_F, xN_a, xN_b, xN_c, xN_d, xN_e, xN_f, xN_g, xN_h, xI_add, xI_mul, xI_sub, xI_tn, xI_in, xI_ofNat, gi_si_eq, gi_n1, gi_n2, gl_sl_eq, gl_n1, gl_n2, gi_sl, gl_si, forall_eq, true_implies, false_implies, not_true_eq_false, not_false_eq_true, and_true, true_and, implies_true, and_self]
      exact keep v
    unfold bt at y n
    by_cases d : b.1 = 0
    · rw [if_pos d] at e1
      simp (disch := omega) only [fa_lit0, xI_le_T, xI_le_F, xI_lt_T, xI_lt_F, xI_eq_T, xI_eq_F, xN_a, xN_b, xN_c, xN_d, xN_e, xN_f, xN_g, xN_h, xI_add, xI_mul, xI_sub, xI_tn, xI_in, xI_ofNat, gi_si_eq, gi_n1, gi_n2, gl_sl_eq, gl_n1, gl_n2, gi_sl, gl_si, forall_eq, true_implies, false_implies, not_true_eq_false, not_false_eq_true, and_true, true_and, implies_true, and_self, e1, e2]
      exact y (by omega)
    · rw [if_neg d] at e1
      by_cases k1 : b.1 < w
      · simp (disch := omega) only [fa_lit0, xI_le_T, xI_le_F, xI_lt_T, xI_lt_F, xI_eq_T, xI_eq_F, xN_a, xN_b, xN_c, xN_d, xN_e, xN_f, xN_g, xN_h, xI_add, xI_mul, xI_sub, xI_tn, xI_in, xI_ofNat, gi_si_eq, gi_n1, gi_n2, gl_sl_eq, gl_n1, gl_n2, gi_sl, gl_si, forall_eq, true_implies, false_implies, not_true_eq_false, not_false_eq_true, and_true, true_and, implies_true, and_self, e1, e2]
        exact y (by omega)
      · by_cases k2 : w = b.1
        · by_cases k3 : b.2.1 ≤ st
          · simp (disch := omega) only [fa_lit0, xI_le_T, xI_le_F, xI_lt_T, xI_lt_F, xI_eq_T, xI_eq_F, xN_a, xN_b, xN_c, xN_d, xN_e, xN_f, xN_g, xN_h, xI_add, xI_mul, xI_sub, xI_tn, xI_in, xI_ofNat, gi_si_eq, gi_n1, gi_n2, gl_sl_eq, gl_n1, gl_n2, gi_sl, gl_si, forall_eq, true_implies, false_implies, not_true_eq_false, not_false_eq_true, and_true, true_and, implies_true, and_self, e1, e2]
            exact n (by omega)
          · simp (disch := omega) only [fa_lit0, xI_le_T, xI_le_F, xI_lt_T, xI_lt_F, xI_eq_T, xI_eq_F, xN_a, xN_b, xN_c, xN_d, xN_e, xN_f, xN_g, xN_h, xI_add, xI_mul, xI_sub, xI_tn, xI_in, xI_ofNat, gi_si_eq, gi_n1, gi_n2, gl_sl_eq, gl_n1, gl_n2, gi_sl, gl_si, forall_eq, true_implies, false_implies, not_true_eq_false, not_false_eq_true, and_true, true_and, implies_true, and_self, e1, e2]
            exact y (by omega)
        · simp (disch := omega) only [fa_lit0, xI_le_T, xI_le_F, xI_lt_T, xI_lt_F, xI_eq_T, xI_eq_F, xN_a, xN_b, xN_c, xN_d, xN_e, xN_f, xN_g, xN_h, xI_add, xI_mul, xI_sub, xI_tn, xI_in, xI_ofNat, gi_si_eq, gi_n1, gi_n2, gl_sl_eq, gl_n1, gl_n2, gi_sl, gl_si, forall_eq, true_implies, false_implies, not_true_eq_false, not_false_eq_true, and_true, true_and, implies_true, and_self, e1, e2]
          exact n (by omega)
  · have c5 : tg < 5 := by omega
    have et : tI tg = nI tg := if_neg c
    have ne : ¬ tI tg = -nI 9 := by rw [et]; simp (disch := omega) only [fa_lit0, xI_le_T, xI_le_F, xI_lt_T, xI_lt_F, xI_eq_T, xI_eq_F, xN_a, xN_b, xN_c, xN_d, xN_e, xN_f, xN_g, xN_h, xI_add, xI_mul, xI_sub, xI_tn, xI_in, xI_ofNat, gi_si_eq, gi_n1, gi_n2, gl_sl_eq, gl_n1, gl_n2, gi_sl, gl_si, forall_eq, true_implies, false_implies, not_true_eq_false, not_false_eq_true, and_true, true_and, implies_true, and_self]
    have hmw := hmw c
    have w3 := w3 c
    have g4 := g4 c
    have y : ∀ s0, k_M_layPlans_37 RC (nI K) (nI K) (tI tg) A (nI st) Q s0 M := by
      intro s0
      unfold k_M_layPlans_37
      refine ⟨fun _ => ?_, fun v => absurd v ne⟩
      rw [h26, et]
      refine M_has hm32 (by omega) ?_
      rw [← hmw]
      by_cases z : w = 0
      · subst z
        simp (disch := omega) only [fa_lit0, xI_le_T, xI_le_F, xI_lt_T, xI_lt_F, xI_eq_T, xI_eq_F, xN_a, xN_b, xN_c, xN_d, xN_e, xN_f, xN_g, xN_h, xI_add, xI_mul, xI_sub, xI_tn, xI_in, xI_ofNat, gi_si_eq, gi_n1, gi_n2, gl_sl_eq, gl_n1, gl_n2, gi_sl, gl_si, forall_eq, true_implies, false_implies, not_true_eq_false, not_false_eq_true, and_true, true_and, implies_true, and_self]
        refine keep (fun v => ?_)
        unfold bt at v
        have := g3
        omega
      · have z1 : w = 1 := by omega
        subst z1
        have tk : bt 1 st b → k_M_layPlans_80 RC (nI K) (nI K) (nI tg) A (nI st) Q M := by
          intro v
          rw [if_pos v] at hQ
          unfold k_M_layPlans_80 k_M_layPlans_94
          rw [et] at ne
          refine ⟨fun _ => ?_, fun v => absurd v ne⟩
          exact M_takes hK (by omega) hp hQ
        unfold bt at tk
        by_cases d : b.1 = 0
        · rw [if_pos d] at e1
          simp (disch := omega) only [fa_lit0, xI_le_T, xI_le_F, xI_lt_T, xI_lt_F, xI_eq_T, xI_eq_F, xN_a, xN_b, xN_c, xN_d, xN_e, xN_f, xN_g, xN_h, xI_add, xI_mul, xI_sub, xI_tn, xI_in, xI_ofNat, gi_si_eq, gi_n1, gi_n2, gl_sl_eq, gl_n1, gl_n2, gi_sl, gl_si, forall_eq, true_implies, false_implies, not_true_eq_false, not_false_eq_true, and_true, true_and, implies_true, and_self, e1, e2]
          exact tk (by omega)
        · rw [if_neg d] at e1
          by_cases k3 : b.2.1 ≤ st
          · simp (disch := omega) only [fa_lit0, xI_le_T, xI_le_F, xI_lt_T, xI_lt_F, xI_eq_T, xI_eq_F, xN_a, xN_b, xN_c, xN_d, xN_e, xN_f, xN_g, xN_h, xI_add, xI_mul, xI_sub, xI_tn, xI_in, xI_ofNat, gi_si_eq, gi_n1, gi_n2, gl_sl_eq, gl_n1, gl_n2, gi_sl, gl_si, forall_eq, true_implies, false_implies, not_true_eq_false, not_false_eq_true, and_true, true_and, implies_true, and_self, e1, e2]
            refine keep (fun v => ?_)
            unfold bt at v
            omega
          · simp (disch := omega) only [fa_lit0, xI_le_T, xI_le_F, xI_lt_T, xI_lt_F, xI_eq_T, xI_eq_F, xN_a, xN_b, xN_c, xN_d, xN_e, xN_f, xN_g, xN_h, xI_add, xI_mul, xI_sub, xI_tn, xI_in, xI_ofNat, gi_si_eq, gi_n1, gi_n2, gl_sl_eq, gl_n1, gl_n2, gi_sl, gl_si, forall_eq, true_implies, false_implies, not_true_eq_false, not_false_eq_true, and_true, true_and, implies_true, and_self, e1, e2]
            exact tk (by omega)
    refine ⟨fun _ => y _, fun _ => ⟨fun _ => y _, fun _ => ⟨fun _ => y _, fun _ => y _⟩⟩⟩
def SPm (k a c : Nat) : Prop := (a = 327 ∧ 31 * (2 + k) ≤ c) ∨ a = 328 ∨ a = 336 ∨ (a = 335 ∧ k ≤ c) ∨ (a = 312 ∧ (c = 26 ∨ c = 37 ∨ c = 38))
theorem lpLP (RC : Int32 → Int32 → Int32 → Int32 → Int32 → Mm → (Mm → Prop) → Prop) (a1 a2 a3 a4 a5 : Int32) (Q : Mm → Prop) (f : Nat) (v : Int32) (M : Mm) : lp_M_layPlans_103 RC a1 a2 a3 a4 a5 Q (f + 1) v M = k_M_layPlans_103 RC a1 a2 a3 a4 a5 Q (lp_M_layPlans_103 RC a1 a2 a3 a4 a5 Q f) v M := rfl
theorem M_plans {C : Nat → Nat → Nat} (hC : OkC C) {tg K : Nat} (ht : tg = 9 ∨ tg < C 0 0) (hK : K ≤ 3) : ∀ r d k F w st hm A pl b M (Q : Mm → Prop), k + r = K → r < d → MW C M → FM F M (1 + k) → OkF (C 0 0) F → F 30 + r < 149 → MBs K b M → GB tg b → GW tg r w st → t0 tg ≤ w → (tg = 9 → A = nI (w - 1)) → gi M 312 26 = nI hm → hm < 32 → (tg ≠ 9 → r = 0 → w = hm / 2 ^ tg % 2) → (∀ i, i < k → gi M 335 i = nI (pl i)) → (∀ M', Sm (SPm k) M M' → MW C M' → MBs K (br C tg r k F w st pl b) M' → Q M') → wp_M_layPlans d (nI k) (nI K) (tI tg) A (nI st) M Q := by
  have hn := hC.1
  have hp5 := p5 hn
  have hp0 : 0 < 2 ^ C 0 0 := Nat.two_pow_pos _
  intro r
  induction r with
  | zero =>
    intro d k F w st hm A pl b M Q hk hd hW hF hO h30 hb hg hw hw0 hA h26 hm32 hmw hpl hQ
    cases d with
    | zero => omega
    | succ d =>
      have hk : k = K := by omega
      subst hk
      show wpB_M_layPlans (wp_M_layPlans d) (nI k) (nI k) (tI tg) A (nI st) M Q
      refine M_leaf hK (by omega) hb hg hw hw0 hA h26 hm32 (fun v => hmw v rfl) hpl (fun M' s h => ?_)
      exact hQ M' (s.mono (fun a c q => by unfold SPm; omega)) (hW.sm s (fun a b q => by omega)) h
  | succ r ih =>
    intro d k F w st hm A pl b M Q hk hd hW hF hO h30 hb hg hw hw0 hA h26 hm32 hmw hpl hQ
    cases d with
    | zero => omega
    | succ d =>
      show wpB_M_layPlans (wp_M_layPlans d) (nI k) (nI K) (tI tg) A (nI st) M Q
      unfold wpB_M_layPlans
      have w1 := hw.1
      have w2 := hw.2.1
      refine ⟨fun _ => ?_, fun v => absurd v (by simp (disch := omega) only [fa_lit0, xI_le_T, xI_le_F, xI_lt_T, xI_lt_F, xI_eq_T, xI_eq_F, xN_a, xN_b, xN_c, xN_d, xN_e, xN_f, xN_g, xN_h, xI_add, xI_mul, xI_sub, xI_tn, xI_in, xI_ofNat, gi_si_eq, gi_n1, gi_n2, gl_sl_eq, gl_n1, gl_n2, gi_sl, gl_si, forall_eq, true_implies, false_implies, not_true_eq_false, not_false_eq_true, and_true, true_and, implies_true, and_self])⟩
      have key : ∀ f v M', v + f = 2 ^ C 0 0 → Sm (SPm k) M M' → MW C M' → MBs K (fb (fun s b => br C tg r (k + 1) (nx C F s) (w + wn C tg r F s) (st + sc C F s) (up pl k s) b) v b) M' → lp_M_layPlans_103 (wp_M_layPlans d) (nI k) (nI K) (tI tg) A (nI st) Q (f + 1) (nI v) M' := by
        intro f
        induction f with
        | zero =>
          intro v M' hvf s hW' hb'
          have hvf : v = 2 ^ C 0 0 := by omega
          subst hvf
          rw [lpLP]
          unfold k_M_layPlans_103
          refine M_sets hW' ?_
          simp (disch := omega) only [fa_lit0, xI_le_T, xI_le_F, xI_lt_T, xI_lt_F, xI_eq_T, xI_eq_F, xN_a, xN_b, xN_c, xN_d, xN_e, xN_f, xN_g, xN_h, xI_add, xI_mul, xI_sub, xI_tn, xI_in, xI_ofNat, gi_si_eq, gi_n1, gi_n2, gl_sl_eq, gl_n1, gl_n2, gi_sl, gl_si, forall_eq, true_implies, false_implies, not_true_eq_false, not_false_eq_true, and_true, true_and, implies_true, and_self]
          exact hQ M' s hW' hb'
        | succ f ihf =>
          intro v M' hvf s hW' hb'
          rw [lpLP]
          unfold k_M_layPlans_103
          refine M_sets hW' ?_
          simp (disch := omega) only [fa_lit0, xI_le_T, xI_le_F, xI_lt_T, xI_lt_F, xI_eq_T, xI_eq_F, xN_a, xN_b, xN_c, xN_d, xN_e, xN_f, xN_g, xN_h, xI_add, xI_mul, xI_sub, xI_tn, xI_in, xI_ofNat, gi_si_eq, gi_n1, gi_n2, gl_sl_eq, gl_n1, gl_n2, gi_sl, gl_si, forall_eq, true_implies, false_implies, not_true_eq_false, not_false_eq_true, and_true, true_and, implies_true, and_self]
          have g1 := GB_fb (C := C) (k := k) (F := F) (pl := pl) hg hw v
          have gw := hw.nx (C := C) (F := F) v
          have go : ∀ M2, Sm (SPm k) M M2 → MW C M2 → MBs K (fb (fun s b => br C tg r (k + 1) (nx C F s) (w + wn C tg r F s) (st + sc C F s) (up pl k s) b) (v + 1) b) M2 → lp_M_layPlans_103 (wp_M_layPlans d) (nI k) (nI K) (tI tg) A (nI st) Q (f + 1) (nI (v + 1)) M2 := fun M2 a1 a2 a3 => ihf (v + 1) M2 (by omega) a1 a2 a3
          have efb : fb (fun s b => br C tg r (k + 1) (nx C F s) (w + wn C tg r F s) (st + sc C F s) (up pl k s) b) (v + 1) b = br C tg r (k + 1) (nx C F v) (w + wn C tg r F v) (st + sc C F v) (up pl k v) (fb (fun s b => br C tg r (k + 1) (nx C F s) (w + wn C tg r F s) (st + sc C F s) (up pl k s) b) v b) := rfl
          rw [efb] at go
          generalize fb (fun s b => br C tg r (k + 1) (nx C F s) (w + wn C tg r F s) (st + sc C F s) (up pl k s) b) v b = bv at *
          have hF' : FM F M' (1 + k) := hF.sm s (fun b q1 q2 => by unfold SPm; omega)
          refine M_copyTo (f := 1 + k) (g := 2 + k) hF' (by omega) (by omega) (by omega) (fun M1 s1 f1 => ?_)
          have s2 : Sm (fun a c => (a = 327 ∧ 31 * (2 + k) ≤ c) ∨ (a = 335 ∧ c = k)) M' (si M1 335 k (nI v)) := (s1.mono (fun a b q => Or.inl ⟨q.1, q.2.1⟩)).wi (Or.inr ⟨rfl, rfl⟩)
          have e335 : gi (si M1 335 k (nI v)) 335 k = nI v := gi_si_eq _ _ _ _
          have f2 : FM F (si M1 335 k (nI v)) (2 + k) := f1.sm (S := fun a _ => a = 335) ((Sm.refl _ M1).wi rfl) (fun b _ _ => by omega)
          have bb2 : MBs K bv (si M1 335 k (nI v)) := hb'.sm s2 (by omega) (by omega) (fun i => by omega)
          have mw2 : MW C (si M1 335 k (nI v)) := hW'.sm s2 (fun a b q => by omega)
          have t2 : Sm (SPm k) M (si M1 335 k (nI v)) := s.trans (s2.mono (fun a b q => by unfold SPm; omega))
          generalize si M1 335 k (nI v) = M2 at *
          refine M_stampsOf mw2 hO f2 (by omega) (by omega) (fun M3 s3 mw3 f3 => ?_)
          have ld := lt_32 (ssD_lt (C := C) (F := F) (s := v) (C 0 0) hn) hn
          have ok := hO.ss (s := v) hC (C 0 0) (Nat.le_refl _)
          refine M_bits ld ?_
          refine M_passes mw3 ok.1 f3 (by omega) (fun M4 s4 mw4 f4 i4 => ?_)
          have u4 : Sm (SM (2 + k)) M2 M4 := s3.trans s4
          have t4 : Sm (SPm k) M M4 := t2.trans (u4.mono (fun a b q => by unfold SM at q; unfold SPm; omega))
          have bb4 : MBs K bv M4 := bb2.sm u4 (by unfold SM; omega) (by unfold SM; omega) (fun i => by unfold SM; omega)
          have p30 : nx C F v 30 = F 30 + 1 := by
            show gob C (ssF C v F (C 0 0)) 30 = _
            rw [gob_30, ok.2]
          have esc : nI st + nI (cnt (ssD C v F (C 0 0)) 5) = nI (st + sc C F v) := xI_add _ _
          try simp (disch := omega) only [fa_lit0, xI_le_T, xI_le_F, xI_lt_T, xI_lt_F, xI_eq_T, xI_eq_F, xN_a, xN_b, xN_c, xN_d, xN_e, xN_f, xN_g, xN_h, xI_add, xI_mul, xI_sub, xI_tn, xI_in, xI_ofNat, gi_si_eq, gi_n1, gi_n2, gl_sl_eq, gl_n1, gl_n2, gi_sl, gl_si, forall_eq, true_implies, false_implies, not_true_eq_false, not_false_eq_true, and_true, true_and, implies_true, and_self]
          have hg2 := gw.1
          refine ih d (k + 1) (nx C F v) (w + wn C tg r F v) (st + sc C F v) (hv C (ssF C v F (C 0 0))) _ (up pl k v) bv M4 _ (by omega) (by omega) mw4 (by rw [show 1 + (k + 1) = 2 + k by omega]; exact f4) (ok.1.go hC (by rw [ok.2]; omega)) (by rw [p30]; omega) bb4 g1 gw (by omega) (fun c => ?_) i4 (hv_lt hC _) (fun c z => ?_) (fun i hi => ?_) (fun M5 s5 mw5 bb5 => ?_)
          · have hA := hA c
            have hw1 : 1 ≤ w := by unfold t0 at hw0; rw [if_pos c] at hw0; exact hw0
            have ew : wn C tg r F v = cnt (hv C (ssF C v F (C 0 0))) 5 := if_pos c
            rw [hA, xI_add, ew]
            exact congrArg nI (by omega)
          · have ew : wn C tg r F v = hv C (ssF C v F (C 0 0)) / 2 ^ tg % 2 := by
              unfold wn
              rw [if_neg c, if_pos z]
              rfl
            have w0 := (hw.2.2 c).2 (by omega)
            rw [ew, w0, Nat.zero_add]
          · by_cases ei : i = k
            · subst ei
              rw [up_eq, u4.g (by unfold SM; omega)]
              exact e335
            · rw [up_ne ei, t4.g (by unfold SPm; omega)]; exact hpl i (by omega)
          · try simp (disch := omega) only [fa_lit0, xI_le_T, xI_le_F, xI_lt_T, xI_lt_F, xI_eq_T, xI_eq_F, xN_a, xN_b, xN_c, xN_d, xN_e, xN_f, xN_g, xN_h, xI_add, xI_mul, xI_sub, xI_tn, xI_in, xI_ofNat, gi_si_eq, gi_n1, gi_n2, gl_sl_eq, gl_n1, gl_n2, gi_sl, gl_si, forall_eq, true_implies, false_implies, not_true_eq_false, not_false_eq_true, and_true, true_and, implies_true, and_self]
            exact go M5 (t4.trans (s5.mono (fun a b q => by unfold SPm at q; unfold SPm; omega))) mw5 bb5
      exact ⟨2 ^ C 0 0 + 1, key (2 ^ C 0 0) 0 M (by omega) (Sm.refl _ M) hW hb⟩
def SAp (a c : Nat) : Prop := (a = 327 ∧ 31 ≤ c) ∨ a = 328 ∨ a = 335 ∨ a = 336 ∨ (a = 312 ∧ (c = 26 ∨ c = 37 ∨ c = 38))
theorem M_allP {C : Nat → Nat → Nat} {tg K : Nat} {F : Nat → Nat} {M : Mm} (hW : MW C M) (ht : tg = 9 ∨ tg < C 0 0) (hK : K ≤ 3) (hF : FM F M 0) (hO : OkF (C 0 0) F) (h30 : F 30 ≤ 60) {Q : Mm → Prop} (hQ : ∀ M', Sm SAp M M' → MW C M' → MBs K (bst C tg K F) M' → Q M') : wp_M_allPlans (nI K) (tI tg) M Q := by
  have hC := hW.1
  have gb0 : GB tg (0, 0, fun _ => 0) := ⟨by dsimp only; omega, by dsimp only; omega, fun _ => rfl, fun _ => by dsimp only; omega⟩
  have gw0 : GW tg K (t0 tg) 0 := by
    have : t0 tg ≤ 1 ∧ (tg ≠ 9 → t0 tg = 0) := by unfold t0; split <;> omega
    refine ⟨by omega, by omega, fun w => ?_⟩
    have := this.2 w
    omega
  unfold wp_M_allPlans
  simp (disch := omega) only [fa_lit0, xI_le_T, xI_le_F, xI_lt_T, xI_lt_F, xI_eq_T, xI_eq_F, xN_a, xN_b, xN_c, xN_d, xN_e, xN_f, xN_g, xN_h, xI_add, xI_mul, xI_sub, xI_tn, xI_in, xI_ofNat, gi_si_eq, gi_n1, gi_n2, gl_sl_eq, gl_n1, gl_n2, gi_sl, gl_si, forall_eq, true_implies, false_implies, not_true_eq_false, not_false_eq_true, and_true, true_and, implies_true, and_self]
  have s1 : Sm (fun a c => a = 312 ∧ (c = 26 ∨ c = 37 ∨ c = 38)) M (si (si (si M 312 37 (-nI 1)) 312 38 (nI 0)) 312 26 (nI 0)) := (((Sm.refl _ M).wi ⟨rfl, by omega⟩).wi ⟨rfl, by omega⟩).wi ⟨rfl, by omega⟩
  have a1 : gi (si (si (si M 312 37 (-nI 1)) 312 38 (nI 0)) 312 26 (nI 0)) 312 37 = -nI 1 := by simp (disch := omega) only [fa_lit0, xI_le_T, xI_le_F, xI_lt_T, xI_lt_F, xI_eq_T, xI_eq_F, xN_a, xN_b, xN_c, xN_d, xN_e, xN_f, xN_g, xN_h, xI_add, xI_mul, xI_sub, xI_tn, xI_in, xI_ofNat, gi_si_eq, gi_n1, gi_n2, gl_sl_eq, gl_n1, gl_n2, gi_sl, gl_si, forall_eq, true_implies, false_implies, not_true_eq_false, not_false_eq_true, and_true, true_and, implies_true, and_self]
  have a2 : gi (si (si (si M 312 37 (-nI 1)) 312 38 (nI 0)) 312 26 (nI 0)) 312 38 = nI 0 := by simp (disch := omega) only [fa_lit0, xI_le_T, xI_le_F, xI_lt_T, xI_lt_F, xI_eq_T, xI_eq_F, xN_a, xN_b, xN_c, xN_d, xN_e, xN_f, xN_g, xN_h, xI_add, xI_mul, xI_sub, xI_tn, xI_in, xI_ofNat, gi_si_eq, gi_n1, gi_n2, gl_sl_eq, gl_n1, gl_n2, gi_sl, gl_si, forall_eq, true_implies, false_implies, not_true_eq_false, not_false_eq_true, and_true, true_and, implies_true, and_self]
  have a3 : gi (si (si (si M 312 37 (-nI 1)) 312 38 (nI 0)) 312 26 (nI 0)) 312 26 = nI 0 := by simp (disch := omega) only [fa_lit0, xI_le_T, xI_le_F, xI_lt_T, xI_lt_F, xI_eq_T, xI_eq_F, xN_a, xN_b, xN_c, xN_d, xN_e, xN_f, xN_g, xN_h, xI_add, xI_mul, xI_sub, xI_tn, xI_in, xI_ofNat, gi_si_eq, gi_n1, gi_n2, gl_sl_eq, gl_n1, gl_n2, gi_sl, gl_si, forall_eq, true_implies, false_implies, not_true_eq_false, not_false_eq_true, and_true, true_and, implies_true, and_self]
  generalize si (si (si M 312 37 (-nI 1)) 312 38 (nI 0)) 312 26 (nI 0) = M1 at *
  refine M_copyTo (f := 0) (g := 1) (hF.sm s1 (fun b _ _ => by omega)) (by omega) (by omega) (by omega) (fun M2 s2 f2 => ?_)
  have t2 : Sm SAp M M2 := (s1.mono (fun a b q => by unfold SAp; omega)).trans (s2.mono (fun a b q => by unfold SAp; omega))
  refine M_plans hC ht hK K 8 0 F (t0 tg) 0 0 (nI 0) (fun _ => 0) (0, 0, fun _ => 0) M2 _ (by omega) (by omega) (hW.sm t2 (fun a b q => by unfold SAp; omega)) f2 hO (by omega) ⟨(s2.g (by omega)).trans a1, (s2.g (by omega)).trans a2, fun w => absurd w (by dsimp only; omega)⟩ gb0 gw0 (Nat.le_refl _) (fun c => ?_) ((s2.g (by omega)).trans a3) (by omega) (fun c z => ?_) (fun i hi => by omega) (fun M3 s3 mw3 bb3 => ?_)
  · unfold t0
    rw [if_pos c]
  · unfold t0
    rw [if_neg c, Nat.zero_div]
  · exact hQ M3 (t2.trans (s3.mono (fun a b q => by unfold SPm at q; unfold SAp; omega))) mw3 bb3
