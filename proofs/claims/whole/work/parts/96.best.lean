theorem bst_GB {C : Nat → Nat → Nat} {tg K : Nat} {F : Nat → Nat} (hK : K ≤ 3) : GB tg (bst C tg K F) := by
  refine GB_br _ _ _ _ _ _ _ ⟨by dsimp only; omega, by dsimp only; omega, fun _ => rfl, fun _ => by dsimp only; omega⟩ ?_
  have : t0 tg ≤ 1 ∧ (tg ≠ 9 → t0 tg = 0) := by unfold t0; split <;> omega
  refine ⟨by omega, by omega, fun w => ?_⟩
  have := this.2 w
  omega
def SRw (r a b : Nat) : Prop := a = 7 + r ∨ (a = 5 ∧ b = r) ∨ (a = 314 ∧ b = r) ∨ (a = 315 ∧ 40 * r ≤ b ∧ b < 40 * r + 40)
theorem row_new {M M' : Mm} {r K : Nat} {p : Nat → Nat} {S : Nat → Nat → Prop} (h : Rrow M) (hr : r < 6) (hK : K ≤ 40) (s : Sm S M M') (q : ∀ a b, (a = 5 ∨ a = 314 ∨ a = 315 ∨ (7 ≤ a ∧ a ≤ 12)) → S a b → SRw r a b) (e5 : gi M' 5 r = nI K) (e314 : gi M' 314 r = nI K) (e7 : ∀ i, i < K → gi M' (7 + r) i = nI (p i)) (e315 : ∀ i, i < K → gi M' 315 (40 * r + i) = nI (p i)) : Rrow M' := by
  intro r' hr'
  obtain ⟨g1, g2, g3⟩ := h r' hr'
  by_cases er : r' = r
  · subst er
    refine ⟨e5.trans e314.symm, Or.inr ⟨K, hK, e314⟩, fun i m hm h4 hi => ?_⟩
    have em : K = m := by
      rw [e314] at hm
      exact (nI_eq (by omega) (by omega)).mp hm
    rw [e7 i (by omega), e315 i (by omega)]
  · have n5 : ¬ S 5 r' := fun w => by have := q 5 r' (by omega) w; unfold SRw at this; omega
    have n3 : ¬ S 314 r' := fun w => by have := q 314 r' (by omega) w; unfold SRw at this; omega
    rw [s.g n5, s.g n3]
    refine ⟨g1, g2, fun i m hm h4 hi => ?_⟩
    have n7 : ¬ S (7 + r') i := fun w => by have := q (7 + r') i (by omega) w; unfold SRw at this; omega
    have n6 : ¬ S 315 (40 * r' + i) := fun w => by have := q 315 (40 * r' + i) (by omega) w; unfold SRw at this; omega
    rw [s.g n7, s.g n6]
    exact g3 i m hm h4 hi
def SF (r a b : Nat) : Prop := SSk a b ∨ SAp a b ∨ SRw r a b ∨ (a = 0 ∧ b = 13) ∨ (a = 312 ∧ b = 2)
theorem SF.asw {r a b : Nat} (hr : r < 6) (q : SF r a b) : Asw a b := by
  rcases q with q | q | q | q | q
  · unfold SSk at q; unfold Asw; omega
  · unfold SAp at q; unfold Asw; omega
  · unfold SRw at q; unfold Asw; omega
  · unfold Asw; omega
  · unfold Asw; omega
theorem SF.row {r a b : Nat} (w : a = 5 ∨ a = 314 ∨ a = 315 ∨ (7 ≤ a ∧ a ≤ 12)) (q : SF r a b) : SRw r a b := by
  rcases q with q | q | q | q | q
  · unfold SSk at q; omega
  · unfold SAp at q; omega
  · exact q
  · omega
  · omega
theorem SF.chn {r a b : Nat} (hr : r < 6) (w : (a = 0 ∧ (b = 14 ∨ b = 15)) ∨ (a = 312 ∧ (b = 3 ∨ b = 4))) (q : SF r a b) : False := by
  rcases q with q | q | q | q | q
  · unfold SSk at q; omega
  · unfold SAp at q; omega
  · unfold SRw at q; omega
  · omega
  · omega
theorem op_best {a1 a2 : Int32} {M : Mm} (h : Rel RDel M) : wp_B_best a1 a2 M (fun r M1 => wp_M_best a1 a2 M1 (fun r2 M2 => r = r2 ∧ Rel RDel M2)) := by
  obtain ⟨C, F, D, L, T, N, V, KL, hd⟩ := h.2.2.2.2.2.2.out
  obtain ⟨hC, hB, hW, hO, hF, hG, hcw⟩ := hd.parts
  have hn := hC.1
  have h60 : F 30 ≤ 60 := Nat.le_trans hd.2.2.1 hd.2.2.2.1.1
  have b1 := hB.1
  have m1 := hW.2.1
  rcases pk_ix a1 (n := 4) (by omega) with g | g | ⟨K, hK, rfl⟩
  · simp (disch := omega) only [fa_lit0, xI_le_T, xI_le_F, xI_lt_T, xI_lt_F, xI_eq_T, xI_eq_F, xN_a, xN_b, xN_c, xN_d, xN_e, xN_f, xN_g, xN_h, xI_add, xI_mul, xI_sub, xI_tn, xI_in, xI_ofNat, gi_si_eq, gi_n1, gi_n2, gl_sl_eq, gl_n1, gl_n2, gi_sl, gl_si, forall_eq, true_implies, false_implies, not_true_eq_false, not_false_eq_true, and_true, true_and, implies_true, and_self, wp_B_best, ng_a g, wp_M_best, wp_M_in]; exact h
  · simp (disch := omega) only [fa_lit0, xI_le_T, xI_le_F, xI_lt_T, xI_lt_F, xI_eq_T, xI_eq_F, xN_a, xN_b, xN_c, xN_d, xN_e, xN_f, xN_g, xN_h, xI_add, xI_mul, xI_sub, xI_tn, xI_in, xI_ofNat, gi_si_eq, gi_n1, gi_n2, gl_sl_eq, gl_n1, gl_n2, gi_sl, gl_si, forall_eq, true_implies, false_implies, not_true_eq_false, not_false_eq_true, and_true, true_and, implies_true, and_self, wp_B_best, bg_a g, bg_b g, bg_c g, wp_M_best, wp_M_in]; exact h
  · rcases pk_ix a2 (n := 6) (by omega) with g | g | ⟨r, hr, rfl⟩
    · simp (disch := omega) only [fa_lit0, xI_le_T, xI_le_F, xI_lt_T, xI_lt_F, xI_eq_T, xI_eq_F, xN_a, xN_b, xN_c, xN_d, xN_e, xN_f, xN_g, xN_h, xI_add, xI_mul, xI_sub, xI_tn, xI_in, xI_ofNat, gi_si_eq, gi_n1, gi_n2, gl_sl_eq, gl_n1, gl_n2, gi_sl, gl_si, forall_eq, true_implies, false_implies, not_true_eq_false, not_false_eq_true, and_true, true_and, implies_true, and_self, wp_B_best, wp_Sh_knows, ng_a g, wp_M_best, wp_M_in, wp_M_isRow, zb_0]; exact h
    · simp (disch := omega) only [fa_lit0, xI_le_T, xI_le_F, xI_lt_T, xI_lt_F, xI_eq_T, xI_eq_F, xN_a, xN_b, xN_c, xN_d, xN_e, xN_f, xN_g, xN_h, xI_add, xI_mul, xI_sub, xI_tn, xI_in, xI_ofNat, gi_si_eq, gi_n1, gi_n2, gl_sl_eq, gl_n1, gl_n2, gi_sl, gl_si, forall_eq, true_implies, false_implies, not_true_eq_false, not_false_eq_true, and_true, true_and, implies_true, and_self, wp_B_best, wp_Sh_knows, bg_a g, bg_b g, bg_c g, shN_4, wp_M_best, wp_M_in, wp_M_isRow, zb_0]; exact h
    · by_cases c : C 0 0 = 0
      · simp (disch := omega) only [fa_lit0, xI_le_T, xI_le_F, xI_lt_T, xI_lt_F, xI_eq_T, xI_eq_F, xN_a, xN_b, xN_c, xN_d, xN_e, xN_f, xN_g, xN_h, xI_add, xI_mul, xI_sub, xI_tn, xI_in, xI_ofNat, gi_si_eq, gi_n1, gi_n2, gl_sl_eq, gl_n1, gl_n2, gi_sl, gl_si, forall_eq, true_implies, false_implies, not_true_eq_false, not_false_eq_true, and_true, true_and, implies_true, and_self, wp_B_best, wp_Sh_knows, shN_4, b1, c, wp_M_best, wp_M_in, wp_M_isRow, zb_1, m1]; exact h
      · simp (disch := omega) only [fa_lit0, xI_le_T, xI_le_F, xI_lt_T, xI_lt_F, xI_eq_T, xI_eq_F, xN_a, xN_b, xN_c, xN_d, xN_e, xN_f, xN_g, xN_h, xI_add, xI_mul, xI_sub, xI_tn, xI_in, xI_ofNat, gi_si_eq, gi_n1, gi_n2, gl_sl_eq, gl_n1, gl_n2, gi_sl, gl_si, forall_eq, true_implies, false_implies, not_true_eq_false, not_false_eq_true, and_true, true_and, implies_true, and_self, wp_B_best, wp_Sh_knows, shN_4, b1]
        have cw := hcw (by omega)
        refine B_seek (tg := 9) cw (Or.inl rfl) (by omega) hF hO h60 (fun M1 s1 cw1 bb1 => ?_)
        have gb := bst_GB (C := C) (tg := 9) (F := F) (show K ≤ 3 by omega)
        have pos : 1 ≤ (bst C 9 K F).1 := br_pos _ _ _ _ _ (br_ge K 0 F (t0 9) 0 (fun _ => 0) (0, 0, fun _ => 0)).2
        have al : ∀ Mx, MW C Mx → FM F Mx 0 → ∀ Q, (∀ M', Sm SAp Mx M' → MW C M' → MBs K (bst C 9 K F) M' → Q M') → wp_M_allPlans (nI K) (-nI 9) Mx Q := fun Mx w f Q hQ => M_allP (tg := 9) w (Or.inl rfl) (by omega) f hO h60 hQ
        generalize bst C 9 K F = b at *
        refine B_take hr (by omega) ((s1.g (by unfold SSk; omega)).trans h.2.2.1.1) (fun M2 s2 e5 e7 => ?_)
        obtain ⟨v1, v2, v3⟩ := bb1
        rw [if_pos rfl, if_neg (by omega)] at v1
        have w1 := (s2.g (a := 40) (b := 1) (by omega)).trans v1
        have w2 := (s2.g (a := 40) (b := 2) (by omega)).trans v2
        simp (disch := omega) only [fa_lit0, xI_le_T, xI_le_F, xI_lt_T, xI_lt_F, xI_eq_T, xI_eq_F, xN_a, xN_b, xN_c, xN_d, xN_e, xN_f, xN_g, xN_h, xI_add, xI_mul, xI_sub, xI_tn, xI_in, xI_ofNat, gi_si_eq, gi_n1, gi_n2, gl_sl_eq, gl_n1, gl_n2, gi_sl, gl_si, forall_eq, true_implies, false_implies, not_true_eq_false, not_false_eq_true, and_true, true_and, implies_true, and_self, w1, w2]
        have t3 : Sm (fun a b => SSk a b ∨ a = 7 + r ∨ (a = 5 ∧ b = r) ∨ (a = 0 ∧ b = 13)) M (si M2 0 13 (nI b.2.1)) := ((s1.mono (fun a b q => Or.inl q)).trans (s2.mono (fun a b q => by omega))).wi (by omega)
        have hz : Sm (fun a b => a = 7 + r ∨ (a = 5 ∧ b = r) ∨ (a = 0 ∧ b = 13)) M1 (si M2 0 13 (nI b.2.1)) := (s2.mono (fun a b q => by omega)).wi (by omega)
        have mw3 : MW C (si M2 0 13 (nI b.2.1)) := hW.sm t3 (fun a b q => by unfold SSk; omega)
        have g3 : FM F (si M2 0 13 (nI b.2.1)) 0 := hG.sm t3 (fun b _ _ => by unfold SSk; omega)
        have e53 : gi (si M2 0 13 (nI b.2.1)) 5 r = nI K := by simp (disch := omega) only [fa_lit0, xI_le_T, xI_le_F, xI_lt_T, xI_lt_F, xI_eq_T, xI_eq_F, xN_a, xN_b, xN_c, xN_d, xN_e, xN_f, xN_g, xN_h, xI_add, xI_mul, xI_sub, xI_tn, xI_in, xI_ofNat, gi_si_eq, gi_n1, gi_n2, gl_sl_eq, gl_n1, gl_n2, gi_sl, gl_si, forall_eq, true_implies, false_implies, not_true_eq_false, not_false_eq_true, and_true, true_and, implies_true, and_self, e5]
        have e73 : ∀ i, i < K → gi (si M2 0 13 (nI b.2.1)) (7 + r) i = nI (b.2.2 i) := fun i hi => by
          rw [gi_n1 (by omega), e7 i hi]; exact v3 pos i hi
        have e13 : gi (si M2 0 13 (nI b.2.1)) 0 13 = nI b.2.1 := gi_si_eq _ _ _ _
        generalize si M2 0 13 (nI b.2.1) = M3 at *
        simp (disch := omega) only [fa_lit0, xI_le_T, xI_le_F, xI_lt_T, xI_lt_F, xI_eq_T, xI_eq_F, xN_a, xN_b, xN_c, xN_d, xN_e, xN_f, xN_g, xN_h, xI_add, xI_mul, xI_sub, xI_tn, xI_in, xI_ofNat, gi_si_eq, gi_n1, gi_n2, gl_sl_eq, gl_n1, gl_n2, gi_sl, gl_si, forall_eq, true_implies, false_implies, not_true_eq_false, not_false_eq_true, and_true, true_and, implies_true, and_self, wp_M_best, wp_M_in, wp_M_isRow, zb_1, mw3.2.1]
        refine al M3 mw3 g3 _ (fun M4 s4 mw4 bb4 => ?_)
        obtain ⟨x1, x2, x3⟩ := bb4
        rw [if_neg (by omega)] at x1
        refine M_layRow hr (by omega) (by omega) (by omega) (fun M5 s5 e314 e315 => ?_)
        have y1 := (s5.g (a := 312) (b := 37) (by omega)).trans x1
        have y2 := (s5.g (a := 312) (b := 38) (by omega)).trans x2
        simp (disch := omega) only [fa_lit0, xI_le_T, xI_le_F, xI_lt_T, xI_lt_F, xI_eq_T, xI_eq_F, xN_a, xN_b, xN_c, xN_d, xN_e, xN_f, xN_g, xN_h, xI_add, xI_mul, xI_sub, xI_tn, xI_in, xI_ofNat, gi_si_eq, gi_n1, gi_n2, gl_sl_eq, gl_n1, gl_n2, gi_sl, gl_si, forall_eq, true_implies, false_implies, not_true_eq_false, not_false_eq_true, and_true, true_and, implies_true, and_self, wp_M_tells, y1, y2]
        have t5 : Sm (SF r) M M5 := ((t3.mono (fun a b q => by
          rcases q with q | q | q | q
          · exact Or.inl q
          · exact Or.inr (Or.inr (Or.inl (Or.inl q)))
          · exact Or.inr (Or.inr (Or.inl (Or.inr (Or.inl q))))
          · exact Or.inr (Or.inr (Or.inr (Or.inl q))))).trans (s4.mono (fun a b q => Or.inr (Or.inl q)))).trans (s5.mono (fun a b q => Or.inr (Or.inr (Or.inl (by unfold SRw; omega)))))
        have t6 : Sm (SF r) M (si M5 312 2 (nI b.2.1)) := t5.wi (Or.inr (Or.inr (Or.inr (Or.inr ⟨rfl, rfl⟩))))
        have u5 : gi M5 5 r = nI K := (s5.g (by omega)).trans ((s4.g (by unfold SAp; omega)).trans e53)
        have u7 : ∀ i, i < K → gi M5 (7 + r) i = nI (b.2.2 i) := fun i hi => (s5.g (by omega)).trans ((s4.g (by unfold SAp; omega)).trans (e73 i hi))
        have u13 : gi M5 0 13 = nI b.2.1 := (s5.g (by omega)).trans ((s4.g (by unfold SAp; omega)).trans e13)
        have u27 : ChS C (si M5 312 2 (nI b.2.1)) := by
          refine cw1.2.2.sm (S := fun a b => SAp a b ∨ SRw r a b ∨ a = 0 ∨ a = 312) ?_ (fun b => by unfold SAp SRw; omega)
          exact (((hz.mono (fun a b q => by unfold SRw; omega)).trans (s4.mono (fun a b q => Or.inl q))).trans (s5.mono (fun a b q => by unfold SRw; omega))).wi (Or.inr (Or.inr (Or.inr rfl)))
        refine h.fin hd (t6.mono (fun a b q => q.asw hr)) (fun _ => u27) ?_ ?_ (h.2.2.2.2.2.1.sm t6 (fun a b q w => w.chn hr q))
        · refine row_new (p := b.2.2) h.1 hr (by omega) t6 (fun a b q w => w.row q) ((gi_n1 (by omega)).trans u5) ((gi_n1 (by omega)).trans e314) (fun i hi => (gi_n1 (by omega)).trans (u7 i hi)) (fun i hi => ?_)
          rw [gi_n1 (by omega), e315 i hi]
          exact x3 pos i hi
        · unfold Rtld
          rw [gi_si_eq, gi_n1 (by omega)]
          exact u13

theorem op_fewest {a1 a2 a3 : Int32} {M : Mm} (h : Rel RDel M) : wp_B_fewest a1 a2 a3 M (fun r M1 => wp_M_fewest a1 a2 a3 M1 (fun r2 M2 => r = r2 ∧ Rel RDel M2)) := by
  obtain ⟨C, F, D, L, T, N, V, KL, hd⟩ := h.2.2.2.2.2.2.out
  obtain ⟨hC, hB, hW, hO, hF, hG, hcw⟩ := hd.parts
  have hn := hC.1
  have h60 : F 30 ≤ 60 := Nat.le_trans hd.2.2.1 hd.2.2.2.1.1
  have b1 := hB.1
  have m1 := hW.2.1
  unfold wp_B_fewest wp_M_fewest
  rcases arm_cases a1 hC.1 with g | ⟨i, hi, rfl⟩
  · refine B_noArm hC.1 hB.1 g ?_
    simp (disch := omega) only [fa_lit0, xI_le_T, xI_le_F, xI_lt_T, xI_lt_F, xI_eq_T, xI_eq_F, xN_a, xN_b, xN_c, xN_d, xN_e, xN_f, xN_g, xN_h, xI_add, xI_mul, xI_sub, xI_tn, xI_in, xI_ofNat, gi_si_eq, gi_n1, gi_n2, gl_sl_eq, gl_n1, gl_n2, gi_sl, gl_si, forall_eq, true_implies, false_implies, not_true_eq_false, not_false_eq_true, and_true, true_and, implies_true, and_self]
    refine M_noArm hC.1 hW.2.1 g ?_
    simp (disch := omega) only [fa_lit0, xI_le_T, xI_le_F, xI_lt_T, xI_lt_F, xI_eq_T, xI_eq_F, xN_a, xN_b, xN_c, xN_d, xN_e, xN_f, xN_g, xN_h, xI_add, xI_mul, xI_sub, xI_tn, xI_in, xI_ofNat, gi_si_eq, gi_n1, gi_n2, gl_sl_eq, gl_n1, gl_n2, gi_sl, gl_si, forall_eq, true_implies, false_implies, not_true_eq_false, not_false_eq_true, and_true, true_and, implies_true, and_self]
    exact h
  · refine B_anArm hC.1 hB.1 hi ?_
    rcases pk_ix a2 (n := 4) (by omega) with g | g | ⟨K, hK, rfl⟩
    · simp (disch := omega) only [fa_lit0, xI_le_T, xI_le_F, xI_lt_T, xI_lt_F, xI_eq_T, xI_eq_F, xN_a, xN_b, xN_c, xN_d, xN_e, xN_f, xN_g, xN_h, xI_add, xI_mul, xI_sub, xI_tn, xI_in, xI_ofNat, gi_si_eq, gi_n1, gi_n2, gl_sl_eq, gl_n1, gl_n2, gi_sl, gl_si, forall_eq, true_implies, false_implies, not_true_eq_false, not_false_eq_true, and_true, true_and, implies_true, and_self, ng_a g]
      refine M_anArm hC.1 hW.2.1 hi ?_
      simp (disch := omega) only [fa_lit0, xI_le_T, xI_le_F, xI_lt_T, xI_lt_F, xI_eq_T, xI_eq_F, xN_a, xN_b, xN_c, xN_d, xN_e, xN_f, xN_g, xN_h, xI_add, xI_mul, xI_sub, xI_tn, xI_in, xI_ofNat, gi_si_eq, gi_n1, gi_n2, gl_sl_eq, gl_n1, gl_n2, gi_sl, gl_si, forall_eq, true_implies, false_implies, not_true_eq_false, not_false_eq_true, and_true, true_and, implies_true, and_self, wp_M_in, ng_a g]
      exact h
    · simp (disch := omega) only [fa_lit0, xI_le_T, xI_le_F, xI_lt_T, xI_lt_F, xI_eq_T, xI_eq_F, xN_a, xN_b, xN_c, xN_d, xN_e, xN_f, xN_g, xN_h, xI_add, xI_mul, xI_sub, xI_tn, xI_in, xI_ofNat, gi_si_eq, gi_n1, gi_n2, gl_sl_eq, gl_n1, gl_n2, gi_sl, gl_si, forall_eq, true_implies, false_implies, not_true_eq_false, not_false_eq_true, and_true, true_and, implies_true, and_self, bg_a g, bg_b g, bg_c g]
      refine M_anArm hC.1 hW.2.1 hi ?_
      simp (disch := omega) only [fa_lit0, xI_le_T, xI_le_F, xI_lt_T, xI_lt_F, xI_eq_T, xI_eq_F, xN_a, xN_b, xN_c, xN_d, xN_e, xN_f, xN_g, xN_h, xI_add, xI_mul, xI_sub, xI_tn, xI_in, xI_ofNat, gi_si_eq, gi_n1, gi_n2, gl_sl_eq, gl_n1, gl_n2, gi_sl, gl_si, forall_eq, true_implies, false_implies, not_true_eq_false, not_false_eq_true, and_true, true_and, implies_true, and_self, wp_M_in, bg_a g, bg_c g]
      exact h
    · rcases pk_ix a3 (n := 6) (by omega) with g | g | ⟨r, hr, rfl⟩
      · simp (disch := omega) only [fa_lit0, xI_le_T, xI_le_F, xI_lt_T, xI_lt_F, xI_eq_T, xI_eq_F, xN_a, xN_b, xN_c, xN_d, xN_e, xN_f, xN_g, xN_h, xI_add, xI_mul, xI_sub, xI_tn, xI_in, xI_ofNat, gi_si_eq, gi_n1, gi_n2, gl_sl_eq, gl_n1, gl_n2, gi_sl, gl_si, forall_eq, true_implies, false_implies, not_true_eq_false, not_false_eq_true, and_true, true_and, implies_true, and_self, wp_Sh_knows, ng_a g]
        refine M_anArm hC.1 hW.2.1 hi ?_
        simp (disch := omega) only [fa_lit0, xI_le_T, xI_le_F, xI_lt_T, xI_lt_F, xI_eq_T, xI_eq_F, xN_a, xN_b, xN_c, xN_d, xN_e, xN_f, xN_g, xN_h, xI_add, xI_mul, xI_sub, xI_tn, xI_in, xI_ofNat, gi_si_eq, gi_n1, gi_n2, gl_sl_eq, gl_n1, gl_n2, gi_sl, gl_si, forall_eq, true_implies, false_implies, not_true_eq_false, not_false_eq_true, and_true, true_and, implies_true, and_self, wp_M_in, wp_M_isRow, ng_a g, zb_0]
        exact h
      · simp (disch := omega) only [fa_lit0, xI_le_T, xI_le_F, xI_lt_T, xI_lt_F, xI_eq_T, xI_eq_F, xN_a, xN_b, xN_c, xN_d, xN_e, xN_f, xN_g, xN_h, xI_add, xI_mul, xI_sub, xI_tn, xI_in, xI_ofNat, gi_si_eq, gi_n1, gi_n2, gl_sl_eq, gl_n1, gl_n2, gi_sl, gl_si, forall_eq, true_implies, false_implies, not_true_eq_false, not_false_eq_true, and_true, true_and, implies_true, and_self, wp_Sh_knows, shN_4, bg_a g, bg_b g, bg_c g]
        refine M_anArm hC.1 hW.2.1 hi ?_
        simp (disch := omega) only [fa_lit0, xI_le_T, xI_le_F, xI_lt_T, xI_lt_F, xI_eq_T, xI_eq_F, xN_a, xN_b, xN_c, xN_d, xN_e, xN_f, xN_g, xN_h, xI_add, xI_mul, xI_sub, xI_tn, xI_in, xI_ofNat, gi_si_eq, gi_n1, gi_n2, gl_sl_eq, gl_n1, gl_n2, gi_sl, gl_si, forall_eq, true_implies, false_implies, not_true_eq_false, not_false_eq_true, and_true, true_and, implies_true, and_self, wp_M_in, wp_M_isRow, bg_a g, bg_c g, zb_0]
        exact h
      · simp (disch := omega) only [fa_lit0, xI_le_T, xI_le_F, xI_lt_T, xI_lt_F, xI_eq_T, xI_eq_F, xN_a, xN_b, xN_c, xN_d, xN_e, xN_f, xN_g, xN_h, xI_add, xI_mul, xI_sub, xI_tn, xI_in, xI_ofNat, gi_si_eq, gi_n1, gi_n2, gl_sl_eq, gl_n1, gl_n2, gi_sl, gl_si, forall_eq, true_implies, false_implies, not_true_eq_false, not_false_eq_true, and_true, true_and, implies_true, and_self, wp_Sh_knows, shN_4]
        have cw := hcw (by omega)
        have eti : nI i = tI i := by unfold tI; rw [if_neg (by omega)]
        have sk : ∀ Q, (∀ M', Sm SSk M M' → CW C M' → BBs i K (bst C i K F) M' → Q M') → wp_Pl_seek 61 (nI K) (nI i) M Q := fun Q hQ => by
          rw [eti]
          exact B_seek (tg := i) cw (Or.inr hi) (by omega) hF hO h60 hQ
        refine sk _ (fun M1 s1 cw1 bb1 => ?_)
        have gb := bst_GB (C := C) (tg := i) (F := F) (show K ≤ 3 by omega)
        have al : ∀ Mx, MW C Mx → FM F Mx 0 → ∀ Q, (∀ M', Sm SAp Mx M' → MW C M' → MBs K (bst C i K F) M' → Q M') → wp_M_allPlans (nI K) (nI i) Mx Q := fun Mx w f Q hQ => by
          rw [eti]
          exact M_allP (tg := i) w (Or.inr hi) (by omega) f hO h60 hQ
        generalize bst C i K F = b at *
        obtain ⟨v1, v2, v3⟩ := bb1
        rw [if_neg (by omega)] at v1
        have gb1 := gb.1
        by_cases z : b.1 = 0
        · simp (disch := omega) only [fa_lit0, xI_le_T, xI_le_F, xI_lt_T, xI_lt_F, xI_eq_T, xI_eq_F, xN_a, xN_b, xN_c, xN_d, xN_e, xN_f, xN_g, xN_h, xI_add, xI_mul, xI_sub, xI_tn, xI_in, xI_ofNat, gi_si_eq, gi_n1, gi_n2, gl_sl_eq, gl_n1, gl_n2, gi_sl, gl_si, forall_eq, true_implies, false_implies, not_true_eq_false, not_false_eq_true, and_true, true_and, implies_true, and_self, v1, z]
          have mw3 : MW C M1 := hW.sm s1 (fun a b q => by unfold SSk; omega)
          have g3 : FM F M1 0 := hG.sm s1 (fun b _ _ => by unfold SSk; omega)
          refine M_anArm hC.1 mw3.2.1 hi ?_
          simp (disch := omega) only [fa_lit0, xI_le_T, xI_le_F, xI_lt_T, xI_lt_F, xI_eq_T, xI_eq_F, xN_a, xN_b, xN_c, xN_d, xN_e, xN_f, xN_g, xN_h, xI_add, xI_mul, xI_sub, xI_tn, xI_in, xI_ofNat, gi_si_eq, gi_n1, gi_n2, gl_sl_eq, gl_n1, gl_n2, gi_sl, gl_si, forall_eq, true_implies, false_implies, not_true_eq_false, not_false_eq_true, and_true, true_and, implies_true, and_self, wp_M_in, wp_M_isRow, zb_1]
          refine al M1 mw3 g3 _ (fun M4 s4 mw4 bb4 => ?_)
          obtain ⟨x1, x2, x3⟩ := bb4
          rw [if_pos z] at x1
          simp (disch := omega) only [fa_lit0, xI_le_T, xI_le_F, xI_lt_T, xI_lt_F, xI_eq_T, xI_eq_F, xN_a, xN_b, xN_c, xN_d, xN_e, xN_f, xN_g, xN_h, xI_add, xI_mul, xI_sub, xI_tn, xI_in, xI_ofNat, gi_si_eq, gi_n1, gi_n2, gl_sl_eq, gl_n1, gl_n2, gi_sl, gl_si, forall_eq, true_implies, false_implies, not_true_eq_false, not_false_eq_true, and_true, true_and, implies_true, and_self, x1]
          have t5 : Sm (fun a b => SSk a b ∨ SAp a b) M M4 := (s1.mono (fun a b q => Or.inl q)).trans (s4.mono (fun a b q => Or.inr q))
          refine h.fin hd (t5.mono (fun a b q => by unfold SSk SAp at q; unfold Asw; omega)) (fun _ => cw1.2.2.sm s4 (fun b => by unfold SAp; omega)) (h.1.sm t5 (fun a b q => by unfold SSk SAp; omega)) (h.2.2.2.2.1.sm t5 (by unfold SSk SAp; omega) (by unfold SSk SAp; omega)) (h.2.2.2.2.2.1.sm t5 (fun a b q => by unfold SSk SAp; omega))
        · have pos : 0 < b.1 := by omega
          simp (disch := omega) only [fa_lit0, xI_le_T, xI_le_F, xI_lt_T, xI_lt_F, xI_eq_T, xI_eq_F, xN_a, xN_b, xN_c, xN_d, xN_e, xN_f, xN_g, xN_h, xI_add, xI_mul, xI_sub, xI_tn, xI_in, xI_ofNat, gi_si_eq, gi_n1, gi_n2, gl_sl_eq, gl_n1, gl_n2, gi_sl, gl_si, forall_eq, true_implies, false_implies, not_true_eq_false, not_false_eq_true, and_true, true_and, implies_true, and_self, v1]
          refine B_take hr (by omega) ((s1.g (by unfold SSk; omega)).trans h.2.2.1.1) (fun M3 s2 e5 e7 => ?_)
          have w2 := (s2.g (a := 40) (b := 2) (by omega)).trans v2
          have t3 : Sm (fun a b => SSk a b ∨ a = 7 + r ∨ (a = 5 ∧ b = r)) M M3 := (s1.mono (fun a b q => Or.inl q)).trans (s2.mono (fun a b q => Or.inr q))
          have mw3 : MW C M3 := hW.sm t3 (fun a b q => by unfold SSk; omega)
          have g3 : FM F M3 0 := hG.sm t3 (fun b _ _ => by unfold SSk; omega)
          have e73 : ∀ i, i < K → gi M3 (7 + r) i = nI (b.2.2 i) := fun i hi => (e7 i hi).trans (v3 pos i hi)
          simp (disch := omega) only [fa_lit0, xI_le_T, xI_le_F, xI_lt_T, xI_lt_F, xI_eq_T, xI_eq_F, xN_a, xN_b, xN_c, xN_d, xN_e, xN_f, xN_g, xN_h, xI_add, xI_mul, xI_sub, xI_tn, xI_in, xI_ofNat, gi_si_eq, gi_n1, gi_n2, gl_sl_eq, gl_n1, gl_n2, gi_sl, gl_si, forall_eq, true_implies, false_implies, not_true_eq_false, not_false_eq_true, and_true, true_and, implies_true, and_self, w2]
          refine M_anArm hC.1 mw3.2.1 hi ?_
          simp (disch := omega) only [fa_lit0, xI_le_T, xI_le_F, xI_lt_T, xI_lt_F, xI_eq_T, xI_eq_F, xN_a, xN_b, xN_c, xN_d, xN_e, xN_f, xN_g, xN_h, xI_add, xI_mul, xI_sub, xI_tn, xI_in, xI_ofNat, gi_si_eq, gi_n1, gi_n2, gl_sl_eq, gl_n1, gl_n2, gi_sl, gl_si, forall_eq, true_implies, false_implies, not_true_eq_false, not_false_eq_true, and_true, true_and, implies_true, and_self, wp_M_in, wp_M_isRow, zb_1]
          refine al M3 mw3 g3 _ (fun M4 s4 mw4 bb4 => ?_)
          obtain ⟨x1, x2, x3⟩ := bb4
          rw [if_neg z] at x1
          simp (disch := omega) only [fa_lit0, xI_le_T, xI_le_F, xI_lt_T, xI_lt_F, xI_eq_T, xI_eq_F, xN_a, xN_b, xN_c, xN_d, xN_e, xN_f, xN_g, xN_h, xI_add, xI_mul, xI_sub, xI_tn, xI_in, xI_ofNat, gi_si_eq, gi_n1, gi_n2, gl_sl_eq, gl_n1, gl_n2, gi_sl, gl_si, forall_eq, true_implies, false_implies, not_true_eq_false, not_false_eq_true, and_true, true_and, implies_true, and_self, x1]
          refine M_layRow hr (by omega) (by omega) (by omega) (fun M5 s5 e314 e315 => ?_)
          have y2 := (s5.g (a := 312) (b := 38) (by omega)).trans x2
          simp (disch := omega) only [fa_lit0, xI_le_T, xI_le_F, xI_lt_T, xI_lt_F, xI_eq_T, xI_eq_F, xN_a, xN_b, xN_c, xN_d, xN_e, xN_f, xN_g, xN_h, xI_add, xI_mul, xI_sub, xI_tn, xI_in, xI_ofNat, gi_si_eq, gi_n1, gi_n2, gl_sl_eq, gl_n1, gl_n2, gi_sl, gl_si, forall_eq, true_implies, false_implies, not_true_eq_false, not_false_eq_true, and_true, true_and, implies_true, and_self, y2]
          have t5 : Sm (SF r) M M5 := ((t3.mono (fun a b q => by
            rcases q with q | q | q
            · exact Or.inl q
            · exact Or.inr (Or.inr (Or.inl (Or.inl q)))
            · exact Or.inr (Or.inr (Or.inl (Or.inr (Or.inl q)))))).trans (s4.mono (fun a b q => Or.inr (Or.inl q)))).trans (s5.mono (fun a b q => Or.inr (Or.inr (Or.inl (by unfold SRw; omega)))))
          have t7 : Rtld M5 := by
            unfold Rtld
            rw [s5.g (a := 0) (b := 13) (by omega), s4.g (a := 0) (b := 13) (by unfold SAp; omega), t3.g (a := 0) (b := 13) (by unfold SSk; omega), s5.g (a := 312) (b := 2) (by omega), s4.g (a := 312) (b := 2) (by unfold SAp; omega), t3.g (a := 312) (b := 2) (by unfold SSk; omega)]
            exact h.2.2.2.2.1
          have u5 : gi M5 5 r = nI K := (s5.g (by omega)).trans ((s4.g (by unfold SAp; omega)).trans e5)
          have u7 : ∀ i, i < K → gi M5 (7 + r) i = nI (b.2.2 i) := fun i hi => (s5.g (by omega)).trans ((s4.g (by unfold SAp; omega)).trans (e73 i hi))
          have u27 : ChS C M5 := by
            refine cw1.2.2.sm (S := fun a b => SAp a b ∨ SRw r a b) ?_ (fun b => by unfold SAp SRw; omega)
            exact ((s2.mono (fun a b q => by unfold SRw; omega)).trans (s4.mono (fun a b q => Or.inl q))).trans (s5.mono (fun a b q => by unfold SRw; omega))
          refine h.fin hd (t5.mono (fun a b q => q.asw hr)) (fun _ => u27) ?_ t7 (h.2.2.2.2.2.1.sm t5 (fun a b q w => w.chn hr q))
          refine row_new (p := b.2.2) h.1 hr (by omega) t5 (fun a b q w => w.row q) u5 e314 u7 (fun i hi => ?_)
          rw [e315 i hi]
          exact x3 pos i hi
