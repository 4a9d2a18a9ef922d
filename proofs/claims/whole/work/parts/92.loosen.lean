theorem op_loosen {a1 : Int32} {M : Mm} (h : Rel RDel M) : wp_B_loosen a1 M (fun r M1 => wp_M_loosen a1 M1 (fun r2 M2 => r = r2 ∧ Rel RDel M2)) := by
  obtain ⟨C, F, D, L, T, N, V, KL, hd⟩ := h.2.2.2.2.2.2.out
  obtain ⟨hC, hB, hW, hO, hF, hG, hcw⟩ := hd.parts
  have hn := hC.1
  have hp5 := p5 hn
  have hp0 : 0 < 2 ^ C 0 0 := Nat.two_pow_pos _
  have hWW : ∀ i, i < C 0 0 → C 6 i < 2 ^ C 0 0 ∧ C 6 i / 2 ^ i % 2 = 0 := fun i hi => (hC.2.2 i hi).2.2.2.2.2
  have hW' : ∀ i, i < C 0 0 → C 6 i < 32 := fun i hi => lt_32 (hWW i hi).1 hn
  rcases pk_ix a1 (n := 6) (by omega) with g | g | ⟨r, hr, rfl⟩
  · simp (disch := omega) only [fa_lit0, xI_le_T, xI_le_F, xI_lt_T, xI_lt_F, xI_eq_T, xI_eq_F, xN_a, xN_b, xN_c, xN_d, xN_e, xN_f, xN_g, xN_h, xI_add, xI_mul, xI_sub, xI_tn, xI_in, xI_ofNat, gi_si_eq, gi_n1, gi_n2, gl_sl_eq, gl_n1, gl_n2, gi_sl, gl_si, forall_eq, true_implies, false_implies, not_true_eq_false, not_false_eq_true, and_true, true_and, implies_true, and_self, wp_B_loosen, wp_Sh_knows, wp_M_loosen, wp_M_isRow, wp_M_in, ng_a g, zb_0]; exact h
  · simp (disch := omega) only [fa_lit0, xI_le_T, xI_le_F, xI_lt_T, xI_lt_F, xI_eq_T, xI_eq_F, xN_a, xN_b, xN_c, xN_d, xN_e, xN_f, xN_g, xN_h, xI_add, xI_mul, xI_sub, xI_tn, xI_in, xI_ofNat, gi_si_eq, gi_n1, gi_n2, gl_sl_eq, gl_n1, gl_n2, gi_sl, gl_si, forall_eq, true_implies, false_implies, not_true_eq_false, not_false_eq_true, and_true, true_and, implies_true, and_self, wp_B_loosen, wp_Sh_knows, wp_M_loosen, wp_M_isRow, wp_M_in, bg_a g, bg_b g, bg_c g, zb_0, shN_4]; exact h
  · simp (disch := omega) only [fa_lit0, xI_le_T, xI_le_F, xI_lt_T, xI_lt_F, xI_eq_T, xI_eq_F, xN_a, xN_b, xN_c, xN_d, xN_e, xN_f, xN_g, xN_h, xI_add, xI_mul, xI_sub, xI_tn, xI_in, xI_ofNat, gi_si_eq, gi_n1, gi_n2, gl_sl_eq, gl_n1, gl_n2, gi_sl, gl_si, forall_eq, true_implies, false_implies, not_true_eq_false, not_false_eq_true, and_true, true_and, implies_true, and_self, wp_B_loosen, wp_Sh_knows, shN_4]
    refine B_loos hC hB (fun M1 s1 => ?_)
    have row := cb_row hn hW' 5 (2 ^ C 0 0 - 1) (by omega) (cnt_5 _)
    obtain ⟨R, R1, R2, R3⟩ := cb_up hn hWW 5 (2 ^ C 0 0 - 1) (by omega) (cnt_5 _)
    have fb : ∀ i, i < C 0 0 → (2 ^ C 0 0 - 1) / 2 ^ i % 2 = 1 := fun i hi => by rw [k_full _ hn i (by omega), if_pos hi]
    have pc : ∀ n, n ≤ 5 → cnt (2 ^ n - 1) 5 = n := by decide +kernel
    have hp : prm (C 0 0) R := ⟨fun i hi => by have := R1 i hi (fb i hi); rw [pc _ hn] at this; exact this, fun i j hi hj hne => R2 i j hi hj (fb i hi) (fb j hj) hne⟩
    obtain ⟨kk1, kk2⟩ := key_cg R3
    have c20 := bk_20 hn hWW R (S := 2 ^ C 0 0 - 1) (by omega)
    rw [← kk1] at c20
    have low : ∀ R', prm (C 0 0) R' → le2 (cb (C 6) (C 0 0) 6 (2 ^ C 0 0 - 1)) (bk (C 6) (C 0 0) R' (2 ^ C 0 0 - 1)) := fun R' hp' => cb_low hn hWW hp'.2 5 _ (by omega) (cnt_5 _)
    generalize cb (C 6) (C 0 0) 6 (2 ^ C 0 0 - 1) = B at *
    refine JL_ct (fun i _ => (row i).1) ?_
    have h40 : gi M1 4 0 = nI 40 := (s1.g (by omega)).trans h.2.2.1.1
    refine B_make hr (by omega) h40 ?_
    have s2 : Sm (fun a b => a = 53 ∨ a = 7 + r ∨ (a = 5 ∧ b = r)) M (si (fli M1 (7 + r) 40 (nI 0)) 5 r (nI (ct B))) := by
      refine Sm.wi (fun a b q => ?_) (Or.inr (Or.inr ⟨rfl, rfl⟩))
      rw [gi_fli_ne (by omega), gl_fli]
      exact s1 a b (by omega)
    refine B_layl hr (by omega) (fun M2 s3 l7 => ?_) (gi_si_eq _ _ _ _)
    have e5 : gi M2 5 r = nI (ct B) := (s3.g (by omega)).trans (gi_si_eq _ _ _ _)
    have s4 : Sm (fun a b => a = 53 ∨ a = 7 + r ∨ (a = 5 ∧ b = r)) M M2 := s2.trans (s3.mono (fun a b q => by omega))
    clear s3 s2 s1 h40
    simp (disch := omega) only [fa_lit0, xI_le_T, xI_le_F, xI_lt_T, xI_lt_F, xI_eq_T, xI_eq_F, xN_a, xN_b, xN_c, xN_d, xN_e, xN_f, xN_g, xN_h, xI_add, xI_mul, xI_sub, xI_tn, xI_in, xI_ofNat, gi_si_eq, gi_n1, gi_n2, gl_sl_eq, gl_n1, gl_n2, gi_sl, gl_si, forall_eq, true_implies, false_implies, not_true_eq_false, not_false_eq_true, and_true, true_and, implies_true, and_self, wp_M_loosen, wp_M_isRow, wp_M_in, zb_1]
    have s5 : Sm (fun a b => a = 53 ∨ a = 7 + r ∨ (a = 5 ∧ b = r) ∨ SO a b) M (si M2 312 42 (nI 100)) := (s4.mono (fun a b q => by omega)).wi (Or.inr (Or.inr (Or.inr (Or.inl ⟨rfl, rfl⟩))))
    refine M_orders hC 8 0 0 (fun _ => 0) (si M2 312 42 (nI 100)) (100, 0) _ (by omega) (by omega) (hW.sm s5 (fun a b q => by unfold SO; omega)) (fun i hi => by omega) (fun i j hi => by omega) (by omega) (fun v hv => ?_) (Or.inl ⟨rfl, gi_si_eq _ _ _ _⟩) (fun M3 c3 s6 _ hM3 hl3 hall hex => ?_)
    · rw [Nat.zero_div]
      constructor
      · intro w; omega
      · rintro ⟨i, hi, _⟩; omega
    have lR := hall R (fun i hi => by omega) hp
    rw [← kk1, ← kk2] at lR
    have ne : ∃ R', prm (C 0 0) R' ∧ c3 = (ct (bk (C 6) (C 0 0) R' (2 ^ C 0 0 - 1)), vl (bk (C 6) (C 0 0) R' (2 ^ C 0 0 - 1))) := by
      rcases hex with w | w
      · rw [w] at lR
        unfold leP at lR
        dsimp only at lR
        omega
      · exact w
    obtain ⟨R', p', e'⟩ := ne
    have l2 := low R' p'
    have ec : c3 = (ct B, vl B) := by
      rw [e'] at lR ⊢
      unfold leP at lR
      unfold le2 at l2
      dsimp only at lR
      have a1 : ct (bk (C 6) (C 0 0) R' (2 ^ C 0 0 - 1)) = ct B := by omega
      have a2 : vl (bk (C 6) (C 0 0) R' (2 ^ C 0 0 - 1)) = vl B := by omega
      rw [a1, a2]
    rw [ec] at hM3
    rcases hM3 with ⟨m1, _⟩ | ⟨B', m1, m2, m3, m4⟩
    · have : ct B = 100 := congrArg Prod.fst m1
      omega
    · have q1 : ct B = ct B' := congrArg Prod.fst m2
      have q2 : vl B = vl B' := congrArg Prod.snd m2
      rw [← q1] at m3
      rw [m3]
      refine M_layRow hr (by omega) (by omega) (by omega) (fun M4 s7 e314 e315 => ?_)
      have e42 := (s7.g (a := 312) (b := 42) (by omega)).trans m3
      have t1 : Sm (fun a b => a = 53 ∨ a = 7 + r ∨ (a = 5 ∧ b = r) ∨ SO a b ∨ (a = 314 ∧ b = r) ∨ (a = 315 ∧ 40 * r ≤ b ∧ b < 40 * r + 40)) M M4 := ((s5.mono (fun a b q => by unfold SO at *; omega)).trans (s6.mono (fun a b q => Or.inr (Or.inr (Or.inr (Or.inl q)))))).trans (s7.mono (fun a b q => Or.inr (Or.inr (Or.inr (Or.inr q)))))
      refine ⟨e42.symm, h.fin hd (t1.mono (fun a b q => by unfold SO at q; unfold Asw; omega)) (fun hn => (hcw hn).2.2.sm t1 (fun b => by unfold SO; omega)) ?_ (h.2.2.2.2.1.sm t1 (by unfold SO; omega) (by unfold SO; omega)) (h.2.2.2.2.2.1.sm t1 (fun a b q => by unfold SO; omega))⟩
      intro r' hr'
      obtain ⟨g1, g2, g3⟩ := h.1 r' hr'
      by_cases er : r' = r
      · subst er
        have u5 : gi M4 5 r' = nI (ct B) := (s7.g (by omega)).trans ((s6.g (by unfold SO; omega)).trans ((gi_n1 (by omega)).trans e5))
        refine ⟨u5.trans e314.symm, Or.inr ⟨ct B, by omega, e314⟩, fun i m hm h4 hi => ?_⟩
        have em : ct B = m := by
          rw [e314] at hm
          exact (nI_eq (by omega) (by omega)).mp hm
        obtain ⟨p, p1, p2, p3⟩ := cn_sj (be_le B) 40 i (by rw [(row40 B).1]; omega)
        have v1 : gi M4 (7 + r') i = nI p := by
          rw [s7.g (by omega), s6.g (by unfold SO; omega), gi_n1 (by omega), ← p3]
          exact l7 p p1 p2
        have bq := vl_inj q2
        have v2 : gi M3 338 i = nI p := by
          have := m4 p p1 (by rw [← bq p p1]; exact p2)
          rwa [← (cn_eq p (fun x hx => bq x (by omega))).1, p3] at this
        rw [v1, e315 i (by omega), v2]
      · rw [t1.g (a := 5) (b := r') (by unfold SO; omega), t1.g (a := 314) (b := r') (by unfold SO; omega)]
        refine ⟨g1, g2, fun i m hm h4 hi => ?_⟩
        rw [t1.g (a := 7 + r') (by unfold SO; omega), t1.g (a := 315) (by unfold SO; omega)]
        exact g3 i m hm h4 hi
