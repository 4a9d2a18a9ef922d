/-! the class loosens -/
theorem wl_0 : ∀ m, m < 32 → ∀ v, v < 5 → m / 2 ^ v % 2 = 0 → m % 2 ^ (v + 1) = m % 2 ^ v := by decide +kernel
theorem wl_1 : ∀ b, b < 5 → ∀ v, v < 5 → ∀ m, m < 32 → m / 2 ^ v % 2 = 1 → lN (8 * rvb (m % 2 ^ v) * 256 ^ (4 - b)) ||| ((1 : Int64) <<< ((nI (39 - (8 * b + v))).toInt64 &&& 63)) = lN (8 * rvb (m % 2 ^ (v + 1)) * 256 ^ (4 - b)) := by decide +kernel
theorem an_n : ∀ n, n ≤ 5 → ∀ s, s < 2 ^ n → ∀ t, t < 32 → (s &&& (31 - t)) < 2 ^ n := by decide +kernel
theorem B_wl {C : Nat → Nat → Nat} {M : Mm} {b R : Nat} (hC : OkC C) (hB : ChB C M) (hb : b < C 0 0) (hR : R < 32) {Q : Int64 → Mm → Prop} (h : Q (lN (8 * rvb (C 6 b &&& (31 - R)) * 256 ^ (4 - b))) M) : wp_Of_waitsLoosened (nI b) (nI R) M Q := by
  have hn := hC.1
  have hw := (hC.2.2 b hb).2.2.2.2.2.1
  have hw' := lt_32 hw hn
  have hm := an_lt _ hw' _ hR
  have hmn := an_n _ hn _ hw _ hR
  have e6 := (hB.2.2 b hb).2.2.2.2.2
  unfold wp_Of_waitsLoosened
  have key : ∀ f v, v + f = C 0 0 → lp_Of_waitsLoosened_5 (nI b) (nI R) Q (f + 1) (lN (8 * rvb ((C 6 b &&& (31 - R)) % 2 ^ v) * 256 ^ (4 - b))) (nI v) M := by
    intro f
    induction f with
    | zero =>
      intro v hv
      have : v = C 0 0 := by omega
      subst this
      show k_Of_waitsLoosened_5 (nI b) (nI R) Q _ _ _ M
      unfold k_Of_waitsLoosened_5
      simp (disch := omega) only [fa_lit0, xI_le_T, xI_le_F, xI_lt_T, xI_lt_F, xI_eq_T, xI_eq_F, xN_a, xN_b, xN_c, xN_d, xN_e, xN_f, xN_g, xN_h, xI_add, xI_mul, xI_sub, xI_tn, xI_in, xI_ofNat, gi_si_eq, gi_n1, gi_n2, gl_sl_eq, gl_n1, gl_n2, gi_sl, gl_si, forall_eq, true_implies, false_implies, not_true_eq_false, not_false_eq_true, and_true, true_and, implies_true, and_self, hB.1]
      rw [Nat.mod_eq_of_lt hmn]
      exact h
    | succ f ih =>
      intro v hv
      show k_Of_waitsLoosened_5 (nI b) (nI R) Q _ _ _ M
      unfold k_Of_waitsLoosened_5
      have ih := ih (v + 1) (by omega)
      simp (disch := omega) only [fa_lit0, xI_le_T, xI_le_F, xI_lt_T, xI_lt_F, xI_eq_T, xI_eq_F, xN_a, xN_b, xN_c, xN_d, xN_e, xN_f, xN_g, xN_h, xI_add, xI_mul, xI_sub, xI_tn, xI_in, xI_ofNat, gi_si_eq, gi_n1, gi_n2, gl_sl_eq, gl_n1, gl_n2, gi_sl, gl_si, forall_eq, true_implies, false_implies, not_true_eq_false, not_false_eq_true, and_true, true_and, implies_true, and_self, hB.1, e6]
      rw [and_not _ hw' _ hR]
      refine B_has hm (by omega) ?_
      by_cases c : (C 6 b &&& (31 - R)) / 2 ^ v % 2 = 1
      · rw [← wl_1 b (by omega) v (by omega) _ hm c] at ih
        simp (disch := omega) only [fa_lit0, xI_le_T, xI_le_F, xI_lt_T, xI_lt_F, xI_eq_T, xI_eq_F, xN_a, xN_b, xN_c, xN_d, xN_e, xN_f, xN_g, xN_h, xI_add, xI_mul, xI_sub, xI_tn, xI_in, xI_ofNat, gi_si_eq, gi_n1, gi_n2, gl_sl_eq, gl_n1, gl_n2, gi_sl, gl_si, forall_eq, true_implies, false_implies, not_true_eq_false, not_false_eq_true, and_true, true_and, implies_true, and_self, c, wp_Of_bitOf, k_Of_waitsLoosened_51]
        exact ih
      · have c0 : (C 6 b &&& (31 - R)) / 2 ^ v % 2 = 0 := by omega
        rw [wl_0 _ hm v (by omega) c0] at ih
        simp (disch := omega) only [fa_lit0, xI_le_T, xI_le_F, xI_lt_T, xI_lt_F, xI_eq_T, xI_eq_F, xN_a, xN_b, xN_c, xN_d, xN_e, xN_f, xN_g, xN_h, xI_add, xI_mul, xI_sub, xI_tn, xI_in, xI_ofNat, gi_si_eq, gi_n1, gi_n2, gl_sl_eq, gl_n1, gl_n2, gi_sl, gl_si, forall_eq, true_implies, false_implies, not_true_eq_false, not_false_eq_true, and_true, true_and, implies_true, and_self, c0, k_Of_waitsLoosened_51]
        exact ih
  refine ⟨C 0 0 + 1, ?_⟩
  have := key (C 0 0) 0 (by omega)
  rw [Nat.pow_zero, Nat.mod_one, rv_0, Nat.mul_zero, Nat.zero_mul] at this
  exact this
theorem lgle {a b : Nat} (ha : a < 2 ^ 63) (hb : b < 2 ^ 63) : (lg_cmp (lN a) (lN b) ≤ nI 0) = (a ≤ b) := propext ((lg_cmp_le _ _).trans (pk_lLE ha hb))
theorem B_better {X Y : Nat → Nat} (hX : ∀ i, i < 5 → X i < 32) (hY : ∀ i, i < 5 → Y i < 32) {M : Mm} {Q : Int32 → Mm → Prop} (h1 : kl X Y → Q (nI 1) M) (h0 : ¬ kl X Y → Q (nI 0) M) : wp_Of_isBetter (lN (vl X)) (lN (vl Y)) M Q := by
  have l1 := ct_le X
  have l2 := ct_le Y
  have v1 := vl_lt X
  have v2 := vl_lt Y
  unfold wp_Of_isBetter
  refine JL_ct hX (JL_ct hY ?_)
  unfold kl at h1 h0
  by_cases c : ct X < ct Y
  · simp (disch := omega) only [fa_lit0, xI_le_T, xI_le_F, xI_lt_T, xI_lt_F, xI_eq_T, xI_eq_F, xN_a, xN_b, xN_c, xN_d, xN_e, xN_f, xN_g, xN_h, xI_add, xI_mul, xI_sub, xI_tn, xI_in, xI_ofNat, gi_si_eq, gi_n1, gi_n2, gl_sl_eq, gl_n1, gl_n2, gi_sl, gl_si, forall_eq, true_implies, false_implies, not_true_eq_false, not_false_eq_true, and_true, true_and, implies_true, and_self, k_Of_isBetter_32]
    exact h1 (Or.inl c)
  · by_cases d : ct X = ct Y
    · simp (disch := omega) only [fa_lit0, xI_le_T, xI_le_F, xI_lt_T, xI_lt_F, xI_eq_T, xI_eq_F, xN_a, xN_b, xN_c, xN_d, xN_e, xN_f, xN_g, xN_h, xI_add, xI_mul, xI_sub, xI_tn, xI_in, xI_ofNat, gi_si_eq, gi_n1, gi_n2, gl_sl_eq, gl_n1, gl_n2, gi_sl, gl_si, forall_eq, true_implies, false_implies, not_true_eq_false, not_false_eq_true, and_true, true_and, implies_true, and_self, k_Of_isBetter_32, lgle]
      by_cases e : vl X ≤ vl Y
      · exact ⟨fun _ => h0 (by omega), fun w => absurd e w⟩
      · exact ⟨fun w => absurd w e, fun _ => h1 (by omega)⟩
    · simp (disch := omega) only [fa_lit0, xI_le_T, xI_le_F, xI_lt_T, xI_lt_F, xI_eq_T, xI_eq_F, xN_a, xN_b, xN_c, xN_d, xN_e, xN_f, xN_g, xN_h, xI_add, xI_mul, xI_sub, xI_tn, xI_in, xI_ofNat, gi_si_eq, gi_n1, gi_n2, gl_sl_eq, gl_n1, gl_n2, gi_sl, gl_si, forall_eq, true_implies, false_implies, not_true_eq_false, not_false_eq_true, and_true, true_and, implies_true, and_self]
      exact h0 (by omega)
theorem B_loos {C : Nat → Nat → Nat} {M : Mm} (hC : OkC C) (hB : ChB C M) {Q : Int64 → Mm → Prop} (hQ : ∀ M', Sm (fun a _ => a = 53) M M' → Q (lN (vl (cb (C 6) (C 0 0) 6 (2 ^ C 0 0 - 1)))) M') : wp_Of_fewestToLoosen M Q := by
  have hn := hC.1
  have hp := p5 hn
  have hp0 : 0 < 2 ^ C 0 0 := Nat.two_pow_pos _
  have hW' : ∀ i, i < C 0 0 → C 6 i < 32 := fun i hi => lt_32 (hC.2.2 i hi).2.2.2.2.2.1 hn
  have row := cb_row hn hW' 5
  have crow : ∀ S b, S < 2 ^ C 0 0 → b < C 0 0 → S / 2 ^ b % 2 = 1 → ∀ i, i < 5 → cand (C 6) (cb (C 6) (C 0 0) 6) S b i < 32 := by
    intro S b hS hb hb2 i hi
    obtain ⟨q1, q2, q3, q4, q5⟩ := k_9 S (by omega) b (by omega) hb2
    unfold cand
    by_cases c : i = b
    · subst c; rw [up_eq]; exact an_lt _ (hW' i hb) _ q1
    · rw [up_ne c]; exact (row _ (by omega) (cnt_5 _) i).1
  unfold wp_Of_fewestToLoosen
  have inner : ∀ (K : Int32 → Mm → Prop) S, S < 2 ^ C 0 0 → S ≠ 0 → (∀ M', Sm (fun a _ => a = 53) M M' → (∀ s, s < S + 1 → gl M' 53 s = lN (vl (cb (C 6) (C 0 0) 6 s))) → K (nI S) M') → ∀ f v M', v + f = C 0 0 → Sm (fun a _ => a = 53) M M' → (∀ s, s < S → gl M' 53 s = lN (vl (cb (C 6) (C 0 0) 6 s))) → ((pk (C 6) (cb (C 6) (C 0 0) 6) S v).1 = 1 → gl M' 53 S = lN (vl (pk (C 6) (cb (C 6) (C 0 0) 6) S v).2)) → lp_Of_fewestToLoosen_24 Q K (f + 1) (nI S) (nI (pk (C 6) (cb (C 6) (C 0 0) 6) S v).1) (nI v) M' := by
    intro K S hS hS0 hK f
    induction f with
    | zero =>
      intro v M' hv s hI hP
      have : v = C 0 0 := by omega
      subst this
      show k_Of_fewestToLoosen_24 Q _ K _ _ _ M'
      unfold k_Of_fewestToLoosen_24
      simp (disch := omega) only [fa_lit0, xI_le_T, xI_le_F, xI_lt_T, xI_lt_F, xI_eq_T, xI_eq_F, xN_a, xN_b, xN_c, xN_d, xN_e, xN_f, xN_g, xN_h, xI_add, xI_mul, xI_sub, xI_tn, xI_in, xI_ofNat, gi_si_eq, gi_n1, gi_n2, gl_sl_eq, gl_n1, gl_n2, gi_sl, gl_si, forall_eq, true_implies, false_implies, not_true_eq_false, not_false_eq_true, and_true, true_and, implies_true, and_self, (s.g (a := 20) (b := 7) (by omega)).trans hB.1]
      refine hK M' s (fun s' hs' => ?_)
      by_cases c : s' = S
      · subst c
        rw [cb_eq hn (by omega)]
        refine hP ?_
        rcases pk_c (C 6) (cb (C 6) (C 0 0) 6) s' (C 0 0) with ⟨_, _, w⟩ | ⟨w, _⟩
        · obtain ⟨b, hb, hb2⟩ := k_13 s' (by omega) hS0
          exact absurd hb2 (w b (bit_n hS hb2))
        · exact w
      · exact hI s' (by omega)
    | succ f ih =>
      intro v M' hv s hI hP
      show k_Of_fewestToLoosen_24 Q _ K _ _ _ M'
      unfold k_Of_fewestToLoosen_24
      have hB' : ChB C M' := hB.sm s (fun a b q => by omega)
      have ih := fun M' => ih (v + 1) M' (by omega)
      simp (disch := omega) only [fa_lit0, xI_le_T, xI_le_F, xI_lt_T, xI_lt_F, xI_eq_T, xI_eq_F, xN_a, xN_b, xN_c, xN_d, xN_e, xN_f, xN_g, xN_h, xI_add, xI_mul, xI_sub, xI_tn, xI_in, xI_ofNat, gi_si_eq, gi_n1, gi_n2, gl_sl_eq, gl_n1, gl_n2, gi_sl, gl_si, forall_eq, true_implies, false_implies, not_true_eq_false, not_false_eq_true, and_true, true_and, implies_true, and_self, hB'.1]
      refine B_has (by omega) (by omega) ?_
      by_cases c : S / 2 ^ v % 2 = 1
      · obtain ⟨q1, q2, q3, q4, q5⟩ := k_9 S (by omega) v (by omega) c
        have ep : pk (C 6) (cb (C 6) (C 0 0) 6) S (v + 1) = (1, if (pk (C 6) (cb (C 6) (C 0 0) 6) S v).1 = 0 ∨ kl (cand (C 6) (cb (C 6) (C 0 0) 6) S v) (pk (C 6) (cb (C 6) (C 0 0) 6) S v).2 then cand (C 6) (cb (C 6) (C 0 0) 6) S v else (pk (C 6) (cb (C 6) (C 0 0) 6) S v).2) := if_pos c
        rw [ep] at ih
        dsimp only at ih
        have z0 : bset S v 0 / 2 ^ v % 2 = 0 := by rw [bset_bit S (by omega) v (by omega) 0 (by omega) v (by omega), if_pos rfl]
        have z1 := (row (bset S v 0) (by omega) (cnt_5 _) v).2 z0
        have ec : lN (vl (cb (C 6) (C 0 0) 6 (bset S v 0))) ||| lN (8 * rvb (C 6 v &&& (31 - bset S v 0)) * 256 ^ (4 - v)) = lN (vl (cand (C 6) (cb (C 6) (C 0 0) 6) S v)) := vl_or (by omega) z1
        simp (disch := omega) only [fa_lit0, xI_le_T, xI_le_F, xI_lt_T, xI_lt_F, xI_eq_T, xI_eq_F, xN_a, xN_b, xN_c, xN_d, xN_e, xN_f, xN_g, xN_h, xI_add, xI_mul, xI_sub, xI_tn, xI_in, xI_ofNat, gi_si_eq, gi_n1, gi_n2, gl_sl_eq, gl_n1, gl_n2, gi_sl, gl_si, forall_eq, true_implies, false_implies, not_true_eq_false, not_false_eq_true, and_true, true_and, implies_true, and_self, c, bset_an S (show S < 32 by omega) v (show v < 5 by omega)]
        refine B_wl hC hB' (by omega) q1 ?_
        simp (disch := omega) only [fa_lit0, xI_le_T, xI_le_F, xI_lt_T, xI_lt_F, xI_eq_T, xI_eq_F, xN_a, xN_b, xN_c, xN_d, xN_e, xN_f, xN_g, xN_h, xI_add, xI_mul, xI_sub, xI_tn, xI_in, xI_ofNat, gi_si_eq, gi_n1, gi_n2, gl_sl_eq, gl_n1, gl_n2, gi_sl, gl_si, forall_eq, true_implies, false_implies, not_true_eq_false, not_false_eq_true, and_true, true_and, implies_true, and_self, hI _ q5, ec, k_Of_fewestToLoosen_87, k_Of_fewestToLoosen_95, k_Of_fewestToLoosen_97]
        have fin1 : (pk (C 6) (cb (C 6) (C 0 0) 6) S v).1 = 0 ∨ kl (cand (C 6) (cb (C 6) (C 0 0) 6) S v) (pk (C 6) (cb (C 6) (C 0 0) 6) S v).2 → lp_Of_fewestToLoosen_24 Q K (f + 1) (nI S) (nI 1) (nI (v + 1)) (sl M' 53 S (lN (vl (cand (C 6) (cb (C 6) (C 0 0) 6) S v)))) := by
          intro w
          rw [if_pos w] at ih
          refine ih _ (s.wl rfl) (fun s' hs' => ?_) (fun _ => gl_sl_eq _ _ _ _)
          rw [gl_n2 (by omega)]; exact hI s' hs'
        rcases pk_c (C 6) (cb (C 6) (C 0 0) 6) S v with ⟨p1, _, _⟩ | ⟨p1, ⟨b, pb, pb2, p2⟩, _⟩
        · simp (disch := omega) only [fa_lit0, xI_le_T, xI_le_F, xI_lt_T, xI_lt_F, xI_eq_T, xI_eq_F, xN_a, xN_b, xN_c, xN_d, xN_e, xN_f, xN_g, xN_h, xI_add, xI_mul, xI_sub, xI_tn, xI_in, xI_ofNat, gi_si_eq, gi_n1, gi_n2, gl_sl_eq, gl_n1, gl_n2, gi_sl, gl_si, forall_eq, true_implies, false_implies, not_true_eq_false, not_false_eq_true, and_true, true_and, implies_true, and_self, p1]
          exact fin1 (Or.inl p1)
        · have hP := hP p1
          simp (disch := omega) only [fa_lit0, xI_le_T, xI_le_F, xI_lt_T, xI_lt_F, xI_eq_T, xI_eq_F, xN_a, xN_b, xN_c, xN_d, xN_e, xN_f, xN_g, xN_h, xI_add, xI_mul, xI_sub, xI_tn, xI_in, xI_ofNat, gi_si_eq, gi_n1, gi_n2, gl_sl_eq, gl_n1, gl_n2, gi_sl, gl_si, forall_eq, true_implies, false_implies, not_true_eq_false, not_false_eq_true, and_true, true_and, implies_true, and_self, p1, hP]
          refine B_better (crow S v hS (by omega) c) ?_ (fun k => ?_) (fun k => ?_)
          · rw [p2]; exact crow S b hS (by omega) pb2
          · simp (disch := omega) only [fa_lit0, xI_le_T, xI_le_F, xI_lt_T, xI_lt_F, xI_eq_T, xI_eq_F, xN_a, xN_b, xN_c, xN_d, xN_e, xN_f, xN_g, xN_h, xI_add, xI_mul, xI_sub, xI_tn, xI_in, xI_ofNat, gi_si_eq, gi_n1, gi_n2, gl_sl_eq, gl_n1, gl_n2, gi_sl, gl_si, forall_eq, true_implies, false_implies, not_true_eq_false, not_false_eq_true, and_true, true_and, implies_true, and_self]
            exact fin1 (Or.inr k)
          · simp (disch := omega) only [fa_lit0, xI_le_T, xI_le_F, xI_lt_T, xI_lt_F, xI_eq_T, xI_eq_F, xN_a, xN_b, xN_c, xN_d, xN_e, xN_f, xN_g, xN_h, xI_add, xI_mul, xI_sub, xI_tn, xI_in, xI_ofNat, gi_si_eq, gi_n1, gi_n2, gl_sl_eq, gl_n1, gl_n2, gi_sl, gl_si, forall_eq, true_implies, false_implies, not_true_eq_false, not_false_eq_true, and_true, true_and, implies_true, and_self]
            rw [if_neg (by omega)] at ih
            exact ih M' s hI (fun _ => hP)
      · have c0 : S / 2 ^ v % 2 = 0 := by omega
        have ep : pk (C 6) (cb (C 6) (C 0 0) 6) S (v + 1) = pk (C 6) (cb (C 6) (C 0 0) 6) S v := if_neg c
        rw [ep] at ih
        simp (disch := omega) only [fa_lit0, xI_le_T, xI_le_F, xI_lt_T, xI_lt_F, xI_eq_T, xI_eq_F, xN_a, xN_b, xN_c, xN_d, xN_e, xN_f, xN_g, xN_h, xI_add, xI_mul, xI_sub, xI_tn, xI_in, xI_ofNat, gi_si_eq, gi_n1, gi_n2, gl_sl_eq, gl_n1, gl_n2, gi_sl, gl_si, forall_eq, true_implies, false_implies, not_true_eq_false, not_false_eq_true, and_true, true_and, implies_true, and_self, c0, k_Of_fewestToLoosen_97]
        exact ih M' s hI hP
  have outer : ∀ (K : Mm → Prop), (∀ M', Sm (fun a _ => a = 53) M M' → (∀ s, s < 2 ^ C 0 0 → gl M' 53 s = lN (vl (cb (C 6) (C 0 0) 6 s))) → K M') → ∀ f v M', v + f = 2 ^ C 0 0 → 1 ≤ v → Sm (fun a _ => a = 53) M M' → (∀ s, s < v → gl M' 53 s = lN (vl (cb (C 6) (C 0 0) 6 s))) → lp_Of_fewestToLoosen_9 Q K (f + 1) (nI v) M' := by
    intro K hK f
    induction f with
    | zero =>
      intro v M' hv h1 s hI
      show k_Of_fewestToLoosen_9 Q _ K _ M'
      unfold k_Of_fewestToLoosen_9
      refine B_sets hC (hB.sm s (fun a b q => by omega)) ?_
      simp (disch := omega) only [fa_lit0, xI_le_T, xI_le_F, xI_lt_T, xI_lt_F, xI_eq_T, xI_eq_F, xN_a, xN_b, xN_c, xN_d, xN_e, xN_f, xN_g, xN_h, xI_add, xI_mul, xI_sub, xI_tn, xI_in, xI_ofNat, gi_si_eq, gi_n1, gi_n2, gl_sl_eq, gl_n1, gl_n2, gi_sl, gl_si, forall_eq, true_implies, false_implies, not_true_eq_false, not_false_eq_true, and_true, true_and, implies_true, and_self]
      exact hK M' s (fun s' hs' => hI s' (by omega))
    | succ f ih =>
      intro v M' hv h1 s hI
      show k_Of_fewestToLoosen_9 Q _ K _ M'
      unfold k_Of_fewestToLoosen_9
      refine B_sets hC (hB.sm s (fun a b q => by omega)) ?_
      simp (disch := omega) only [fa_lit0, xI_le_T, xI_le_F, xI_lt_T, xI_lt_F, xI_eq_T, xI_eq_F, xN_a, xN_b, xN_c, xN_d, xN_e, xN_f, xN_g, xN_h, xI_add, xI_mul, xI_sub, xI_tn, xI_in, xI_ofNat, gi_si_eq, gi_n1, gi_n2, gl_sl_eq, gl_n1, gl_n2, gi_sl, gl_si, forall_eq, true_implies, false_implies, not_true_eq_false, not_false_eq_true, and_true, true_and, implies_true, and_self]
      refine ⟨C 0 0 + 1, inner _ v (by omega) (by omega) ?_ (C 0 0) 0 M' (by omega) s hI (fun w => absurd w Nat.zero_ne_one)⟩
      intro M2 s2 hI2
      simp (disch := omega) only [fa_lit0, xI_le_T, xI_le_F, xI_lt_T, xI_lt_F, xI_eq_T, xI_eq_F, xN_a, xN_b, xN_c, xN_d, xN_e, xN_f, xN_g, xN_h, xI_add, xI_mul, xI_sub, xI_tn, xI_in, xI_ofNat, gi_si_eq, gi_n1, gi_n2, gl_sl_eq, gl_n1, gl_n2, gi_sl, gl_si, forall_eq, true_implies, false_implies, not_true_eq_false, not_false_eq_true, and_true, true_and, implies_true, and_self]
      exact ih (v + 1) M2 (by omega) (by omega) s2 hI2
  simp (disch := omega) only [fa_lit0, xI_le_T, xI_le_F, xI_lt_T, xI_lt_F, xI_eq_T, xI_eq_F, xN_a, xN_b, xN_c, xN_d, xN_e, xN_f, xN_g, xN_h, xI_add, xI_mul, xI_sub, xI_tn, xI_in, xI_ofNat, gi_si_eq, gi_n1, gi_n2, gl_sl_eq, gl_n1, gl_n2, gi_sl, gl_si, forall_eq, true_implies, false_implies, not_true_eq_false, not_false_eq_true, and_true, true_and, implies_true, and_self]
  refine ⟨(2 ^ C 0 0 - 1) + 1, outer _ ?_ (2 ^ C 0 0 - 1) 1 _ (by omega) (by omega) ((Sm.refl (fun a _ => a = 53) M).wl rfl) (fun s hs => ?_)⟩
  · intro M' s hI
    refine B_sets hC (hB.sm s (fun a b q => by omega)) ?_
    simp (disch := omega) only [fa_lit0, xI_le_T, xI_le_F, xI_lt_T, xI_lt_F, xI_eq_T, xI_eq_F, xN_a, xN_b, xN_c, xN_d, xN_e, xN_f, xN_g, xN_h, xI_add, xI_mul, xI_sub, xI_tn, xI_in, xI_ofNat, gi_si_eq, gi_n1, gi_n2, gl_sl_eq, gl_n1, gl_n2, gi_sl, gl_si, forall_eq, true_implies, false_implies, not_true_eq_false, not_false_eq_true, and_true, true_and, implies_true, and_self, hI (2 ^ C 0 0 - 1) (show 2 ^ C 0 0 - 1 < 2 ^ C 0 0 by omega)]
    exact hQ M' s
  · have : s = 0 := by omega
    subst this
    rw [gl_sl_eq, cb_0]
    rfl
/-! a list is laid -/
theorem vs_bit {b : Nat → Nat} (hb : ∀ q, b q ≤ 1) {q : Nat} (hq : q < 40) : vs b 40 / 2 ^ (39 - q) % 2 = b q := by
  have a := vs_b hb (39 - q) (q + 1)
  have s1 : vs b (q + 1) = 2 * vs b q + b q := rfl
  rw [show q + 1 + (39 - q) = 40 by omega] at a
  have e : vs b 40 / 2 ^ (39 - q) = vs b (q + 1) := by
    apply Nat.div_eq_of_lt_le
    · rw [Nat.mul_comm]; exact a.1
    · rw [Nat.mul_comm]; exact a.2
  have := hb q
  omega
theorem bitO : ∀ q, q < 40 → ((1 : Int64) <<< ((nI (39 - q)).toInt64 &&& 63)) = lN (2 ^ (39 - q)) := by decide +kernel
theorem and_pw (x k : Nat) : x &&& 2 ^ k = x / 2 ^ k % 2 * 2 ^ k := by
  apply Nat.eq_of_testBit_eq
  intro j
  rw [Nat.testBit_and, Nat.testBit_two_pow]
  rcases (show x / 2 ^ k % 2 = 0 ∨ x / 2 ^ k % 2 = 1 by omega) with e | e
  · rw [e, Nat.zero_mul, Nat.zero_testBit]
    by_cases c : k = j
    · subst c
      rw [Nat.testBit_eq_decide_div_mod_eq, e]
      rfl
    · rw [decide_eq_false c, Bool.and_false]
  · rw [e, Nat.one_mul, Nat.testBit_two_pow]
    by_cases c : k = j
    · subst c
      rw [Nat.testBit_eq_decide_div_mod_eq, e]
      rfl
    · rw [decide_eq_false c, Bool.and_false]
theorem lN_z {a : Nat} (ha : a < 2 ^ 63) : (lN a = 0) = (a = 0) := propext ⟨fun w => by
  have := congrArg Int64.toInt w
  rw [pk_lT ha] at this
  have e : (0 : Int64).toInt = 0 := rfl
  omega, fun w => by rw [w]; rfl⟩
theorem B_layl {B : Nat → Nat} {r : Nat} (hr : r < 6) (hk : ct B ≤ 40) {Q : Int32 → Mm → Prop} {M0 : Mm} (hQ : ∀ M', Sm (fun a _ => a = 7 + r) M0 M' → LI M' (7 + r) B → Q (nI (ct B)) M') (e5 : gi M0 5 r = nI (ct B)) : ∃ n, lp_B_loosen_44 (nI r) Q n (lN (vl B)) (nI (ct B)) (nI 0) (nI 0) M0 := by
  have r40 := row40 B
  have key : ∀ f q M', q + f = 40 → Sm (fun a _ => a = 7 + r) M0 M' → (∀ p, p < q → be B p = 1 → gi M' (7 + r) (cn (be B) p) = nI p) → lp_B_loosen_44 (nI r) Q (f + 1) (lN (vl B)) (nI (ct B)) (nI (cn (be B) q)) (nI q) M' := by
    intro f
    induction f with
    | zero =>
      intro q M' hq s hI
      have : q = 40 := by omega
      subst this
      show k_B_loosen_44 (nI r) Q _ _ _ _ _ M'
      unfold k_B_loosen_44
      simp (disch := omega) only [fa_lit0, xI_le_T, xI_le_F, xI_lt_T, xI_lt_F, xI_eq_T, xI_eq_F, xN_a, xN_b, xN_c, xN_d, xN_e, xN_f, xN_g, xN_h, xI_add, xI_mul, xI_sub, xI_tn, xI_in, xI_ofNat, gi_si_eq, gi_n1, gi_n2, gl_sl_eq, gl_n1, gl_n2, gi_sl, gl_si, forall_eq, true_implies, false_implies, not_true_eq_false, not_false_eq_true, and_true, true_and, implies_true, and_self]
      exact hQ M' s hI
    | succ f ih =>
      intro q M' hq s hI
      show k_B_loosen_44 (nI r) Q _ _ _ _ _ M'
      unfold k_B_loosen_44
      have vb := vs_bit (be_le B) (show q < 40 by omega)
      rw [r40.2] at vb
      have lp : 2 ^ (39 - q) ≤ 2 ^ 39 := Nat.pow_le_pow_right (by omega) (by omega)
      have ez : (lN (vl B) &&& lN (2 ^ (39 - q)) = 0) = (be B q = 0) := by
        rw [l_and, and_pw, vb, lN_z]
        · have : 0 < 2 ^ (39 - q) := Nat.two_pow_pos _
          apply propext
          constructor
          · intro w
            rcases Nat.mul_eq_zero.mp w with v | v
            · exact v
            · omega
          · intro w; rw [w, Nat.zero_mul]
        · have := be_le B q
          have : be B q * 2 ^ (39 - q) ≤ 1 * 2 ^ (39 - q) := Nat.mul_le_mul_right _ this
          omega
      have cq : cn (be B) (q + 1) = cn (be B) q + be B q := rfl
      simp (disch := omega) only [fa_lit0, xI_le_T, xI_le_F, xI_lt_T, xI_lt_F, xI_eq_T, xI_eq_F, xN_a, xN_b, xN_c, xN_d, xN_e, xN_f, xN_g, xN_h, xI_add, xI_mul, xI_sub, xI_tn, xI_in, xI_ofNat, gi_si_eq, gi_n1, gi_n2, gl_sl_eq, gl_n1, gl_n2, gi_sl, gl_si, forall_eq, true_implies, false_implies, not_true_eq_false, not_false_eq_true, and_true, true_and, implies_true, and_self, wp_Of_bitOf, bitO, lgz, ez]
      by_cases c : be B q = 0
      · refine ⟨fun _ => ?_, fun w => absurd c w⟩
        simp (disch := omega) only [fa_lit0, xI_le_T, xI_le_F, xI_lt_T, xI_lt_F, xI_eq_T, xI_eq_F, xN_a, xN_b, xN_c, xN_d, xN_e, xN_f, xN_g, xN_h, xI_add, xI_mul, xI_sub, xI_tn, xI_in, xI_ofNat, gi_si_eq, gi_n1, gi_n2, gl_sl_eq, gl_n1, gl_n2, gi_sl, gl_si, forall_eq, true_implies, false_implies, not_true_eq_false, not_false_eq_true, and_true, true_and, implies_true, and_self, k_B_loosen_78]
        have := ih (q + 1) M' (by omega) s (fun p hp hb => by
          by_cases d : p = q
          · subst d; omega
          · exact hI p (by omega) hb)
        rw [cq, c, Nat.add_zero] at this
        exact this
      · refine ⟨fun w => absurd w c, fun _ => ?_⟩
        have c1 : be B q = 1 := by have := be_le B q; omega
        have mo := cn_mo (be B) (39 - q) (q + 1)
        rw [show q + 1 + (39 - q) = 40 by omega, r40.1, cq, c1] at mo
        have g5 := (s.g (a := 5) (b := r) (by omega)).trans e5
        simp (disch := omega) only [fa_lit0, xI_le_T, xI_le_F, xI_lt_T, xI_lt_F, xI_eq_T, xI_eq_F, xN_a, xN_b, xN_c, xN_d, xN_e, xN_f, xN_g, xN_h, xI_add, xI_mul, xI_sub, xI_tn, xI_in, xI_ofNat, gi_si_eq, gi_n1, gi_n2, gl_sl_eq, gl_n1, gl_n2, gi_sl, gl_si, forall_eq, true_implies, false_implies, not_true_eq_false, not_false_eq_true, and_true, true_and, implies_true, and_self, wp_Sh_setValue, wp_Sh_hasStretch, wp_Sh_knows, shN_4, shR_4, g5, k_B_loosen_78]
        have := ih (q + 1) (si M' (7 + r) (cn (be B) q) (nI q)) (by omega) (s.wi rfl) (fun p hp hb => by
          by_cases d : p = q
          · subst d; rw [gi_si_eq]
          · have : cn (be B) (p + 1) ≤ cn (be B) q := by
              have := cn_mo (be B) (q - (p + 1)) (p + 1)
              rwa [show p + 1 + (q - (p + 1)) = q by omega] at this
            have e : cn (be B) (p + 1) = cn (be B) p + be B p := rfl
            rw [gi_n2 (by omega)]
            exact hI p (by omega) hb)
        rw [cq, c1] at this
        exact this
  exact ⟨40 + 1, key 40 0 M0 (by omega) (Sm.refl _ M0) (fun p hp => by omega)⟩
theorem B_make {r k : Nat} {M : Mm} (hr : r < 6) (hk : k ≤ 40) (h0 : gi M 4 0 = nI 40) {Q : Mm → Prop} (h : Q (si (fli M (7 + r) 40 (nI 0)) 5 r (nI k))) : wp_Sh_make 4 (nI r) (nI k) (nI 0) M Q := by
  simp (disch := omega) only [fa_lit0, xI_le_T, xI_le_F, xI_lt_T, xI_lt_F, xI_eq_T, xI_eq_F, xN_a, xN_b, xN_c, xN_d, xN_e, xN_f, xN_g, xN_h, xI_add, xI_mul, xI_sub, xI_tn, xI_in, xI_ofNat, gi_si_eq, gi_n1, gi_n2, gl_sl_eq, gl_n1, gl_n2, gi_sl, gl_si, forall_eq, true_implies, false_implies, not_true_eq_false, not_false_eq_true, and_true, true_and, implies_true, and_self, wp_Sh_make, wp_Sh_knows, shN_4, shR_4, h0]
  refine J_fill_ok (by omega) ?_
  exact h
