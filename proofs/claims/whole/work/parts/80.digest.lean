/-! digest -/
def mx (h x : Int64) : Int64 := 31 * h + x
def hC1 (C : Nat → Nat → Nat) (F : Nat → Nat) (D : Nat) (T : Nat → Nat → Nat) (M : Mm) : Nat → Int64
  | 0 => 17
  | w + 1 => mx (hC1 C F D T M w) (nI (cv C F D T M w)).toInt64
def hA (C : Nat → Nat → Nat) (F : Nat → Nat) (i : Nat) (h : Int64) : Nat → Int64
  | 0 => h
  | w + 1 => mx (hA C F i h w) (nI (av C F i w)).toInt64
def hAs (C : Nat → Nat → Nat) (F : Nat → Nat) (h : Int64) : Nat → Int64
  | 0 => h
  | i + 1 => mx (hA C F i (hAs C F h i) 8) (nI (C 6 i)).toInt64
def hK (T : Nat → Nat → Nat) (h : Int64) : Nat → Int64
  | 0 => h
  | k + 1 => mx (hK T h k) (if T k 0 = 0 then -1 else (nI (T k 1)).toInt64)
def hR (g : Nat → Int32) (h : Int64) : Nat → Int64
  | 0 => h
  | i + 1 => mx (hR g h i) (g i).toInt64
/-- rows: sz the sizes, g the places -/
def hRs (sz : Nat → Int32) (g : Nat → Nat → Int32) (h : Int64) : Nat → Int64
  | 0 => h
  | r + 1 => hR (g r) (mx (hRs sz g h r) (sz r).toInt64) (tn (sz r))
theorem hR_cg {g g' : Nat → Int32} {h : Int64} : ∀ m, (∀ i, i < m → g i = g' i) → hR g h m = hR g' h m := by
  intro m
  induction m with
  | zero => intro _; rfl
  | succ m ih =>
    intro w
    show mx (hR g h m) (g m).toInt64 = mx (hR g' h m) (g' m).toInt64
    rw [ih (fun i hi => w i (by omega)), w m (by omega)]
theorem tn_m1 : tn (-nI 1) = 0 := by decide
theorem m1_le {m : Nat} (h : m < 2 ^ 31) : (-nI 1 ≤ nI m) = True := xN_h (by omega) (by omega) h
theorem B_dgOnto {k N R : Nat} {M : Mm} {h0 : Int64} (hN : shN k = N) (hR' : shR k = R) (hN6 : N ≤ 6) (hR60 : R ≤ 60) (hs : ∀ i, i < N → szOk (gi M (k + 1) i) R) {Q : Int64 → Mm → Prop} (h : Q (hRs (gi M (k + 1)) (fun r => gi M (k + 2 + 1 + r)) h0 N) M) : wp_Sh_digestOnto k h0 M Q := by
  have inner : ∀ (K : Int64 → Int32 → Mm → Prop) (r m : Nat) (x : Int64), r < N → m ≤ R → gi M (k + 1) r = nI m → K (hR (gi M (k + 2 + 1 + r)) x m) (nI r) M → ∃ n, lp_Sh_digestOnto_33 k h0 Q K n x (nI r) (nI 0) M := by
    intro K r m x hr hm e hK
    have key : ∀ (d i : Nat), i + d = m → lp_Sh_digestOnto_33 k h0 Q K (d + 1) (hR (gi M (k + 2 + 1 + r)) x i) (nI r) (nI i) M := by
      intro d
      induction d with
      | zero =>
        intro i hi
        have hi : i = m := by omega
        subst hi
        show k_Sh_digestOnto_33 k h0 Q _ K _ _ _ M
        unfold k_Sh_digestOnto_33
        simp (disch := omega) only [fa_lit0, xI_le_T, xI_le_F, xI_lt_T, xI_lt_F, xI_eq_T, xI_eq_F, xN_a, xN_b, xN_c, xN_d, xN_e, xN_f, xN_g, xN_h, xI_add, xI_mul, xI_sub, xI_tn, xI_in, xI_ofNat, gi_si_eq, gi_n1, gi_n2, gl_sl_eq, gl_n1, gl_n2, gi_sl, gl_si, forall_eq, true_implies, false_implies, not_true_eq_false, not_false_eq_true, and_true, true_and, implies_true, and_self, hN, hR', e]
        exact hK
      | succ d ih =>
        intro i hi
        have ih1 := ih (i + 1) (by omega)
        show k_Sh_digestOnto_33 k h0 Q _ K _ _ _ M
        unfold k_Sh_digestOnto_33
        simp (disch := omega) only [fa_lit0, xI_le_T, xI_le_F, xI_lt_T, xI_lt_F, xI_eq_T, xI_eq_F, xN_a, xN_b, xN_c, xN_d, xN_e, xN_f, xN_g, xN_h, xI_add, xI_mul, xI_sub, xI_tn, xI_in, xI_ofNat, gi_si_eq, gi_n1, gi_n2, gl_sl_eq, gl_n1, gl_n2, gi_sl, gl_si, forall_eq, true_implies, false_implies, not_true_eq_false, not_false_eq_true, and_true, true_and, implies_true, and_self, hN, hR', e]
        exact ih1
    exact ⟨_, key m 0 (by omega)⟩
  have inner0 : ∀ (K : Int64 → Int32 → Mm → Prop) (r : Nat) (x : Int64), r < N → gi M (k + 1) r = -nI 1 → K x (nI r) M → ∃ n, lp_Sh_digestOnto_33 k h0 Q K n x (nI r) (nI 0) M := by
    intro K r x hr e hK
    have key : ∀ d, lp_Sh_digestOnto_33 k h0 Q K (d + 1) x (nI r) (nI 0) M := by
      intro d
      show k_Sh_digestOnto_33 k h0 Q _ K _ _ _ M
      unfold k_Sh_digestOnto_33
      simp (disch := omega) only [fa_lit0, xI_le_T, xI_le_F, xI_lt_T, xI_lt_F, xI_eq_T, xI_eq_F, xN_a, xN_b, xN_c, xN_d, xN_e, xN_f, xN_g, xN_h, xI_add, xI_mul, xI_sub, xI_tn, xI_in, xI_ofNat, gi_si_eq, gi_n1, gi_n2, gl_sl_eq, gl_n1, gl_n2, gi_sl, gl_si, forall_eq, true_implies, false_implies, not_true_eq_false, not_false_eq_true, and_true, true_and, implies_true, and_self, hN, e, m1_le]
      exact hK
    exact ⟨_, key 0⟩
  have key : ∀ (d r : Nat), r + d = N → lp_Sh_digestOnto_5 k h0 Q (d + 1) (hRs (gi M (k + 1)) (fun r => gi M (k + 2 + 1 + r)) h0 r) (nI r) M := by
    intro d
    induction d with
    | zero =>
      intro r hr
      have hr : r = N := by omega
      subst hr
      show k_Sh_digestOnto_5 k h0 Q _ _ _ M
      unfold k_Sh_digestOnto_5
      simp (disch := omega) only [fa_lit0, xI_le_T, xI_le_F, xI_lt_T, xI_lt_F, xI_eq_T, xI_eq_F, xN_a, xN_b, xN_c, xN_d, xN_e, xN_f, xN_g, xN_h, xI_add, xI_mul, xI_sub, xI_tn, xI_in, xI_ofNat, gi_si_eq, gi_n1, gi_n2, gl_sl_eq, gl_n1, gl_n2, gi_sl, gl_si, forall_eq, true_implies, false_implies, not_true_eq_false, not_false_eq_true, and_true, true_and, implies_true, and_self, hN]
      exact h
    | succ d ih =>
      intro r hr
      have ih1 := ih (r + 1) (by omega)
      rw [show hRs (gi M (k + 1)) (fun r => gi M (k + 2 + 1 + r)) h0 (r + 1) = hR (gi M (k + 2 + 1 + r)) (mx (hRs (gi M (k + 1)) (fun r => gi M (k + 2 + 1 + r)) h0 r) (gi M (k + 1) r).toInt64) (tn (gi M (k + 1) r)) from rfl] at ih1
      show k_Sh_digestOnto_5 k h0 Q _ _ _ M
      unfold k_Sh_digestOnto_5
      simp (disch := omega) only [fa_lit0, xI_le_T, xI_le_F, xI_lt_T, xI_lt_F, xI_eq_T, xI_eq_F, xN_a, xN_b, xN_c, xN_d, xN_e, xN_f, xN_g, xN_h, xI_add, xI_mul, xI_sub, xI_tn, xI_in, xI_ofNat, gi_si_eq, gi_n1, gi_n2, gl_sl_eq, gl_n1, gl_n2, gi_sl, gl_si, forall_eq, true_implies, false_implies, not_true_eq_false, not_false_eq_true, and_true, true_and, implies_true, and_self, hN]
      rcases hs r (by omega) with e | ⟨m, hm, e⟩
      · rw [e, tn_m1] at ih1
        refine inner0 _ r _ (by omega) e ?_
        simp (disch := omega) only [fa_lit0, xI_le_T, xI_le_F, xI_lt_T, xI_lt_F, xI_eq_T, xI_eq_F, xN_a, xN_b, xN_c, xN_d, xN_e, xN_f, xN_g, xN_h, xI_add, xI_mul, xI_sub, xI_tn, xI_in, xI_ofNat, gi_si_eq, gi_n1, gi_n2, gl_sl_eq, gl_n1, gl_n2, gi_sl, gl_si, forall_eq, true_implies, false_implies, not_true_eq_false, not_false_eq_true, and_true, true_and, implies_true, and_self]
        rw [e]
        exact ih1
      · rw [e, show tn (nI m) = m from nI_clamp (by omega)] at ih1
        refine inner _ r m _ (by omega) hm e ?_
        simp (disch := omega) only [fa_lit0, xI_le_T, xI_le_F, xI_lt_T, xI_lt_F, xI_eq_T, xI_eq_F, xN_a, xN_b, xN_c, xN_d, xN_e, xN_f, xN_g, xN_h, xI_add, xI_mul, xI_sub, xI_tn, xI_in, xI_ofNat, gi_si_eq, gi_n1, gi_n2, gl_sl_eq, gl_n1, gl_n2, gi_sl, gl_si, forall_eq, true_implies, false_implies, not_true_eq_false, not_false_eq_true, and_true, true_and, implies_true, and_self]
        rw [e]
        exact ih1
  exact ⟨_, key N 0 (by omega)⟩
theorem hRs_cg {sz sz' : Nat → Int32} {g g' : Nat → Nat → Int32} {h : Int64} : ∀ n, (∀ r, r < n → sz r = sz' r ∧ ∀ i, i < tn (sz r) → g r i = g' r i) → hRs sz g h n = hRs sz' g' h n := by
  intro n
  induction n with
  | zero => intro _; rfl
  | succ n ih =>
    intro w
    show hR (g n) (mx (hRs sz g h n) (sz n).toInt64) (tn (sz n)) = hR (g' n) (mx (hRs sz' g' h n) (sz' n).toInt64) (tn (sz' n))
    rw [ih (fun r hr => w r (by omega)), ← (w n (by omega)).1]
    exact hR_cg _ (w n (by omega)).2
def S43 (a b : Nat) : Prop := a = 312 ∧ b = 43
theorem M_mix {M M1 : Mm} {x y : Int64} (s : Sm S43 M M1) (e : gl M1 312 43 = x) {Q : Mm → Prop} (h : ∀ M', Sm S43 M M' → gl M' 312 43 = mx x y → Q M') : wp_M_mix y M1 Q := by
  unfold wp_M_mix
  intro z hz
  subst hz
  refine h _ (s.wl ⟨rfl, rfl⟩) ?_
  rw [gl_sl_eq, e]
  rfl
theorem M_digest {C : Nat → Nat → Nat} {F : Nat → Nat} {D : Nat} {L T N V : Nat → Nat → Nat} {KL : Nat → Nat → Nat → Nat} {M : Mm} (h : Rel RDel M) (hd : Sta C F D L T N V KL M) {y z : Int64} (e1 : y = z) (e2 : z = hRs (gi M 317) (fun r i => gi M 318 (60 * r + i)) (hRs (gi M 314) (fun r i => gi M 315 (40 * r + i)) (hK T (hAs C F (mx (hC1 C F D T M 10) (nI (F 30)).toInt64) (C 0 0)) 3) 6) 4) : wp_M_digest M (fun r2 M2 => y = r2 ∧ Rel RDel M2) := by
  obtain ⟨hC, hB, hW, hO, hF, hG, hcw⟩ := hd.parts
  have hn := hC.1
  have rk := hd.2.2.2.2.1
  have cm0 := CM_of h hd
  have w1 : ∀ {M1 : Mm}, Sm S43 M M1 → MW C M1 := fun s => hW.sm s (fun a b w => by unfold S43; omega)
  have g1 : ∀ {M1 : Mm}, Sm S43 M M1 → FM F M1 0 := fun s => hG.sm s (fun b u1 u2 => by unfold S43; omega)
  have c1 : ∀ {M1 : Mm}, Sm S43 M M1 → CM C F D T M M1 := fun {M1} s => ⟨w1 s, g1 s, (s.g (by unfold S43; omega)).trans cm0.2.2.1, fun k hk => ⟨(cm0.2.2.2.1 k hk).1, (s.g (by unfold S43; omega)).trans (cm0.2.2.2.1 k hk).2⟩, fun i hi => ⟨s.g (by unfold S43; omega), (cm0.2.2.2.2.1 i hi).2⟩, fun i hi => ⟨s.g (by unfold S43; omega), (cm0.2.2.2.2.2 i hi).2⟩⟩
  have A1 : ∀ (Q : Int64 → Mm → Prop) (K : Mm → Prop), (∀ M', Sm S43 M M' → gl M' 312 43 = hC1 C F D T M 10 → K M') → ∀ (d w : Nat), w + d = 10 → ∀ M1, Sm S43 M M1 → gl M1 312 43 = hC1 C F D T M w → lp_M_digest_9 Q K (d + 1) (nI w) M1 := by
    intro Q K hK d
    induction d with
    | zero =>
      intro w hw M1 s1 x1
      have hw : w = 10 := by omega
      subst hw
      show k_M_digest_9 Q _ K _ M1
      unfold k_M_digest_9
      simp (disch := omega) only [fa_lit0, xI_le_T, xI_le_F, xI_lt_T, xI_lt_F, xI_eq_T, xI_eq_F, xN_a, xN_b, xN_c, xN_d, xN_e, xN_f, xN_g, xN_h, xI_add, xI_mul, xI_sub, xI_tn, xI_in, xI_ofNat, gi_si_eq, gi_n1, gi_n2, gl_sl_eq, gl_n1, gl_n2, gi_sl, gl_si, forall_eq, true_implies, false_implies, not_true_eq_false, not_false_eq_true, and_true, true_and, implies_true, and_self]
      exact hK M1 s1 x1
    | succ d ih =>
      intro w hw M1 s1 x1
      show k_M_digest_9 Q _ K _ M1
      unfold k_M_digest_9
      simp (disch := omega) only [fa_lit0, xI_le_T, xI_le_F, xI_lt_T, xI_lt_F, xI_eq_T, xI_eq_F, xN_a, xN_b, xN_c, xN_d, xN_e, xN_f, xN_g, xN_h, xI_add, xI_mul, xI_sub, xI_tn, xI_in, xI_ofNat, gi_si_eq, gi_n1, gi_n2, gl_sl_eq, gl_n1, gl_n2, gi_sl, gl_si, forall_eq, true_implies, false_implies, not_true_eq_false, not_false_eq_true, and_true, true_and, implies_true, and_self]
      refine M_counted hO (c1 s1) (by omega) ?_
      refine M_mix s1 x1 fun M2 s2 x2 => ?_
      exact ih (w + 1) (by omega) M2 s2 x2
  have A2i : ∀ (Q : Mm → Prop) (K : Int32 → Mm → Prop) (i : Nat) (x : Int64), i < C 0 0 → (∀ M', Sm S43 M M' → gl M' 312 43 = hA C F i x 8 → K (nI i) M') → ∀ (d w : Nat), w + d = 8 → ∀ M1, Sm S43 M M1 → gl M1 312 43 = hA C F i x w → lp_M_mixDelta_24 Q K (d + 1) (nI i) (nI w) M1 := by
    intro Q K i x hi hK d
    induction d with
    | zero =>
      intro w hw M1 s1 x1
      have hw : w = 8 := by omega
      subst hw
      show k_M_mixDelta_24 Q _ K _ _ M1
      unfold k_M_mixDelta_24
      simp (disch := omega) only [fa_lit0, xI_le_T, xI_le_F, xI_lt_T, xI_lt_F, xI_eq_T, xI_eq_F, xN_a, xN_b, xN_c, xN_d, xN_e, xN_f, xN_g, xN_h, xI_add, xI_mul, xI_sub, xI_tn, xI_in, xI_ofNat, gi_si_eq, gi_n1, gi_n2, gl_sl_eq, gl_n1, gl_n2, gi_sl, gl_si, forall_eq, true_implies, false_implies, not_true_eq_false, not_false_eq_true, and_true, true_and, implies_true, and_self]
      exact hK M1 s1 x1
    | succ d ih =>
      intro w hw M1 s1 x1
      show k_M_mixDelta_24 Q _ K _ _ M1
      unfold k_M_mixDelta_24
      simp (disch := omega) only [fa_lit0, xI_le_T, xI_le_F, xI_lt_T, xI_lt_F, xI_eq_T, xI_eq_F, xN_a, xN_b, xN_c, xN_d, xN_e, xN_f, xN_g, xN_h, xI_add, xI_mul, xI_sub, xI_tn, xI_in, xI_ofNat, gi_si_eq, gi_n1, gi_n2, gl_sl_eq, gl_n1, gl_n2, gi_sl, gl_si, forall_eq, true_implies, false_implies, not_true_eq_false, not_false_eq_true, and_true, true_and, implies_true, and_self]
      refine M_armTells (w1 s1) hO (g1 s1) hi (by omega) ?_
      refine M_mix s1 x1 fun M2 s2 x2 => ?_
      exact ih (w + 1) (by omega) M2 s2 x2
  have A2 : ∀ (Q : Mm → Prop) (K : Mm → Prop) (x : Int64), (∀ M', Sm S43 M M' → gl M' 312 43 = hAs C F x (C 0 0) → K M') → ∀ (d i : Nat), i + d = C 0 0 → ∀ M1, Sm S43 M M1 → gl M1 312 43 = hAs C F x i → lp_M_mixDelta_14 Q K (d + 1) (nI i) M1 := by
    intro Q K x hK d
    induction d with
    | zero =>
      intro i hi M1 s1 x1
      have hi : i = C 0 0 := by omega
      subst hi
      have m1 := (w1 s1).2.1
      show k_M_mixDelta_14 Q _ K _ M1
      unfold k_M_mixDelta_14
      simp (disch := omega) only [fa_lit0, xI_le_T, xI_le_F, xI_lt_T, xI_lt_F, xI_eq_T, xI_eq_F, xN_a, xN_b, xN_c, xN_d, xN_e, xN_f, xN_g, xN_h, xI_add, xI_mul, xI_sub, xI_tn, xI_in, xI_ofNat, gi_si_eq, gi_n1, gi_n2, gl_sl_eq, gl_n1, gl_n2, gi_sl, gl_si, forall_eq, true_implies, false_implies, not_true_eq_false, not_false_eq_true, and_true, true_and, implies_true, and_self, m1]
      exact hK M1 s1 x1
    | succ d ih =>
      intro i hi M1 s1 x1
      have m1 := (w1 s1).2.1
      show k_M_mixDelta_14 Q _ K _ M1
      unfold k_M_mixDelta_14
      simp (disch := omega) only [fa_lit0, xI_le_T, xI_le_F, xI_lt_T, xI_lt_F, xI_eq_T, xI_eq_F, xN_a, xN_b, xN_c, xN_d, xN_e, xN_f, xN_g, xN_h, xI_add, xI_mul, xI_sub, xI_tn, xI_in, xI_ofNat, gi_si_eq, gi_n1, gi_n2, gl_sl_eq, gl_n1, gl_n2, gi_sl, gl_si, forall_eq, true_implies, false_implies, not_true_eq_false, not_false_eq_true, and_true, true_and, implies_true, and_self, m1]
      refine ⟨_, A2i Q _ i (hAs C F x i) (by omega) ?_ 8 0 (by omega) M1 s1 x1⟩
      intro M2 s2 x2
      have k6 := ((w1 s2).2.2.2 i (by omega)).2.2.2.2.2
      simp (disch := omega) only [fa_lit0, xI_le_T, xI_le_F, xI_lt_T, xI_lt_F, xI_eq_T, xI_eq_F, xN_a, xN_b, xN_c, xN_d, xN_e, xN_f, xN_g, xN_h, xI_add, xI_mul, xI_sub, xI_tn, xI_in, xI_ofNat, gi_si_eq, gi_n1, gi_n2, gl_sl_eq, gl_n1, gl_n2, gi_sl, gl_si, forall_eq, true_implies, false_implies, not_true_eq_false, not_false_eq_true, and_true, true_and, implies_true, and_self, k6]
      refine M_mix s2 x2 fun M3 s3 x3 => ?_
      exact ih (i + 1) (by omega) M3 s3 x3
  have A3 : ∀ (Q : Mm → Prop) (x : Int64), (∀ M', Sm S43 M M' → gl M' 312 43 = hK T x 3 → Q M') → ∀ (d k : Nat), k + d = 3 → ∀ M1, Sm S43 M M1 → gl M1 312 43 = hK T x k → lp_M_mixDelta_66 Q (d + 1) (nI k) M1 := by
    intro Q x hQ d
    induction d with
    | zero =>
      intro k hk M1 s1 x1
      have hk : k = 3 := by omega
      subst hk
      show k_M_mixDelta_66 Q _ _ M1
      unfold k_M_mixDelta_66
      simp (disch := omega) only [fa_lit0, xI_le_T, xI_le_F, xI_lt_T, xI_lt_F, xI_eq_T, xI_eq_F, xN_a, xN_b, xN_c, xN_d, xN_e, xN_f, xN_g, xN_h, xI_add, xI_mul, xI_sub, xI_tn, xI_in, xI_ofNat, gi_si_eq, gi_n1, gi_n2, gl_sl_eq, gl_n1, gl_n2, gi_sl, gl_si, forall_eq, true_implies, false_implies, not_true_eq_false, not_false_eq_true, and_true, true_and, implies_true, and_self]
      exact hQ M1 s1 x1
    | succ d ih =>
      intro k hk M1 s1 x1
      have ih1 := ih (k + 1) (by omega)
      rw [show hK T x (k + 1) = mx (hK T x k) (if T k 0 = 0 then -1 else (nI (T k 1)).toInt64) from rfl] at ih1
      obtain ⟨k1, k2, k3, k4⟩ := rk k (by omega)
      have k3' := (s1.g (a := 330) (b := k) (by unfold S43; omega)).trans k3
      show k_M_mixDelta_66 Q _ _ M1
      unfold k_M_mixDelta_66
      rcases (show T k 0 = 0 ∨ T k 0 = 1 by omega) with c | c
      · rw [if_pos c] at ih1
        simp (disch := omega) only [fa_lit0, xI_le_T, xI_le_F, xI_lt_T, xI_lt_F, xI_eq_T, xI_eq_F, xN_a, xN_b, xN_c, xN_d, xN_e, xN_f, xN_g, xN_h, xI_add, xI_mul, xI_sub, xI_tn, xI_in, xI_ofNat, gi_si_eq, gi_n1, gi_n2, gl_sl_eq, gl_n1, gl_n2, gi_sl, gl_si, forall_eq, true_implies, false_implies, not_true_eq_false, not_false_eq_true, and_true, true_and, implies_true, and_self, k3', c, k_M_mixDelta_94]
        refine M_mix s1 x1 fun M2 s2 x2 => ?_
        exact ih1 M2 s2 x2
      · rw [if_neg (by omega)] at ih1
        have e2 := (s1.g (a := 331) (b := k) (by unfold S43; omega)).trans (k4 c).2.2.1
        simp (disch := omega) only [fa_lit0, xI_le_T, xI_le_F, xI_lt_T, xI_lt_F, xI_eq_T, xI_eq_F, xN_a, xN_b, xN_c, xN_d, xN_e, xN_f, xN_g, xN_h, xI_add, xI_mul, xI_sub, xI_tn, xI_in, xI_ofNat, gi_si_eq, gi_n1, gi_n2, gl_sl_eq, gl_n1, gl_n2, gi_sl, gl_si, forall_eq, true_implies, false_implies, not_true_eq_false, not_false_eq_true, and_true, true_and, implies_true, and_self, k3', c, k_M_mixDelta_94, e2]
        refine M_mix s1 x1 fun M2 s2 x2 => ?_
        exact ih1 M2 s2 x2
  have A4i : ∀ (Q : Int64 → Mm → Prop) (K : Int32 → Mm → Prop) (r : Nat) (x : Int64), r < 6 → (∀ M', Sm S43 M M' → gl M' 312 43 = hR (fun i => gi M 315 (40 * r + i)) x (tn (gi M 314 r)) → K (nI r) M') → ∀ M1, Sm S43 M M1 → gl M1 312 43 = x → ∃ n, lp_M_digest_56 Q K n (nI r) (nI 0) M1 := by
    intro Q K r x hr hK M1 s1 x1
    rcases (h.1 r hr).2.1 with e | ⟨m, hm, e⟩
    · rw [e, tn_m1] at hK
      have e' := (s1.g (a := 314) (b := r) (by unfold S43; omega)).trans e
      have key : ∀ d, lp_M_digest_56 Q K (d + 1) (nI r) (nI 0) M1 := by
        intro d
        show k_M_digest_56 Q _ K _ _ M1
        unfold k_M_digest_56
        simp (disch := omega) only [fa_lit0, xI_le_T, xI_le_F, xI_lt_T, xI_lt_F, xI_eq_T, xI_eq_F, xN_a, xN_b, xN_c, xN_d, xN_e, xN_f, xN_g, xN_h, xI_add, xI_mul, xI_sub, xI_tn, xI_in, xI_ofNat, gi_si_eq, gi_n1, gi_n2, gl_sl_eq, gl_n1, gl_n2, gi_sl, gl_si, forall_eq, true_implies, false_implies, not_true_eq_false, not_false_eq_true, and_true, true_and, implies_true, and_self, e', m1_le]
        exact hK M1 s1 x1
      exact ⟨_, key 0⟩
    · rw [e, show tn (nI m) = m from nI_clamp (by omega)] at hK
      have key : ∀ (d i : Nat), i + d = m → ∀ M1, Sm S43 M M1 → gl M1 312 43 = hR (fun i => gi M 315 (40 * r + i)) x i → lp_M_digest_56 Q K (d + 1) (nI r) (nI i) M1 := by
        intro d
        induction d with
        | zero =>
          intro i hi M1 s1 x1
          have hi : i = m := by omega
          subst hi
          have e' := (s1.g (a := 314) (b := r) (by unfold S43; omega)).trans e
          show k_M_digest_56 Q _ K _ _ M1
          unfold k_M_digest_56
          simp (disch := omega) only [fa_lit0, xI_le_T, xI_le_F, xI_lt_T, xI_lt_F, xI_eq_T, xI_eq_F, xN_a, xN_b, xN_c, xN_d, xN_e, xN_f, xN_g, xN_h, xI_add, xI_mul, xI_sub, xI_tn, xI_in, xI_ofNat, gi_si_eq, gi_n1, gi_n2, gl_sl_eq, gl_n1, gl_n2, gi_sl, gl_si, forall_eq, true_implies, false_implies, not_true_eq_false, not_false_eq_true, and_true, true_and, implies_true, and_self, e']
          exact hK M1 s1 x1
        | succ d ih =>
          intro i hi M1 s1 x1
          have e' := (s1.g (a := 314) (b := r) (by unfold S43; omega)).trans e
          have v := s1.g (a := 315) (b := 40 * r + i) (by unfold S43; omega)
          show k_M_digest_56 Q _ K _ _ M1
          unfold k_M_digest_56
          simp (disch := omega) only [fa_lit0, xI_le_T, xI_le_F, xI_lt_T, xI_lt_F, xI_eq_T, xI_eq_F, xN_a, xN_b, xN_c, xN_d, xN_e, xN_f, xN_g, xN_h, xI_add, xI_mul, xI_sub, xI_tn, xI_in, xI_ofNat, gi_si_eq, gi_n1, gi_n2, gl_sl_eq, gl_n1, gl_n2, gi_sl, gl_si, forall_eq, true_implies, false_implies, not_true_eq_false, not_false_eq_true, and_true, true_and, implies_true, and_self, e', wp_M_rowAt, v]
          refine M_mix s1 x1 fun M2 s2 x2 => ?_
          exact ih (i + 1) (by omega) M2 s2 x2
      exact ⟨_, key m 0 (by omega) M1 s1 x1⟩
  have A4 : ∀ (Q : Int64 → Mm → Prop) (K : Mm → Prop) (x : Int64), (∀ M', Sm S43 M M' → gl M' 312 43 = hRs (gi M 314) (fun r i => gi M 315 (40 * r + i)) x 6 → K M') → ∀ (d r : Nat), r + d = 6 → ∀ M1, Sm S43 M M1 → gl M1 312 43 = hRs (gi M 314) (fun r i => gi M 315 (40 * r + i)) x r → lp_M_digest_37 Q K (d + 1) (nI r) M1 := by
    intro Q K x hK d
    induction d with
    | zero =>
      intro r hr M1 s1 x1
      have hr : r = 6 := by omega
      subst hr
      show k_M_digest_37 Q _ K _ M1
      unfold k_M_digest_37
      simp (disch := omega) only [fa_lit0, xI_le_T, xI_le_F, xI_lt_T, xI_lt_F, xI_eq_T, xI_eq_F, xN_a, xN_b, xN_c, xN_d, xN_e, xN_f, xN_g, xN_h, xI_add, xI_mul, xI_sub, xI_tn, xI_in, xI_ofNat, gi_si_eq, gi_n1, gi_n2, gl_sl_eq, gl_n1, gl_n2, gi_sl, gl_si, forall_eq, true_implies, false_implies, not_true_eq_false, not_false_eq_true, and_true, true_and, implies_true, and_self]
      exact hK M1 s1 x1
    | succ d ih =>
      intro r hr M1 s1 x1
      have v := s1.g (a := 314) (b := r) (by unfold S43; omega)
      show k_M_digest_37 Q _ K _ M1
      unfold k_M_digest_37
      simp (disch := omega) only [fa_lit0, xI_le_T, xI_le_F, xI_lt_T, xI_lt_F, xI_eq_T, xI_eq_F, xN_a, xN_b, xN_c, xN_d, xN_e, xN_f, xN_g, xN_h, xI_add, xI_mul, xI_sub, xI_tn, xI_in, xI_ofNat, gi_si_eq, gi_n1, gi_n2, gl_sl_eq, gl_n1, gl_n2, gi_sl, gl_si, forall_eq, true_implies, false_implies, not_true_eq_false, not_false_eq_true, and_true, true_and, implies_true, and_self, v]
      refine M_mix s1 x1 fun M2 s2 x2 => ?_
      refine A4i Q _ r _ (by omega) ?_ M2 s2 x2
      intro M3 s3 x3
      simp (disch := omega) only [fa_lit0, xI_le_T, xI_le_F, xI_lt_T, xI_lt_F, xI_eq_T, xI_eq_F, xN_a, xN_b, xN_c, xN_d, xN_e, xN_f, xN_g, xN_h, xI_add, xI_mul, xI_sub, xI_tn, xI_in, xI_ofNat, gi_si_eq, gi_n1, gi_n2, gl_sl_eq, gl_n1, gl_n2, gi_sl, gl_si, forall_eq, true_implies, false_implies, not_true_eq_false, not_false_eq_true, and_true, true_and, implies_true, and_self]
      exact ih (r + 1) (by omega) M3 s3 x3
  have A5i : ∀ (Q : Int64 → Mm → Prop) (K : Int32 → Mm → Prop) (r : Nat) (x : Int64), r < 4 → (∀ M', Sm S43 M M' → gl M' 312 43 = hR (fun i => gi M 318 (60 * r + i)) x (tn (gi M 317 r)) → K (nI r) M') → ∀ M1, Sm S43 M M1 → gl M1 312 43 = x → ∃ n, lp_M_digest_109 Q K n (nI r) (nI 0) M1 := by
    intro Q K r x hr hK M1 s1 x1
    rcases (h.2.1 r hr).2.1 with e | ⟨m, hm, e⟩
    · rw [e, tn_m1] at hK
      have e' := (s1.g (a := 317) (b := r) (by unfold S43; omega)).trans e
      have key : ∀ d, lp_M_digest_109 Q K (d + 1) (nI r) (nI 0) M1 := by
        intro d
        show k_M_digest_109 Q _ K _ _ M1
        unfold k_M_digest_109
        simp (disch := omega) only [fa_lit0, xI_le_T, xI_le_F, xI_lt_T, xI_lt_F, xI_eq_T, xI_eq_F, xN_a, xN_b, xN_c, xN_d, xN_e, xN_f, xN_g, xN_h, xI_add, xI_mul, xI_sub, xI_tn, xI_in, xI_ofNat, gi_si_eq, gi_n1, gi_n2, gl_sl_eq, gl_n1, gl_n2, gi_sl, gl_si, forall_eq, true_implies, false_implies, not_true_eq_false, not_false_eq_true, and_true, true_and, implies_true, and_self, e', m1_le]
        exact hK M1 s1 x1
      exact ⟨_, key 0⟩
    · rw [e, show tn (nI m) = m from nI_clamp (by omega)] at hK
      have key : ∀ (d i : Nat), i + d = m → ∀ M1, Sm S43 M M1 → gl M1 312 43 = hR (fun i => gi M 318 (60 * r + i)) x i → lp_M_digest_109 Q K (d + 1) (nI r) (nI i) M1 := by
        intro d
        induction d with
        | zero =>
          intro i hi M1 s1 x1
          have hi : i = m := by omega
          subst hi
          have e' := (s1.g (a := 317) (b := r) (by unfold S43; omega)).trans e
          show k_M_digest_109 Q _ K _ _ M1
          unfold k_M_digest_109
          simp (disch := omega) only [fa_lit0, xI_le_T, xI_le_F, xI_lt_T, xI_lt_F, xI_eq_T, xI_eq_F, xN_a, xN_b, xN_c, xN_d, xN_e, xN_f, xN_g, xN_h, xI_add, xI_mul, xI_sub, xI_tn, xI_in, xI_ofNat, gi_si_eq, gi_n1, gi_n2, gl_sl_eq, gl_n1, gl_n2, gi_sl, gl_si, forall_eq, true_implies, false_implies, not_true_eq_false, not_false_eq_true, and_true, true_and, implies_true, and_self, e']
          exact hK M1 s1 x1
        | succ d ih =>
          intro i hi M1 s1 x1
          have e' := (s1.g (a := 317) (b := r) (by unfold S43; omega)).trans e
          have v := s1.g (a := 318) (b := 60 * r + i) (by unfold S43; omega)
          show k_M_digest_109 Q _ K _ _ M1
          unfold k_M_digest_109
          simp (disch := omega) only [fa_lit0, xI_le_T, xI_le_F, xI_lt_T, xI_lt_F, xI_eq_T, xI_eq_F, xN_a, xN_b, xN_c, xN_d, xN_e, xN_f, xN_g, xN_h, xI_add, xI_mul, xI_sub, xI_tn, xI_in, xI_ofNat, gi_si_eq, gi_n1, gi_n2, gl_sl_eq, gl_n1, gl_n2, gi_sl, gl_si, forall_eq, true_implies, false_implies, not_true_eq_false, not_false_eq_true, and_true, true_and, implies_true, and_self, e', wp_M_byteAt, v]
          refine M_mix s1 x1 fun M2 s2 x2 => ?_
          exact ih (i + 1) (by omega) M2 s2 x2
      exact ⟨_, key m 0 (by omega) M1 s1 x1⟩
  have A5 : ∀ (Q : Int64 → Mm → Prop) (x : Int64), (∀ M', Sm S43 M M' → Q (hRs (gi M 317) (fun r i => gi M 318 (60 * r + i)) x 4) M') → ∀ (d r : Nat), r + d = 4 → ∀ M1, Sm S43 M M1 → gl M1 312 43 = hRs (gi M 317) (fun r i => gi M 318 (60 * r + i)) x r → lp_M_digest_91 Q (d + 1) (nI r) M1 := by
    intro Q x hQ d
    induction d with
    | zero =>
      intro r hr M1 s1 x1
      have hr : r = 4 := by omega
      subst hr
      show k_M_digest_91 Q _ _ M1
      unfold k_M_digest_91
      simp (disch := omega) only [fa_lit0, xI_le_T, xI_le_F, xI_lt_T, xI_lt_F, xI_eq_T, xI_eq_F, xN_a, xN_b, xN_c, xN_d, xN_e, xN_f, xN_g, xN_h, xI_add, xI_mul, xI_sub, xI_tn, xI_in, xI_ofNat, gi_si_eq, gi_n1, gi_n2, gl_sl_eq, gl_n1, gl_n2, gi_sl, gl_si, forall_eq, true_implies, false_implies, not_true_eq_false, not_false_eq_true, and_true, true_and, implies_true, and_self]
      rw [x1]
      exact hQ M1 s1
    | succ d ih =>
      intro r hr M1 s1 x1
      have v := s1.g (a := 317) (b := r) (by unfold S43; omega)
      show k_M_digest_91 Q _ _ M1
      unfold k_M_digest_91
      simp (disch := omega) only [fa_lit0, xI_le_T, xI_le_F, xI_lt_T, xI_lt_F, xI_eq_T, xI_eq_F, xN_a, xN_b, xN_c, xN_d, xN_e, xN_f, xN_g, xN_h, xI_add, xI_mul, xI_sub, xI_tn, xI_in, xI_ofNat, gi_si_eq, gi_n1, gi_n2, gl_sl_eq, gl_n1, gl_n2, gi_sl, gl_si, forall_eq, true_implies, false_implies, not_true_eq_false, not_false_eq_true, and_true, true_and, implies_true, and_self, v]
      refine M_mix s1 x1 fun M2 s2 x2 => ?_
      refine A5i Q _ r _ (by omega) ?_ M2 s2 x2
      intro M3 s3 x3
      simp (disch := omega) only [fa_lit0, xI_le_T, xI_le_F, xI_lt_T, xI_lt_F, xI_eq_T, xI_eq_F, xN_a, xN_b, xN_c, xN_d, xN_e, xN_f, xN_g, xN_h, xI_add, xI_mul, xI_sub, xI_tn, xI_in, xI_ofNat, gi_si_eq, gi_n1, gi_n2, gl_sl_eq, gl_n1, gl_n2, gi_sl, gl_si, forall_eq, true_implies, false_implies, not_true_eq_false, not_false_eq_true, and_true, true_and, implies_true, and_self]
      exact ih (r + 1) (by omega) M3 s3 x3
  unfold wp_M_digest
  simp (disch := omega) only [fa_lit0, xI_le_T, xI_le_F, xI_lt_T, xI_lt_F, xI_eq_T, xI_eq_F, xN_a, xN_b, xN_c, xN_d, xN_e, xN_f, xN_g, xN_h, xI_add, xI_mul, xI_sub, xI_tn, xI_in, xI_ofNat, gi_si_eq, gi_n1, gi_n2, gl_sl_eq, gl_n1, gl_n2, gi_sl, gl_si, forall_eq, true_implies, false_implies, not_true_eq_false, not_false_eq_true, and_true, true_and, implies_true, and_self]
  refine ⟨_, A1 _ _ ?_ 10 0 (by omega) _ ((Sm.refl _ M).wl ⟨rfl, rfl⟩) (gl_sl_eq _ _ _ _)⟩
  intro M1 s1 x1
  unfold wp_M_mixDelta
  have r30 : gi M1 327 30 = nI (F 30) := (g1 s1) 30 (by omega)
  simp (disch := omega) only [fa_lit0, xI_le_T, xI_le_F, xI_lt_T, xI_lt_F, xI_eq_T, xI_eq_F, xN_a, xN_b, xN_c, xN_d, xN_e, xN_f, xN_g, xN_h, xI_add, xI_mul, xI_sub, xI_tn, xI_in, xI_ofNat, gi_si_eq, gi_n1, gi_n2, gl_sl_eq, gl_n1, gl_n2, gi_sl, gl_si, forall_eq, true_implies, false_implies, not_true_eq_false, not_false_eq_true, and_true, true_and, implies_true, and_self, r30]
  refine M_mix s1 x1 fun M2 s2 x2 => ?_
  refine ⟨_, A2 _ _ _ ?_ (C 0 0) 0 (by omega) M2 s2 x2⟩
  intro M3 s3 x3
  refine ⟨_, A3 _ _ ?_ 3 0 (by omega) M3 s3 x3⟩
  intro M4 s4 x4
  refine ⟨_, A4 _ _ _ ?_ 6 0 (by omega) M4 s4 x4⟩
  intro M5 s5 x5
  refine ⟨_, A5 _ _ ?_ 4 0 (by omega) M5 s5 x5⟩
  intro M6 s6
  refine ⟨e1.trans e2, ?_⟩
  refine Rel.fin h hd (s6.mono (fun a b w => ?_)) (fun hp => ?_) ?_ ?_ ?_
  · unfold S43 at w; unfold Asw; omega
  · exact (hcw hp).2.2.sm s6 (fun b => by unfold S43; omega)
  · exact h.1.sm s6 (fun a b w => by unfold S43; omega)
  · exact h.2.2.2.2.1.sm s6 (by unfold S43; omega) (by unfold S43; omega)
  · exact h.2.2.2.2.2.1.sm s6 (fun a b w => by unfold S43; omega)
theorem op_digest {M : Mm} (h : Rel RDel M) : wp_B_digest M (fun r M1 => wp_M_digest M1 (fun r2 M2 => r = r2 ∧ Rel RDel M2)) := by
  obtain ⟨C, F, D, L, T, N, V, KL, hd⟩ := h.2.2.2.2.2.2.out
  obtain ⟨hC, hB, hW, hO, hF, hG, hcw⟩ := hd.parts
  have hn := hC.1
  have b1 := hB.1
  have rk := hd.2.2.2.2.1
  unfold wp_B_digest
  have B1 : ∀ (Q : Int64 → Mm → Prop) (K : Int64 → Mm → Prop), K (hC1 C F D T M 10) M → ∃ n, lp_B_digest_6 Q K n 17 (nI 0) M := by
    intro Q K hK
    have key : ∀ (d w : Nat), w + d = 10 → lp_B_digest_6 Q K (d + 1) (hC1 C F D T M w) (nI w) M := by
      intro d
      induction d with
      | zero =>
        intro w hw
        have hw : w = 10 := by omega
        subst hw
        show k_B_digest_6 Q _ K _ _ M
        unfold k_B_digest_6
        simp (disch := omega) only [fa_lit0, xI_le_T, xI_le_F, xI_lt_T, xI_lt_F, xI_eq_T, xI_eq_F, xN_a, xN_b, xN_c, xN_d, xN_e, xN_f, xN_g, xN_h, xI_add, xI_mul, xI_sub, xI_tn, xI_in, xI_ofNat, gi_si_eq, gi_n1, gi_n2, gl_sl_eq, gl_n1, gl_n2, gi_sl, gl_si, forall_eq, true_implies, false_implies, not_true_eq_false, not_false_eq_true, and_true, true_and, implies_true, and_self]
        exact hK
      | succ d ih =>
        intro w hw
        have ih1 := ih (w + 1) (by omega)
        show k_B_digest_6 Q _ K _ _ M
        unfold k_B_digest_6
        simp (disch := omega) only [fa_lit0, xI_le_T, xI_le_F, xI_lt_T, xI_lt_F, xI_eq_T, xI_eq_F, xN_a, xN_b, xN_c, xN_d, xN_e, xN_f, xN_g, xN_h, xI_add, xI_mul, xI_sub, xI_tn, xI_in, xI_ofNat, gi_si_eq, gi_n1, gi_n2, gl_sl_eq, gl_n1, gl_n2, gi_sl, gl_si, forall_eq, true_implies, false_implies, not_true_eq_false, not_false_eq_true, and_true, true_and, implies_true, and_self]
        refine B_count h hd (by omega) ?_
        exact ih1
    exact ⟨_, key 10 0 (by omega)⟩
  have B2 : ∀ (Q : Int64 → Mm → Prop) (K : Int64 → Mm → Prop) (x : Int64), K (hAs C F x (C 0 0)) M → ∃ n, lp_B_digest_51 Q K n x (nI 0) M := by
    intro Q K x hK
    have inner : ∀ (K : Int64 → Int32 → Mm → Prop) (i : Nat) (y : Int64), i < C 0 0 → K (hA C F i y 8) (nI i) M → ∃ n, lp_B_digest_65 Q K n y (nI i) (nI 0) M := by
      intro K i y hi hK
      have key : ∀ (d w : Nat), w + d = 8 → lp_B_digest_65 Q K (d + 1) (hA C F i y w) (nI i) (nI w) M := by
        intro d
        induction d with
        | zero =>
          intro w hw
          have hw : w = 8 := by omega
          subst hw
          show k_B_digest_65 Q _ K _ _ _ M
          unfold k_B_digest_65
          simp (disch := omega) only [fa_lit0, xI_le_T, xI_le_F, xI_lt_T, xI_lt_F, xI_eq_T, xI_eq_F, xN_a, xN_b, xN_c, xN_d, xN_e, xN_f, xN_g, xN_h, xI_add, xI_mul, xI_sub, xI_tn, xI_in, xI_ofNat, gi_si_eq, gi_n1, gi_n2, gl_sl_eq, gl_n1, gl_n2, gi_sl, gl_si, forall_eq, true_implies, false_implies, not_true_eq_false, not_false_eq_true, and_true, true_and, implies_true, and_self]
          exact hK
        | succ d ih =>
          intro w hw
          have ih1 := ih (w + 1) (by omega)
          show k_B_digest_65 Q _ K _ _ _ M
          unfold k_B_digest_65
          simp (disch := omega) only [fa_lit0, xI_le_T, xI_le_F, xI_lt_T, xI_lt_F, xI_eq_T, xI_eq_F, xN_a, xN_b, xN_c, xN_d, xN_e, xN_f, xN_g, xN_h, xI_add, xI_mul, xI_sub, xI_tn, xI_in, xI_ofNat, gi_si_eq, gi_n1, gi_n2, gl_sl_eq, gl_n1, gl_n2, gi_sl, gl_si, forall_eq, true_implies, false_implies, not_true_eq_false, not_false_eq_true, and_true, true_and, implies_true, and_self]
          refine B_armTells hC hB hO hF hi (by omega) ?_
          exact ih1
      exact ⟨_, key 8 0 (by omega)⟩
    have key : ∀ (d i : Nat), i + d = C 0 0 → lp_B_digest_51 Q K (d + 1) (hAs C F x i) (nI i) M := by
      intro d
      induction d with
      | zero =>
        intro i hi
        have hi : i = C 0 0 := by omega
        subst hi
        show k_B_digest_51 Q _ K _ _ M
        unfold k_B_digest_51
        simp (disch := omega) only [fa_lit0, xI_le_T, xI_le_F, xI_lt_T, xI_lt_F, xI_eq_T, xI_eq_F, xN_a, xN_b, xN_c, xN_d, xN_e, xN_f, xN_g, xN_h, xI_add, xI_mul, xI_sub, xI_tn, xI_in, xI_ofNat, gi_si_eq, gi_n1, gi_n2, gl_sl_eq, gl_n1, gl_n2, gi_sl, gl_si, forall_eq, true_implies, false_implies, not_true_eq_false, not_false_eq_true, and_true, true_and, implies_true, and_self, b1]
        exact hK
      | succ d ih =>
        intro i hi
        have ih1 := ih (i + 1) (by omega)
        have k6 := (hB.2.2 i (by omega)).2.2.2.2.2
        show k_B_digest_51 Q _ K _ _ M
        unfold k_B_digest_51
        simp (disch := omega) only [fa_lit0, xI_le_T, xI_le_F, xI_lt_T, xI_lt_F, xI_eq_T, xI_eq_F, xN_a, xN_b, xN_c, xN_d, xN_e, xN_f, xN_g, xN_h, xI_add, xI_mul, xI_sub, xI_tn, xI_in, xI_ofNat, gi_si_eq, gi_n1, gi_n2, gl_sl_eq, gl_n1, gl_n2, gi_sl, gl_si, forall_eq, true_implies, false_implies, not_true_eq_false, not_false_eq_true, and_true, true_and, implies_true, and_self, b1]
        refine inner _ i _ (by omega) ?_
        simp (disch := omega) only [fa_lit0, xI_le_T, xI_le_F, xI_lt_T, xI_lt_F, xI_eq_T, xI_eq_F, xN_a, xN_b, xN_c, xN_d, xN_e, xN_f, xN_g, xN_h, xI_add, xI_mul, xI_sub, xI_tn, xI_in, xI_ofNat, gi_si_eq, gi_n1, gi_n2, gl_sl_eq, gl_n1, gl_n2, gi_sl, gl_si, forall_eq, true_implies, false_implies, not_true_eq_false, not_false_eq_true, and_true, true_and, implies_true, and_self, k6]
        exact ih1
    exact ⟨_, key (C 0 0) 0 (by omega)⟩
  have B3 : ∀ (Q : Int64 → Mm → Prop) (K : Int64 → Mm → Prop) (x : Int64), K (hK T x 3) M → ∃ n, lp_B_digest_118 Q K n x (nI 0) M := by
    intro Q K x hKK
    have key : ∀ (d k : Nat), k + d = 3 → lp_B_digest_118 Q K (d + 1) (hK T x k) (nI k) M := by
      intro d
      induction d with
      | zero =>
        intro k hk
        have hk : k = 3 := by omega
        subst hk
        show k_B_digest_118 Q _ K _ _ M
        unfold k_B_digest_118
        simp (disch := omega) only [fa_lit0, xI_le_T, xI_le_F, xI_lt_T, xI_lt_F, xI_eq_T, xI_eq_F, xN_a, xN_b, xN_c, xN_d, xN_e, xN_f, xN_g, xN_h, xI_add, xI_mul, xI_sub, xI_tn, xI_in, xI_ofNat, gi_si_eq, gi_n1, gi_n2, gl_sl_eq, gl_n1, gl_n2, gi_sl, gl_si, forall_eq, true_implies, false_implies, not_true_eq_false, not_false_eq_true, and_true, true_and, implies_true, and_self]
        exact hKK
      | succ d ih =>
        intro k hk
        have ih1 := ih (k + 1) (by omega)
        rw [show hK T x (k + 1) = mx (hK T x k) (if T k 0 = 0 then -1 else (nI (T k 1)).toInt64) from rfl] at ih1
        obtain ⟨k1, k2, k3, k4⟩ := rk k (by omega)
        show k_B_digest_118 Q _ K _ _ M
        unfold k_B_digest_118
        rcases (show T k 0 = 0 ∨ T k 0 = 1 by omega) with c | c
        · rw [if_pos c] at ih1
          simp (disch := omega) only [fa_lit0, xI_le_T, xI_le_F, xI_lt_T, xI_lt_F, xI_eq_T, xI_eq_F, xN_a, xN_b, xN_c, xN_d, xN_e, xN_f, xN_g, xN_h, xI_add, xI_mul, xI_sub, xI_tn, xI_in, xI_ofNat, gi_si_eq, gi_n1, gi_n2, gl_sl_eq, gl_n1, gl_n2, gi_sl, gl_si, forall_eq, true_implies, false_implies, not_true_eq_false, not_false_eq_true, and_true, true_and, implies_true, and_self, k2, c, k_B_digest_156]
          exact ih1
        · rw [if_neg (by omega)] at ih1
          have e2 := (k4 c).2.1
          simp (disch := omega) only [fa_lit0, xI_le_T, xI_le_F, xI_lt_T, xI_lt_F, xI_eq_T, xI_eq_F, xN_a, xN_b, xN_c, xN_d, xN_e, xN_f, xN_g, xN_h, xI_add, xI_mul, xI_sub, xI_tn, xI_in, xI_ofNat, gi_si_eq, gi_n1, gi_n2, gl_sl_eq, gl_n1, gl_n2, gi_sl, gl_si, forall_eq, true_implies, false_implies, not_true_eq_false, not_false_eq_true, and_true, true_and, implies_true, and_self, k2, c, k_B_digest_156, stOf_k (show k < 3 by omega), e2]
          exact ih1
    exact ⟨_, key 3 0 (by omega)⟩
  have f17 : (17 : Int64) = 17 := rfl
  simp (disch := omega) only [fa_lit0, xI_le_T, xI_le_F, xI_lt_T, xI_lt_F, xI_eq_T, xI_eq_F, xN_a, xN_b, xN_c, xN_d, xN_e, xN_f, xN_g, xN_h, xI_add, xI_mul, xI_sub, xI_tn, xI_in, xI_ofNat, gi_si_eq, gi_n1, gi_n2, gl_sl_eq, gl_n1, gl_n2, gi_sl, gl_si, forall_eq, true_implies, false_implies, not_true_eq_false, not_false_eq_true, and_true, true_and, implies_true, and_self]
  refine B1 _ _ ?_
  simp (disch := omega) only [fa_lit0, xI_le_T, xI_le_F, xI_lt_T, xI_lt_F, xI_eq_T, xI_eq_F, xN_a, xN_b, xN_c, xN_d, xN_e, xN_f, xN_g, xN_h, xI_add, xI_mul, xI_sub, xI_tn, xI_in, xI_ofNat, gi_si_eq, gi_n1, gi_n2, gl_sl_eq, gl_n1, gl_n2, gi_sl, gl_si, forall_eq, true_implies, false_implies, not_true_eq_false, not_false_eq_true, and_true, true_and, implies_true, and_self, hF.1]
  refine B2 _ _ _ (B3 _ _ _ ?_)
  refine B_dgOnto (k := 4) (N := 6) (R := 40) rfl rfl (by omega) (by omega) (fun i hi => by rw [(h.1 i hi).1]; exact (h.1 i hi).2.1) ?_
  refine B_dgOnto (k := 13) (N := 4) (R := 60) rfl rfl (by omega) (by omega) (fun i hi => by rw [(h.2.1 i hi).1]; exact (h.2.1 i hi).2.1) ?_
  have a1 : ∀ x, hRs (gi M 5) (fun r => gi M (7 + r)) x 6 = hRs (gi M 314) (fun r i => gi M 315 (40 * r + i)) x 6 := by
    intro x
    refine hRs_cg 6 (fun r hr => ⟨(h.1 r hr).1, fun i hi => ?_⟩)
    rw [(h.1 r hr).1] at hi
    rcases (h.1 r hr).2.1 with e | ⟨m, hm, e⟩
    · rw [e, tn_m1] at hi; omega
    · rw [e, show tn (nI m) = m from nI_clamp (by omega)] at hi
      exact (h.1 r hr).2.2 i m e hm hi
  have a2 : ∀ x, hRs (gi M 14) (fun r => gi M (16 + r)) x 4 = hRs (gi M 317) (fun r i => gi M 318 (60 * r + i)) x 4 := by
    intro x
    refine hRs_cg 4 (fun r hr => ⟨(h.2.1 r hr).1, fun i hi => ?_⟩)
    rw [(h.2.1 r hr).1] at hi
    rcases (h.2.1 r hr).2.1 with e | ⟨m, hm, e⟩
    · rw [e, tn_m1] at hi; omega
    · rw [e, show tn (nI m) = m from nI_clamp (by omega)] at hi
      exact (h.2.1 r hr).2.2 i m e hm hi
  refine M_digest h hd (Eq.trans (a2 _) ?_) rfl
  exact congrArg (fun x => hRs (gi M 317) (fun r i => gi M 318 (60 * r + i)) x 4) (a1 _)
