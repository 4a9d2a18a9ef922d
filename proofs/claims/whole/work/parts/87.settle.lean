/-! settle -/
theorem lgz (a : Int64) : (lg_cmp a 0 = nI 0) = (a = 0) := propext (lg_cmp_eq a 0)
theorem k_low : ∀ v, v < 32 → v ≠ 0 → ∃ i, i < 5 ∧ v / 2 ^ i % 2 = 1 ∧ ∀ j, j < i → v / 2 ^ j % 2 = 0 := by decide +kernel
theorem k_one : ∀ v, v < 32 → ∀ i, i < 5 → ∀ j, j < 5 → (v / 2 ^ i % 2 = 1 → v / 2 ^ j % 2 = bset v i 0 / 2 ^ j % 2 + 2 ^ i / 2 ^ j % 2) := by decide +kernel
theorem k_pw : ∀ m, m < 5 → ∀ j, j < 5 → 2 ^ m / 2 ^ j % 2 = if j = m then 1 else 0 := by decide +kernel
theorem k_full : ∀ n, n ≤ 5 → ∀ j, j < 5 → (2 ^ n - 1) / 2 ^ j % 2 = if j < n then 1 else 0 := by decide +kernel
theorem bit_n {n v b : Nat} (hv : v < 2 ^ n) (h : v / 2 ^ b % 2 = 1) : b < n := by
  refine Classical.byContradiction fun w => ?_
  have : v / 2 ^ b = 0 := Nat.div_eq_of_lt (Nat.lt_of_lt_of_le hv (Nat.pow_le_pow_right (by omega) (by omega)))
  rw [this] at h
  omega
theorem sg_pw (X : Nat → Int64) {n i : Nat} (hn : n ≤ 5) (hi : i < n) : sg X (2 ^ i) n = X i := by
  have : ∀ k, k ≤ n → sg X (2 ^ i) k = if i < k then X i else 0 := by
    intro k
    induction k with
    | zero => intro _; rfl
    | succ k ih =>
      intro hk
      show sg X (2 ^ i) k + _ = _
      rw [ih (by omega), k_pw i (by omega) k (by omega)]
      by_cases c : k = i
      · subst c
        rw [if_neg (Nat.lt_irrefl k), if_pos rfl, if_pos rfl, if_pos (show k < k + 1 by omega), Int64.zero_add]
      · rw [if_neg c, if_neg (show ¬ (0 : Nat) = 1 by omega), Int64.add_zero]
        by_cases d : i < k
        · rw [if_pos d, if_pos (by omega)]
        · rw [if_neg d, if_neg (by omega)]
  rw [this n (Nat.le_refl _), if_pos hi]
theorem sg_step (X : Nat → Int64) {n i v : Nat} (hn : n ≤ 5) (hv : v < 32) (hi : i < n) (h : v / 2 ^ i % 2 = 1) : sg X (bset v i 0) n + X i = sg X v n := by
  rw [sg_split X n (fun j hj => k_one v hv i (by omega) j (by omega) h), sg_pw X hn hi]
theorem sum_sg (f : Nat → Int32) {n : Nat} (hn : n ≤ 5) : sumL f n = sg (fun i => (f i).toInt64) (2 ^ n - 1) n := by
  have : ∀ k, k ≤ n → sumL f k = sg (fun i => (f i).toInt64) (2 ^ n - 1) k := by
    intro k
    induction k with
    | zero => intro _; rfl
    | succ k ih =>
      intro hk
      show sumL f k + (f k).toInt64 = sg _ _ k + _
      rw [ih (by omega), k_full n hn k (by omega), if_pos (show k < n by omega), if_pos rfl]
  exact this n (Nat.le_refl _)
theorem sg_cg {X Y : Nat → Int64} {s : Nat} : ∀ m, (∀ i, i < m → X i = Y i) → sg X s m = sg Y s m := by
  intro m
  induction m with
  | zero => intro _; rfl
  | succ m ih =>
    intro h
    show sg X s m + _ = sg Y s m + _
    rw [ih (fun i hi => h i (by omega)), h m (by omega)]
theorem mg_le {f : Nat → Nat} {S B : Nat} (hf : ∀ s, f s ≤ B) : ∀ m, mg f S m ≤ B := by
  intro m
  induction m with
  | zero => exact Nat.zero_le _
  | succ m ih =>
    unfold mg
    split
    · rcases mxn_c (mg f S m) (f (bset S m 0)) with e | e <;> rw [e]
      · exact ih
      · exact hf _
    · exact ih
theorem gf_le (X : Nat → Int64) (n : Nat) : ∀ d S, gf X n d S ≤ d := by
  intro d
  induction d with
  | zero => intro S; exact Nat.le_refl _
  | succ d ih =>
    intro S
    show mg (gf X n d) S n + (if S ≠ 0 ∧ sg X S n = 0 then 1 else 0) ≤ d + 1
    have := mg_le (S := S) ih n
    split <;> omega
theorem mx_I {a b : Nat} (ha : a < 2 ^ 31) (hb : b < 2 ^ 31) : (if nI a < nI b then nI b else nI a) = nI (mxn a b) := by
  unfold mxn
  by_cases c : a < b
  · rw [if_pos (nI_lt c hb), if_pos (by omega)]
  · by_cases d : a = b
    · subst d; rw [if_pos (Nat.le_refl _)]; exact ite_self _
    · rw [if_neg (nI_nlt (by omega) ha), if_neg (by omega)]
theorem mx_J {a b : Nat} (ha : a < 2 ^ 31) (hb : b < 2 ^ 31) : (if nI a ≤ nI b then nI b else nI a) = nI (mxn a b) := by
  unfold mxn
  by_cases c : a ≤ b
  · rw [if_pos (nI_le c hb), if_pos c]
  · rw [if_neg (nI_ge (by omega) ha), if_neg c]
theorem B_most {S n : Nat} {G : Nat → Nat} {M : Mm} (hS : S < 32) (hn : n ≤ 5) (hG : ∀ s, G s ≤ 100) (hg : ∀ b, b < n → S / 2 ^ b % 2 = 1 → gi M 50 (bset S b 0) = nI (G (bset S b 0))) {Q : Int32 → Mm → Prop} (h : Q (nI (mg G S n)) M) : wp_De_mostGroupsWithin (nI S) (nI n) M Q := by
  unfold wp_De_mostGroupsWithin
  have key : ∀ f v, v + f = n → lp_De_mostGroupsWithin_5 (nI S) (nI n) Q (f + 1) (nI (mg G S v)) (nI v) M := by
    intro f
    induction f with
    | zero =>
      intro v hv
      have : v = n := by omega
      subst this
      show k_De_mostGroupsWithin_5 (nI S) (nI v) Q _ _ _ M
      unfold k_De_mostGroupsWithin_5
      simp (disch := omega) only [fa_lit0, xI_le_T, xI_le_F, xI_lt_T, xI_lt_F, xI_eq_T, xI_eq_F, xN_a, xN_b, xN_c, xN_d, xN_e, xN_f, xN_g, xN_h, xI_add, xI_mul, xI_sub, xI_tn, xI_in, xI_ofNat, gi_si_eq, gi_n1, gi_n2, gl_sl_eq, gl_n1, gl_n2, gi_sl, gl_si, forall_eq, true_implies, false_implies, not_true_eq_false, not_false_eq_true, and_true, true_and, implies_true, and_self]
      exact h
    | succ f ih =>
      intro v hv
      show k_De_mostGroupsWithin_5 (nI S) (nI n) Q _ _ _ M
      unfold k_De_mostGroupsWithin_5
      have ih := ih (v + 1) (by omega)
      simp (disch := omega) only [fa_lit0, xI_le_T, xI_le_F, xI_lt_T, xI_lt_F, xI_eq_T, xI_eq_F, xN_a, xN_b, xN_c, xN_d, xN_e, xN_f, xN_g, xN_h, xI_add, xI_mul, xI_sub, xI_tn, xI_in, xI_ofNat, gi_si_eq, gi_n1, gi_n2, gl_sl_eq, gl_n1, gl_n2, gi_sl, gl_si, forall_eq, true_implies, false_implies, not_true_eq_false, not_false_eq_true, and_true, true_and, implies_true, and_self]
      refine B_has hS (by omega) ?_
      have m1 := mg_le (S := S) hG v
      by_cases c : S / 2 ^ v % 2 = 1
      · have e : mg G S (v + 1) = mxn (mg G S v) (G (bset S v 0)) := if_pos c
        rw [e] at ih
        have l := bset_lt S hS v (by omega) 0 (by omega)
        have g1 := hg v (by omega) c
        have m2 := hG (bset S v 0)
        simp (disch := omega) only [fa_lit0, xI_le_T, xI_le_F, xI_lt_T, xI_lt_F, xI_eq_T, xI_eq_F, xN_a, xN_b, xN_c, xN_d, xN_e, xN_f, xN_g, xN_h, xI_add, xI_mul, xI_sub, xI_tn, xI_in, xI_ofNat, gi_si_eq, gi_n1, gi_n2, gl_sl_eq, gl_n1, gl_n2, gi_sl, gl_si, forall_eq, true_implies, false_implies, not_true_eq_false, not_false_eq_true, and_true, true_and, implies_true, and_self, c, bset_an S hS v (show v < 5 by omega), k_De_mostGroupsWithin_38, g1]
        rw [mx_I (by omega) (by omega)]
        exact ih
      · have c0 : S / 2 ^ v % 2 = 0 := by omega
        have e : mg G S (v + 1) = mg G S v := if_neg c
        rw [e] at ih
        simp (disch := omega) only [fa_lit0, xI_le_T, xI_le_F, xI_lt_T, xI_lt_F, xI_eq_T, xI_eq_F, xN_a, xN_b, xN_c, xN_d, xN_e, xN_f, xN_g, xN_h, xI_add, xI_mul, xI_sub, xI_tn, xI_in, xI_ofNat, gi_si_eq, gi_n1, gi_n2, gl_sl_eq, gl_n1, gl_n2, gi_sl, gl_si, forall_eq, true_implies, false_implies, not_true_eq_false, not_false_eq_true, and_true, true_and, implies_true, and_self, c0, k_De_mostGroupsWithin_38]
        exact ih
  exact ⟨n + 1, key n 0 (by omega)⟩
theorem mn5 : ∀ n, n < 6 → (if (if (0 : Int32) < nI n then nI n else (0 : Int32)) < (5 : Int32) then (if (0 : Int32) < nI n then nI n else (0 : Int32)) else (5 : Int32)) = nI n := by decide +kernel
theorem B_few {r n : Nat} {x : Nat → Int32} {M : Mm} (hr : r < 6) (hn : n ≤ 5) (hn0 : 0 < n) (e5 : gi M 5 r = nI n) (hx : ∀ i, i < n → gi M (7 + r) i = x i) (z1 : gi M 50 0 = nI 0) (z2 : gl M 49 0 = 0) {Q : Int32 → Mm → Prop} (hQ : ∀ M', Sm (fun a b => (a = 49 ∨ a = 50) ∧ b ≠ 0) M M' → Q (nI n - nI (gf (fun i => (x i).toInt64) n 6 (2 ^ n - 1))) M') : wp_De_fewestPayments 4 (nI r) M Q := by
  have hp := p5 hn
  have hp0 : 0 < 2 ^ n := Nat.two_pow_pos n
  unfold wp_De_fewestPayments
  simp (disch := omega) only [fa_lit0, xI_le_T, xI_le_F, xI_lt_T, xI_lt_F, xI_eq_T, xI_eq_F, xN_a, xN_b, xN_c, xN_d, xN_e, xN_f, xN_g, xN_h, xI_add, xI_mul, xI_sub, xI_tn, xI_in, xI_ofNat, gi_si_eq, gi_n1, gi_n2, gl_sl_eq, gl_n1, gl_n2, gi_sl, gl_si, forall_eq, true_implies, false_implies, not_true_eq_false, not_false_eq_true, and_true, true_and, implies_true, and_self, wp_Sh_sizeOf, wp_Sh_knows, shN_4]
  have g1 : gi M (4 + 1) r = nI n := e5
  have mn := mn5 n (by omega)
  have mn : (if (if nI 0 < nI n then nI n else nI 0) < nI 5 then (if nI 0 < nI n then nI n else nI 0) else nI 5) = nI n := mn
  rw [g1, mn]
  simp (disch := omega) only [fa_lit0, xI_le_T, xI_le_F, xI_lt_T, xI_lt_F, xI_eq_T, xI_eq_F, xN_a, xN_b, xN_c, xN_d, xN_e, xN_f, xN_g, xN_h, xI_add, xI_mul, xI_sub, xI_tn, xI_in, xI_ofNat, gi_si_eq, gi_n1, gi_n2, gl_sl_eq, gl_n1, gl_n2, gi_sl, gl_si, forall_eq, true_implies, false_implies, not_true_eq_false, not_false_eq_true, and_true, true_and, implies_true, and_self, bs_l]
  have key : ∀ (K : Int32 → Int32 → Mm → Prop), (∀ M', Sm (fun a b => (a = 49 ∨ a = 50) ∧ b ≠ 0) M M' → gi M' 50 (2 ^ n - 1) = nI (gf (fun i => (x i).toInt64) n 6 (2 ^ n - 1)) → K (nI n) (nI (2 ^ n - 1)) M') → ∀ f v M', v + f = 2 ^ n → 1 ≤ v → Sm (fun a b => (a = 49 ∨ a = 50) ∧ b ≠ 0) M M' → (∀ s, s < v → gi M' 50 s = nI (gf (fun i => (x i).toInt64) n 6 s) ∧ gl M' 49 s = sg (fun i => (x i).toInt64) s n) → lp_De_fewestPayments_24 4 (nI r) Q K (f + 1) (nI n) (nI (2 ^ n - 1)) (nI v) M' := by
    intro K hK f
    induction f with
    | zero =>
      intro v M' hv h1 s hI
      show k_De_fewestPayments_24 4 (nI r) Q _ K _ _ _ M'
      unfold k_De_fewestPayments_24
      simp (disch := omega) only [fa_lit0, xI_le_T, xI_le_F, xI_lt_T, xI_lt_F, xI_eq_T, xI_eq_F, xN_a, xN_b, xN_c, xN_d, xN_e, xN_f, xN_g, xN_h, xI_add, xI_mul, xI_sub, xI_tn, xI_in, xI_ofNat, gi_si_eq, gi_n1, gi_n2, gl_sl_eq, gl_n1, gl_n2, gi_sl, gl_si, forall_eq, true_implies, false_implies, not_true_eq_false, not_false_eq_true, and_true, true_and, implies_true, and_self]
      exact hK M' s (hI _ (by omega)).1
    | succ f ih =>
      intro v M' hv h1 s hI
      show k_De_fewestPayments_24 4 (nI r) Q _ K _ _ _ M'
      unfold k_De_fewestPayments_24
      simp (disch := omega) only [fa_lit0, xI_le_T, xI_le_F, xI_lt_T, xI_lt_F, xI_eq_T, xI_eq_F, xN_a, xN_b, xN_c, xN_d, xN_e, xN_f, xN_g, xN_h, xI_add, xI_mul, xI_sub, xI_tn, xI_in, xI_ofNat, gi_si_eq, gi_n1, gi_n2, gl_sl_eq, gl_n1, gl_n2, gi_sl, gl_si, forall_eq, true_implies, false_implies, not_true_eq_false, not_false_eq_true, and_true, true_and, implies_true, and_self]
      obtain ⟨i, hi, hb, hl⟩ := k_low v (by omega) (by omega)
      have hin : i < n := bit_n (show v < 2 ^ n by omega) hb
      obtain ⟨q1, q2, q3, q4, q5⟩ := k_9 v (by omega) i hi hb
      refine B_first (by omega) hi hb hl ?_
      simp (disch := omega) only [fa_lit0, xI_le_T, xI_le_F, xI_lt_T, xI_lt_F, xI_eq_T, xI_eq_F, xN_a, xN_b, xN_c, xN_d, xN_e, xN_f, xN_g, xN_h, xI_add, xI_mul, xI_sub, xI_tn, xI_in, xI_ofNat, gi_si_eq, gi_n1, gi_n2, gl_sl_eq, gl_n1, gl_n2, gi_sl, gl_si, forall_eq, true_implies, false_implies, not_true_eq_false, not_false_eq_true, and_true, true_and, implies_true, and_self, bset_an v (show v < 32 by omega) i hi]
      refine B_val (n := n) hr (by omega) hin ((s.g (by omega)).trans e5) ?_
      have ex := (s.g (a := 7 + r) (b := i) (by omega)).trans (hx i hin)
      have eg := (hI _ q5).2
      simp (disch := omega) only [fa_lit0, xI_le_T, xI_le_F, xI_lt_T, xI_lt_F, xI_eq_T, xI_eq_F, xN_a, xN_b, xN_c, xN_d, xN_e, xN_f, xN_g, xN_h, xI_add, xI_mul, xI_sub, xI_tn, xI_in, xI_ofNat, gi_si_eq, gi_n1, gi_n2, gl_sl_eq, gl_n1, gl_n2, gi_sl, gl_si, forall_eq, true_implies, false_implies, not_true_eq_false, not_false_eq_true, and_true, true_and, implies_true, and_self, ex, eg]
      have es := sg_step (fun i => (x i).toInt64) hn (show v < 32 by omega) hin hb
      rw [es]
      have s1 : Sm (fun a b => (a = 49 ∨ a = 50) ∧ b ≠ 0) M (sl M' 49 v (sg (fun i => (x i).toInt64) v n)) := s.wl ⟨Or.inl rfl, by omega⟩
      refine B_most (G := gf (fun i => (x i).toInt64) n 6) (by omega) hn (fun s => by have := gf_le (fun i => (x i).toInt64) n 6 s; omega) (fun b hb1 hb2 => ?_) ?_
      · rw [gi_sl]
        obtain ⟨u1, u2, u3, u4, u5⟩ := k_9 v (by omega) b (by omega) hb2
        exact (hI _ u5).1
      · simp (disch := omega) only [fa_lit0, xI_le_T, xI_le_F, xI_lt_T, xI_lt_F, xI_eq_T, xI_eq_F, xN_a, xN_b, xN_c, xN_d, xN_e, xN_f, xN_g, xN_h, xI_add, xI_mul, xI_sub, xI_tn, xI_in, xI_ofNat, gi_si_eq, gi_n1, gi_n2, gl_sl_eq, gl_n1, gl_n2, gi_sl, gl_si, forall_eq, true_implies, false_implies, not_true_eq_false, not_false_eq_true, and_true, true_and, implies_true, and_self, lgz]
        have ge := gf_eq (X := fun i => (x i).toInt64) hn (show v < 32 by omega)
        have fin : ∀ y, y = nI (gf (fun i => (x i).toInt64) n 6 v) → lp_De_fewestPayments_24 4 (nI r) Q K (f + 1) (nI n) (nI (2 ^ n - 1)) (nI (v + 1)) (si (sl M' 49 v (sg (fun i => (x i).toInt64) v n)) 50 v y) := by
          intro y hy
          refine ih (v + 1) _ (by omega) (by omega) (s1.wi ⟨Or.inr rfl, by omega⟩) (fun s' hs' => ?_)
          by_cases c : s' = v
          · subst c
            rw [gi_si_eq, gl_si, gl_sl_eq]
            exact ⟨hy, rfl⟩
          · rw [gi_n2 c, gi_sl, gl_si, gl_n2 c]
            exact hI s' (by omega)
        by_cases c : sg (fun i => (x i).toInt64) v n = 0
        · rw [if_pos ⟨by omega, c⟩] at ge
          refine ⟨fun w => absurd c w, fun _ => ?_⟩
          simp (disch := omega) only [fa_lit0, xI_le_T, xI_le_F, xI_lt_T, xI_lt_F, xI_eq_T, xI_eq_F, xN_a, xN_b, xN_c, xN_d, xN_e, xN_f, xN_g, xN_h, xI_add, xI_mul, xI_sub, xI_tn, xI_in, xI_ofNat, gi_si_eq, gi_n1, gi_n2, gl_sl_eq, gl_n1, gl_n2, gi_sl, gl_si, forall_eq, true_implies, false_implies, not_true_eq_false, not_false_eq_true, and_true, true_and, implies_true, and_self, k_De_fewestPayments_98]
          exact fin _ (by rw [ge])
        · rw [if_neg (fun w => c w.2)] at ge
          refine ⟨fun _ => ?_, fun w => absurd w c⟩
          simp (disch := omega) only [fa_lit0, xI_le_T, xI_le_F, xI_lt_T, xI_lt_F, xI_eq_T, xI_eq_F, xN_a, xN_b, xN_c, xN_d, xN_e, xN_f, xN_g, xN_h, xI_add, xI_mul, xI_sub, xI_tn, xI_in, xI_ofNat, gi_si_eq, gi_n1, gi_n2, gl_sl_eq, gl_n1, gl_n2, gi_sl, gl_si, forall_eq, true_implies, false_implies, not_true_eq_false, not_false_eq_true, and_true, true_and, implies_true, and_self, k_De_fewestPayments_98]
          exact fin _ (by rw [ge])
  refine ⟨(2 ^ n - 1) + 1, key _ ?_ (2 ^ n - 1) 1 M (by omega) (by omega) (Sm.refl _ M) (fun s hs => ?_)⟩
  · intro M' s e
    simp (disch := omega) only [fa_lit0, xI_le_T, xI_le_F, xI_lt_T, xI_lt_F, xI_eq_T, xI_eq_F, xN_a, xN_b, xN_c, xN_d, xN_e, xN_f, xN_g, xN_h, xI_add, xI_mul, xI_sub, xI_tn, xI_in, xI_ofNat, gi_si_eq, gi_n1, gi_n2, gl_sl_eq, gl_n1, gl_n2, gi_sl, gl_si, forall_eq, true_implies, false_implies, not_true_eq_false, not_false_eq_true, and_true, true_and, implies_true, and_self, e]
    exact hQ M' s
  · have : s = 0 := by omega
    subst this
    rw [z1, z2, gf_0, sg_0]
    exact ⟨rfl, rfl⟩
theorem M_owed {C : Nat → Nat → Nat} {r s : Nat} {x : Nat → Int32} {M : Mm} (hW : MW C M) (hr : r < 6) (hs : s < 32) (hx : ∀ i, i < C 0 0 → gi M 315 (40 * r + i) = x i) {Q : Int64 → Mm → Prop} (h : Q (sg (fun i => (x i).toInt64) s (C 0 0)) M) : wp_M_owedBy (nI r) (nI s) M Q := by
  have hn := hW.1.1
  unfold wp_M_owedBy
  have key : ∀ f v, v + f = C 0 0 → lp_M_owedBy_5 (nI r) (nI s) Q (f + 1) (sg (fun i => (x i).toInt64) s v) (nI v) M := by
    intro f
    induction f with
    | zero =>
      intro v hv
      have : v = C 0 0 := by omega
      subst this
      show k_M_owedBy_5 (nI r) (nI s) Q _ _ _ M
      unfold k_M_owedBy_5
      simp (disch := omega) only [fa_lit0, xI_le_T, xI_le_F, xI_lt_T, xI_lt_F, xI_eq_T, xI_eq_F, xN_a, xN_b, xN_c, xN_d, xN_e, xN_f, xN_g, xN_h, xI_add, xI_mul, xI_sub, xI_tn, xI_in, xI_ofNat, gi_si_eq, gi_n1, gi_n2, gl_sl_eq, gl_n1, gl_n2, gi_sl, gl_si, forall_eq, true_implies, false_implies, not_true_eq_false, not_false_eq_true, and_true, true_and, implies_true, and_self, hW.2.1]
      exact h
    | succ f ih =>
      intro v hv
      show k_M_owedBy_5 (nI r) (nI s) Q _ _ _ M
      unfold k_M_owedBy_5
      have ih := ih (v + 1) (by omega)
      simp (disch := omega) only [fa_lit0, xI_le_T, xI_le_F, xI_lt_T, xI_lt_F, xI_eq_T, xI_eq_F, xN_a, xN_b, xN_c, xN_d, xN_e, xN_f, xN_g, xN_h, xI_add, xI_mul, xI_sub, xI_tn, xI_in, xI_ofNat, gi_si_eq, gi_n1, gi_n2, gl_sl_eq, gl_n1, gl_n2, gi_sl, gl_si, forall_eq, true_implies, false_implies, not_true_eq_false, not_false_eq_true, and_true, true_and, implies_true, and_self, hW.2.1]
      refine M_has hs (by omega) ?_
      by_cases c : s / 2 ^ v % 2 = 1
      · have e : sg (fun i => (x i).toInt64) s (v + 1) = sg (fun i => (x i).toInt64) s v + (x v).toInt64 := by
          show _ + (if s / 2 ^ v % 2 = 1 then (x v).toInt64 else 0) = _
          rw [if_pos c]
        rw [e] at ih
        simp (disch := omega) only [fa_lit0, xI_le_T, xI_le_F, xI_lt_T, xI_lt_F, xI_eq_T, xI_eq_F, xN_a, xN_b, xN_c, xN_d, xN_e, xN_f, xN_g, xN_h, xI_add, xI_mul, xI_sub, xI_tn, xI_in, xI_ofNat, gi_si_eq, gi_n1, gi_n2, gl_sl_eq, gl_n1, gl_n2, gi_sl, gl_si, forall_eq, true_implies, false_implies, not_true_eq_false, not_false_eq_true, and_true, true_and, implies_true, and_self, c, wp_M_rowAt, hx v (show v < C 0 0 by omega), k_M_owedBy_36]
        exact ih
      · have c0 : s / 2 ^ v % 2 = 0 := by omega
        have e : sg (fun i => (x i).toInt64) s (v + 1) = sg (fun i => (x i).toInt64) s v + 0 := by
          show _ + (if s / 2 ^ v % 2 = 1 then (x v).toInt64 else 0) = _
          rw [if_neg c]
        rw [e] at ih
        simp (disch := omega) only [fa_lit0, xI_le_T, xI_le_F, xI_lt_T, xI_lt_F, xI_eq_T, xI_eq_F, xN_a, xN_b, xN_c, xN_d, xN_e, xN_f, xN_g, xN_h, xI_add, xI_mul, xI_sub, xI_tn, xI_in, xI_ofNat, gi_si_eq, gi_n1, gi_n2, gl_sl_eq, gl_n1, gl_n2, gi_sl, gl_si, forall_eq, true_implies, false_implies, not_true_eq_false, not_false_eq_true, and_true, true_and, implies_true, and_self, c0, k_M_owedBy_36]
        exact ih
  exact ⟨C 0 0 + 1, key (C 0 0) 0 (by omega)⟩
theorem lpPa (RC : Int32 → Int32 → Mm → (Int32 → Mm → Prop) → Prop) (a1 a2 : Int32) (Q : Int32 → Mm → Prop) (k : Nat) (b v : Int32) (M : Mm) : lp_M_parts_5 RC a1 a2 Q (k + 1) b v M = k_M_parts_5 RC a1 a2 Q (lp_M_parts_5 RC a1 a2 Q k) b v M := rfl
theorem M_parts {C : Nat → Nat → Nat} {r : Nat} {x : Nat → Int32} {M : Mm} (hW : MW C M) (hr : r < 6) (hx : ∀ i, i < C 0 0 → gi M 315 (40 * r + i) = x i) : ∀ d S (Q : Int32 → Mm → Prop), S < 32 → cnt S 5 < d → Q (nI (pp (fun i => (x i).toInt64) (C 0 0) d S)) M → wp_M_parts d (nI r) (nI S) M Q := by
  have hn := hW.1.1
  intro d
  induction d with
  | zero => intro S Q _ h; omega
  | succ d ih =>
    intro S Q hS hc h
    show wpB_M_parts (wp_M_parts d) (nI r) (nI S) M Q
    unfold wpB_M_parts
    have key : ∀ k v b, v ≤ k → v < 32 → v &&& S = v → b ≤ 100 → Q (nI (pl (fun i => (x i).toInt64) (C 0 0) (pp (fun i => (x i).toInt64) (C 0 0) d) S k v b)) M → lp_M_parts_5 (wp_M_parts d) (nI r) (nI S) Q (k + 1) (nI b) (nI v) M := by
      intro k
      induction k with
      | zero =>
        intro v b hk hv hs hb hq
        have : v = 0 := by omega
        subst this
        rw [lpPa]
        unfold k_M_parts_5
        simp (disch := omega) only [fa_lit0, xI_le_T, xI_le_F, xI_lt_T, xI_lt_F, xI_eq_T, xI_eq_F, xN_a, xN_b, xN_c, xN_d, xN_e, xN_f, xN_g, xN_h, xI_add, xI_mul, xI_sub, xI_tn, xI_in, xI_ofNat, gi_si_eq, gi_n1, gi_n2, gl_sl_eq, gl_n1, gl_n2, gi_sl, gl_si, forall_eq, true_implies, false_implies, not_true_eq_false, not_false_eq_true, and_true, true_and, implies_true, and_self]
        exact hq
      | succ k ihk =>
        intro v b hk hv hs hb hq
        rw [lpPa]
        unfold k_M_parts_5
        by_cases c : v = 0
        · subst c
          simp (disch := omega) only [fa_lit0, xI_le_T, xI_le_F, xI_lt_T, xI_lt_F, xI_eq_T, xI_eq_F, xN_a, xN_b, xN_c, xN_d, xN_e, xN_f, xN_g, xN_h, xI_add, xI_mul, xI_sub, xI_tn, xI_in, xI_ofNat, gi_si_eq, gi_n1, gi_n2, gl_sl_eq, gl_n1, gl_n2, gi_sl, gl_si, forall_eq, true_implies, false_implies, not_true_eq_false, not_false_eq_true, and_true, true_and, implies_true, and_self]
          have e : pl (fun i => (x i).toInt64) (C 0 0) (pp (fun i => (x i).toInt64) (C 0 0) d) S (k + 1) 0 b = b := if_pos rfl
          rw [e] at hq
          exact hq
        · have e : pl (fun i => (x i).toInt64) (C 0 0) (pp (fun i => (x i).toInt64) (C 0 0) d) S (k + 1) v b = pl (fun i => (x i).toInt64) (C 0 0) (pp (fun i => (x i).toInt64) (C 0 0) d) S k ((v - 1) &&& S) (if sg (fun i => (x i).toInt64) v (C 0 0) = 0 then mxn b (1 + pp (fun i => (x i).toInt64) (C 0 0) d (S &&& (31 - v))) else b) := if_neg c
          rw [e] at hq
          obtain ⟨g1, g2⟩ := k_2 S hS v hv
          simp (disch := omega) only [fa_lit0, xI_le_T, xI_le_F, xI_lt_T, xI_lt_F, xI_eq_T, xI_eq_F, xN_a, xN_b, xN_c, xN_d, xN_e, xN_f, xN_g, xN_h, xI_add, xI_mul, xI_sub, xI_tn, xI_in, xI_ofNat, gi_si_eq, gi_n1, gi_n2, gl_sl_eq, gl_n1, gl_n2, gi_sl, gl_si, forall_eq, true_implies, false_implies, not_true_eq_false, not_false_eq_true, and_true, true_and, implies_true, and_self]
          refine M_owed hW hr hv hx ?_
          try simp (disch := omega) only [fa_lit0, xI_le_T, xI_le_F, xI_lt_T, xI_lt_F, xI_eq_T, xI_eq_F, xN_a, xN_b, xN_c, xN_d, xN_e, xN_f, xN_g, xN_h, xI_add, xI_mul, xI_sub, xI_tn, xI_in, xI_ofNat, gi_si_eq, gi_n1, gi_n2, gl_sl_eq, gl_n1, gl_n2, gi_sl, gl_si, forall_eq, true_implies, false_implies, not_true_eq_false, not_false_eq_true, and_true, true_and, implies_true, and_self, lgz]
          have k3 := k_3 S hS v hv hs c
          have k5 := k_5 S hS v hv
          have le := pp_le (X := fun i => (x i).toInt64) (n := C 0 0) d _ k5.1
          have c5 := cnt_5 (S &&& (31 - v))
          by_cases z : sg (fun i => (x i).toInt64) v (C 0 0) = 0
          · rw [if_pos z] at hq
            refine ⟨fun w => absurd z w, fun _ => ?_⟩
            rw [and_not S hS v hv]
            refine ih _ _ k5.1 (by omega) ?_
            simp (disch := omega) only [fa_lit0, xI_le_T, xI_le_F, xI_lt_T, xI_lt_F, xI_eq_T, xI_eq_F, xN_a, xN_b, xN_c, xN_d, xN_e, xN_f, xN_g, xN_h, xI_add, xI_mul, xI_sub, xI_tn, xI_in, xI_ofNat, gi_si_eq, gi_n1, gi_n2, gl_sl_eq, gl_n1, gl_n2, gi_sl, gl_si, forall_eq, true_implies, false_implies, not_true_eq_false, not_false_eq_true, and_true, true_and, implies_true, and_self]
            refine M_gr ?_
            rw [mx_J (by omega) (by omega)]
            simp (disch := omega) only [fa_lit0, xI_le_T, xI_le_F, xI_lt_T, xI_lt_F, xI_eq_T, xI_eq_F, xN_a, xN_b, xN_c, xN_d, xN_e, xN_f, xN_g, xN_h, xI_add, xI_mul, xI_sub, xI_tn, xI_in, xI_ofNat, gi_si_eq, gi_n1, gi_n2, gl_sl_eq, gl_n1, gl_n2, gi_sl, gl_si, forall_eq, true_implies, false_implies, not_true_eq_false, not_false_eq_true, and_true, true_and, implies_true, and_self, k_M_parts_40, bs_and]
            refine ihk _ _ (by omega) (by omega) g1 ?_ hq
            rcases mxn_c b (1 + pp (fun i => (x i).toInt64) (C 0 0) d (S &&& (31 - v))) with w | w <;> omega
          · rw [if_neg z] at hq
            refine ⟨fun _ => ?_, fun w => absurd w z⟩
            simp (disch := omega) only [fa_lit0, xI_le_T, xI_le_F, xI_lt_T, xI_lt_F, xI_eq_T, xI_eq_F, xN_a, xN_b, xN_c, xN_d, xN_e, xN_f, xN_g, xN_h, xI_add, xI_mul, xI_sub, xI_tn, xI_in, xI_ofNat, gi_si_eq, gi_n1, gi_n2, gl_sl_eq, gl_n1, gl_n2, gi_sl, gl_si, forall_eq, true_implies, false_implies, not_true_eq_false, not_false_eq_true, and_true, true_and, implies_true, and_self, k_M_parts_40, bs_and]
            exact ihk _ _ (by omega) (by omega) g1 hb hq
    exact ⟨32 + 1, key 32 S 0 (by omega) hS (k_8 S hS).1 (by omega) h⟩
theorem op_settle {a1 : Int32} {M : Mm} (h : Rel RDel M) : wp_B_settle a1 M (fun r M1 => wp_M_settle a1 M1 (fun r2 M2 => r = r2 ∧ Rel RDel M2)) := by
  obtain ⟨C, F, D, L, T, N, V, KL, hd⟩ := h.2.2.2.2.2.2.out
  obtain ⟨hC, hB, hW, hO, hF, hG, hcw⟩ := hd.parts
  have hn := hC.1
  have hp := p5 hn
  have hp0 : 0 < 2 ^ C 0 0 := Nat.two_pow_pos _
  unfold wp_B_settle wp_M_settle
  rcases armRow h hd a1 with ⟨e, M1, M2, e1, e2, hb, hm, hR⟩ | ⟨r, hr, rfl, hn0, e5, e314, hx, hb, hm⟩
  · refine hb _ ?_
    refine ⟨fun w => absurd w (by rw [e2]; exact id), fun _ => ?_⟩
    refine hm _ ?_
    exact ⟨fun w => absurd w (by rw [e1]; exact id), fun _ => ⟨rfl, hR⟩⟩
  · refine hb _ ?_
    simp (disch := omega) only [fa_lit0, xI_le_T, xI_le_F, xI_lt_T, xI_lt_F, xI_eq_T, xI_eq_F, xN_a, xN_b, xN_c, xN_d, xN_e, xN_f, xN_g, xN_h, xI_add, xI_mul, xI_sub, xI_tn, xI_in, xI_ofNat, gi_si_eq, gi_n1, gi_n2, gl_sl_eq, gl_n1, gl_n2, gi_sl, gl_si, forall_eq, true_implies, false_implies, not_true_eq_false, not_false_eq_true, and_true, true_and, implies_true, and_self]
    refine Sh_sum_ok hr (by omega) e5 ?_
    have es : sumL (gi M (7 + r)) (C 0 0) = sg (fun i => (gi M 315 (40 * r + i)).toInt64) (2 ^ C 0 0 - 1) (C 0 0) := by
      rw [sumL_congr (g := fun i => gi M 315 (40 * r + i)) hx, sum_sg _ hn]
    rw [es]
    simp (disch := omega) only [fa_lit0, xI_le_T, xI_le_F, xI_lt_T, xI_lt_F, xI_eq_T, xI_eq_F, xN_a, xN_b, xN_c, xN_d, xN_e, xN_f, xN_g, xN_h, xI_add, xI_mul, xI_sub, xI_tn, xI_in, xI_ofNat, gi_si_eq, gi_n1, gi_n2, gl_sl_eq, gl_n1, gl_n2, gi_sl, gl_si, forall_eq, true_implies, false_implies, not_true_eq_false, not_false_eq_true, and_true, true_and, implies_true, and_self, lgz]
    by_cases c : sg (fun i => (gi M 315 (40 * r + i)).toInt64) (2 ^ C 0 0 - 1) (C 0 0) = 0
    · refine ⟨fun _ => ?_, fun w => absurd c w⟩
      refine B_few (x := fun i => gi M 315 (40 * r + i)) hr hn hn0 e5 hx h.2.2.1.2.2.1 h.2.2.1.2.2.2 (fun M1 s1 => ?_)
      have w1 : MW C M1 := hW.sm s1 (fun a b q => by omega)
      refine hm M1 w1.2.1 ((s1.g (by omega)).trans e314) _ ?_
      simp (disch := omega) only [fa_lit0, xI_le_T, xI_le_F, xI_lt_T, xI_lt_F, xI_eq_T, xI_eq_F, xN_a, xN_b, xN_c, xN_d, xN_e, xN_f, xN_g, xN_h, xI_add, xI_mul, xI_sub, xI_tn, xI_in, xI_ofNat, gi_si_eq, gi_n1, gi_n2, gl_sl_eq, gl_n1, gl_n2, gi_sl, gl_si, forall_eq, true_implies, false_implies, not_true_eq_false, not_false_eq_true, and_true, true_and, implies_true, and_self]
      refine M_sets w1 ?_
      try simp (disch := omega) only [fa_lit0, xI_le_T, xI_le_F, xI_lt_T, xI_lt_F, xI_eq_T, xI_eq_F, xN_a, xN_b, xN_c, xN_d, xN_e, xN_f, xN_g, xN_h, xI_add, xI_mul, xI_sub, xI_tn, xI_in, xI_ofNat, gi_si_eq, gi_n1, gi_n2, gl_sl_eq, gl_n1, gl_n2, gi_sl, gl_si, forall_eq, true_implies, false_implies, not_true_eq_false, not_false_eq_true, and_true, true_and, implies_true, and_self]
      have hx1 : ∀ i, i < C 0 0 → gi M1 315 (40 * r + i) = (fun i => gi M 315 (40 * r + i)) i := fun i hi => s1.g (by omega)
      refine M_owed w1 hr (by omega) hx1 ?_
      try simp (disch := omega) only [fa_lit0, xI_le_T, xI_le_F, xI_lt_T, xI_lt_F, xI_eq_T, xI_eq_F, xN_a, xN_b, xN_c, xN_d, xN_e, xN_f, xN_g, xN_h, xI_add, xI_mul, xI_sub, xI_tn, xI_in, xI_ofNat, gi_si_eq, gi_n1, gi_n2, gl_sl_eq, gl_n1, gl_n2, gi_sl, gl_si, forall_eq, true_implies, false_implies, not_true_eq_false, not_false_eq_true, and_true, true_and, implies_true, and_self, lgz]
      refine ⟨fun _ => ?_, fun w => absurd c w⟩
      have f1 : ∀ v, nzf (fun i => gi M 315 (40 * r + i)) v ≤ 1 := fun v => by unfold nzf; split <;> omega
      have key : ∀ (Q : Int32 → Mm → Prop) (K : Int32 → Mm → Prop), K (nI (rsm (nzf (fun i => gi M 315 (40 * r + i))) (C 0 0))) M1 → ∀ f v, v + f = C 0 0 → lp_M_settle_39 (nI r) Q K (f + 1) (nI (rsm (nzf (fun i => gi M 315 (40 * r + i))) v)) (nI v) M1 := by
        intro Q K hK f
        induction f with
        | zero =>
          intro v hv
          have : v = C 0 0 := by omega
          subst this
          show k_M_settle_39 (nI r) Q _ K _ _ M1
          unfold k_M_settle_39
          simp (disch := omega) only [fa_lit0, xI_le_T, xI_le_F, xI_lt_T, xI_lt_F, xI_eq_T, xI_eq_F, xN_a, xN_b, xN_c, xN_d, xN_e, xN_f, xN_g, xN_h, xI_add, xI_mul, xI_sub, xI_tn, xI_in, xI_ofNat, gi_si_eq, gi_n1, gi_n2, gl_sl_eq, gl_n1, gl_n2, gi_sl, gl_si, forall_eq, true_implies, false_implies, not_true_eq_false, not_false_eq_true, and_true, true_and, implies_true, and_self, w1.2.1]
          exact hK
        | succ f ih =>
          intro v hv
          show k_M_settle_39 (nI r) Q _ K _ _ M1
          unfold k_M_settle_39
          have ih := ih (v + 1) (by omega)
          have e : rsm (nzf (fun i => gi M 315 (40 * r + i))) (v + 1) = rsm (nzf (fun i => gi M 315 (40 * r + i))) v ||| nzf (fun i => gi M 315 (40 * r + i)) v * 2 ^ v := rfl
          rw [e] at ih
          simp (disch := omega) only [fa_lit0, xI_le_T, xI_le_F, xI_lt_T, xI_lt_F, xI_eq_T, xI_eq_F, xN_a, xN_b, xN_c, xN_d, xN_e, xN_f, xN_g, xN_h, xI_add, xI_mul, xI_sub, xI_tn, xI_in, xI_ofNat, gi_si_eq, gi_n1, gi_n2, gl_sl_eq, gl_n1, gl_n2, gi_sl, gl_si, forall_eq, true_implies, false_implies, not_true_eq_false, not_false_eq_true, and_true, true_and, implies_true, and_self, w1.2.1, wp_M_rowAt, hx1 v (show v < C 0 0 by omega)]
          by_cases z : gi M 315 (40 * r + v) = nI 0
          · rw [show nzf (fun i => gi M 315 (40 * r + i)) v = 0 from if_pos z, Nat.zero_mul] at ih
            refine ⟨fun _ => ?_, fun w => absurd z w⟩
            simp (disch := omega) only [fa_lit0, xI_le_T, xI_le_F, xI_lt_T, xI_lt_F, xI_eq_T, xI_eq_F, xN_a, xN_b, xN_c, xN_d, xN_e, xN_f, xN_g, xN_h, xI_add, xI_mul, xI_sub, xI_tn, xI_in, xI_ofNat, gi_si_eq, gi_n1, gi_n2, gl_sl_eq, gl_n1, gl_n2, gi_sl, gl_si, forall_eq, true_implies, false_implies, not_true_eq_false, not_false_eq_true, and_true, true_and, implies_true, and_self, k_M_settle_67, bs_or]
            exact ih
          · rw [show nzf (fun i => gi M 315 (40 * r + i)) v = 1 from if_neg z, Nat.one_mul] at ih
            refine ⟨fun w => absurd w z, fun _ => ?_⟩
            simp (disch := omega) only [fa_lit0, xI_le_T, xI_le_F, xI_lt_T, xI_lt_F, xI_eq_T, xI_eq_F, xN_a, xN_b, xN_c, xN_d, xN_e, xN_f, xN_g, xN_h, xI_add, xI_mul, xI_sub, xI_tn, xI_in, xI_ofNat, gi_si_eq, gi_n1, gi_n2, gl_sl_eq, gl_n1, gl_n2, gi_sl, gl_si, forall_eq, true_implies, false_implies, not_true_eq_false, not_false_eq_true, and_true, true_and, implies_true, and_self, k_M_settle_67, bs_l, bs_or]
            exact ih
      refine ⟨C 0 0 + 1, key _ _ ?_ (C 0 0) 0 (by omega)⟩
      have l1 := rsm_lt f1 (C 0 0) hn
      refine M_bits l1 ?_
      have c5 := cnt_5 (rsm (nzf (fun i => gi M 315 (40 * r + i))) (C 0 0))
      refine M_parts w1 hr hx1 8 _ _ l1 (by omega) ?_
      refine ⟨?_, ?_⟩
      · have pf := pp_fin (X := fun i => (gi M 315 (40 * r + i)).toInt64) (n := C 0 0) hn (x := fun i => gi M 315 (40 * r + i)) (fun i hi => rfl)
        rw [gf_pp hn 5 _ (by omega) (cnt_5 _)]
        have a1 := pp_le (X := fun i => (gi M 315 (40 * r + i)).toInt64) (n := C 0 0) 8 (2 ^ C 0 0 - 1) (by omega)
        have a2 := pp_le (X := fun i => (gi M 315 (40 * r + i)).toInt64) (n := C 0 0) 8 _ l1
        rw [xI_sub (by omega), xI_sub a2]
        exact congrArg nI (by omega)
      · refine h.fin hd (s1.mono (fun a b q => by unfold Asw; omega)) (fun hn => ?_) (h.1.sm s1 (fun a b q => by omega)) (h.2.2.2.2.1.sm s1 (by omega) (by omega)) (h.2.2.2.2.2.1.sm s1 (fun a b q => by omega))
        exact (hcw hn).2.2.sm s1 (fun b => by omega)
    · refine ⟨fun w => absurd w c, fun _ => ?_⟩
      simp (disch := omega) only [fa_lit0, xI_le_T, xI_le_F, xI_lt_T, xI_lt_F, xI_eq_T, xI_eq_F, xN_a, xN_b, xN_c, xN_d, xN_e, xN_f, xN_g, xN_h, xI_add, xI_mul, xI_sub, xI_tn, xI_in, xI_ofNat, gi_si_eq, gi_n1, gi_n2, gl_sl_eq, gl_n1, gl_n2, gi_sl, gl_si, forall_eq, true_implies, false_implies, not_true_eq_false, not_false_eq_true, and_true, true_and, implies_true, and_self, wp_B_answerFinding]
      have s1 : Sm (fun a _ => a = 0 ∨ a = 1) M (si (si M 0 12 (nI 4)) 1 4 (gi M 1 4 + nI 1)) := ((Sm.refl _ M).wi (Or.inl rfl)).wi (Or.inr rfl)
      have fr := find_pair RDel_mono h (f := 4) (by omega)
      have g313 : gi (si (si M 0 12 (nI 4)) 1 4 (gi M 1 4 + nI 1)) 313 4 = gi M 313 4 := s1.g (by omega)
      generalize si (si M 0 12 (nI 4)) 1 4 (gi M 1 4 + nI 1) = M1 at *
      have w1 : MW C M1 := hW.sm s1 (fun a b q => by omega)
      refine hm M1 w1.2.1 ((s1.g (by omega)).trans e314) _ ?_
      simp (disch := omega) only [fa_lit0, xI_le_T, xI_le_F, xI_lt_T, xI_lt_F, xI_eq_T, xI_eq_F, xN_a, xN_b, xN_c, xN_d, xN_e, xN_f, xN_g, xN_h, xI_add, xI_mul, xI_sub, xI_tn, xI_in, xI_ofNat, gi_si_eq, gi_n1, gi_n2, gl_sl_eq, gl_n1, gl_n2, gi_sl, gl_si, forall_eq, true_implies, false_implies, not_true_eq_false, not_false_eq_true, and_true, true_and, implies_true, and_self]
      refine M_sets w1 ?_
      try simp (disch := omega) only [fa_lit0, xI_le_T, xI_le_F, xI_lt_T, xI_lt_F, xI_eq_T, xI_eq_F, xN_a, xN_b, xN_c, xN_d, xN_e, xN_f, xN_g, xN_h, xI_add, xI_mul, xI_sub, xI_tn, xI_in, xI_ofNat, gi_si_eq, gi_n1, gi_n2, gl_sl_eq, gl_n1, gl_n2, gi_sl, gl_si, forall_eq, true_implies, false_implies, not_true_eq_false, not_false_eq_true, and_true, true_and, implies_true, and_self]
      have hx1 : ∀ i, i < C 0 0 → gi M1 315 (40 * r + i) = (fun i => gi M 315 (40 * r + i)) i := fun i hi => s1.g (by omega)
      refine M_owed w1 hr (by omega) hx1 ?_
      try simp (disch := omega) only [fa_lit0, xI_le_T, xI_le_F, xI_lt_T, xI_lt_F, xI_eq_T, xI_eq_F, xN_a, xN_b, xN_c, xN_d, xN_e, xN_f, xN_g, xN_h, xI_add, xI_mul, xI_sub, xI_tn, xI_in, xI_ofNat, gi_si_eq, gi_n1, gi_n2, gl_sl_eq, gl_n1, gl_n2, gi_sl, gl_si, forall_eq, true_implies, false_implies, not_true_eq_false, not_false_eq_true, and_true, true_and, implies_true, and_self, lgz]
      refine ⟨fun w => absurd w c, fun _ => ?_⟩
      simp (disch := omega) only [fa_lit0, xI_le_T, xI_le_F, xI_lt_T, xI_lt_F, xI_eq_T, xI_eq_F, xN_a, xN_b, xN_c, xN_d, xN_e, xN_f, xN_g, xN_h, xI_add, xI_mul, xI_sub, xI_tn, xI_in, xI_ofNat, gi_si_eq, gi_n1, gi_n2, gl_sl_eq, gl_n1, gl_n2, gi_sl, gl_si, forall_eq, true_implies, false_implies, not_true_eq_false, not_false_eq_true, and_true, true_and, implies_true, and_self, wp_M_meets, g313]
      exact fr
