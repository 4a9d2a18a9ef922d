/-! small numbers -/
theorem fa_lit0 (n : Nat) : (OfNat.ofNat n : Int32) = nI n := rfl
theorem xI_le_T {a b : Nat} (h : a ≤ b) (hb : b < 2 ^ 31) : (nI a ≤ nI b) = True := eq_true (nI_le h hb)
theorem xI_le_F {a b : Nat} (h : b < a) (ha : a < 2 ^ 31) : (nI a ≤ nI b) = False := eq_false (nI_ge h ha)
theorem xI_lt_T {a b : Nat} (h : a < b) (hb : b < 2 ^ 31) : (nI a < nI b) = True := eq_true (nI_lt h hb)
theorem xI_lt_F {a b : Nat} (h : b ≤ a) (ha : a < 2 ^ 31) : (nI a < nI b) = False := eq_false (nI_nlt h ha)
theorem xI_eq_T {a b : Nat} (h : a = b) : (nI a = nI b) = True := eq_true (by rw [h])
theorem xI_eq_F {a b : Nat} (h : a ≠ b) (ha : a < 2 ^ 31) (hb : b < 2 ^ 31) : (nI a = nI b) = False := eq_false (fun q => h ((nI_eq ha hb).mp q))
theorem xI_add (a b : Nat) : nI a + nI b = nI (a + b) := nI_add a b
theorem xI_mul (a b : Nat) : nI a * nI b = nI (a * b) := pk_mul a b
theorem xI_sub {a b : Nat} (h : b ≤ a) : nI a - nI b = nI (a - b) := pk_sub h
theorem xI_tn {a : Nat} (h : a < 2 ^ 31) : (nI a).toNatClampNeg = a := nI_clamp h
theorem xI_in {a n : Nat} (h : a < n) (hn : n < 2 ^ 31) : vp_in (nI a) n = True := eq_true (vp_in_nI h hn)
theorem xI_ofNat (n : Nat) : Int32.ofNat n = nI n := rfl
theorem xN_a {a b : Nat} (h : 0 < a) (ha : a < 2 ^ 31) (hb : b < 2 ^ 31) : (-nI a = nI b) = False := eq_false (fun q => by
  have := congrArg Int32.toInt q
  rw [sb_negT ha, nI_toInt hb] at this
  omega)
theorem xN_b {a b : Nat} (h : 0 < a) (ha : a < 2 ^ 31) (hb : b < 2 ^ 31) : (nI b = -nI a) = False := eq_false (fun q => (xN_a h ha hb).mp q.symm)
theorem xN_c {a b : Nat} (h : a = b) : (-nI a = -nI b) = True := eq_true (by rw [h])
theorem xN_d {a b : Nat} (h : a ≠ b) (ha : a < 2 ^ 31) (hb : b < 2 ^ 31) : (-nI a = -nI b) = False := eq_false (fun q => by
  have := congrArg Int32.toInt q
  rw [sb_negT ha, sb_negT hb] at this
  omega)
theorem xN_e {a b : Nat} (h : 0 < a) (ha : a < 2 ^ 31) (hb : b < 2 ^ 31) : (-nI a < nI b) = True := eq_true (by
  rw [Int32.lt_iff_toInt_lt, sb_negT ha, nI_toInt hb]
  omega)
theorem xN_f {a b : Nat} (h : 0 < a) (ha : a < 2 ^ 31) (hb : b < 2 ^ 31) : (nI b ≤ -nI a) = False := eq_false (fun q => by
  rw [Int32.le_iff_toInt_le, sb_negT ha, nI_toInt hb] at q
  omega)
theorem xN_g {a b : Nat} (h : 0 < a) (ha : a < 2 ^ 31) (hb : b < 2 ^ 31) : (nI b < -nI a) = False := eq_false (fun q => by
  rw [Int32.lt_iff_toInt_lt, sb_negT ha, nI_toInt hb] at q
  omega)
theorem xN_h {a b : Nat} (h : 0 < a) (ha : a < 2 ^ 31) (hb : b < 2 ^ 31) : (-nI a ≤ nI b) = True := eq_true (by
  rw [Int32.le_iff_toInt_le, sb_negT ha, nI_toInt hb]
  omega)
theorem gi_n1 {M : Mm} {k j a b : Nat} {x : Int32} (h : a ≠ k) : gi (si M k j x) a b = gi M a b := gi_si_ne (Or.inl h)
theorem gi_n2 {M : Mm} {k j a b : Nat} {x : Int32} (h : b ≠ j) : gi (si M k j x) a b = gi M a b := gi_si_ne (Or.inr h)
theorem gl_n1 {M : Mm} {k j a b : Nat} {x : Int64} (h : a ≠ k) : gl (sl M k j x) a b = gl M a b := gl_sl_ne (Or.inl h)
theorem gl_n2 {M : Mm} {k j a b : Nat} {x : Int64} (h : b ≠ j) : gl (sl M k j x) a b = gl M a b := gl_sl_ne (Or.inr h)
/-- places 0 .. n - 1 of a cell are x -/
def fli (M : Mm) (k n : Nat) (x : Int32) : Mm := (fun a b => if a = k ∧ b < n then x else M.1 a b, M.2)
theorem gi_fli (M : Mm) (k n : Nat) (x : Int32) (a b : Nat) : gi (fli M k n x) a b = if a = k ∧ b < n then x else gi M a b := rfl
theorem gl_fli (M : Mm) (k n : Nat) (x : Int32) (a b : Nat) : gl (fli M k n x) a b = gl M a b := rfl
theorem gi_fli_in {M : Mm} {k n b : Nat} {x : Int32} (h : b < n) : gi (fli M k n x) k b = x := by rw [gi_fli, if_pos ⟨rfl, h⟩]
theorem gi_fli_ne {M : Mm} {k n a b : Nat} {x : Int32} (h : a ≠ k) : gi (fli M k n x) a b = gi M a b := by rw [gi_fli, if_neg (fun q => h q.1)]
/-- an index by a row's number -/
theorem fli_step (M : Mm) (k i : Nat) (x : Int32) : si (fli M k i x) k i x = fli M k (i + 1) x := by
  apply Prod.ext
  · funext a b
    show (if a = k ∧ b = i then x else if a = k ∧ b < i then x else M.1 a b) = if a = k ∧ b < i + 1 then x else M.1 a b
    by_cases h1 : a = k
    · by_cases h2 : b = i
      · rw [if_pos ⟨h1, h2⟩, if_pos ⟨h1, by omega⟩]
      · by_cases h3 : b < i
        · rw [if_neg (fun q => h2 q.2), if_pos ⟨h1, h3⟩, if_pos ⟨h1, by omega⟩]
        · rw [if_neg (fun q => h2 q.2), if_neg (fun q => h3 q.2), if_neg (fun q => by omega)]
    · rw [if_neg (fun q => h1 q.1), if_neg (fun q => h1 q.1), if_neg (fun q => h1 q.1)]
  · rfl
theorem fli_0 (M : Mm) (k : Nat) (x : Int32) : fli M k 0 x = M := by
  apply Prod.ext
  · funext a b
    show (if a = k ∧ b < 0 then x else M.1 a b) = M.1 a b
    rw [if_neg (fun q => absurd q.2 (Nat.not_lt_zero b))]
  · rfl
theorem J_fill_ok {a n : Nat} {x : Int32} {M : Mm} {Q : Mm → Prop} (hn : n < 2 ^ 31) (h : Q (fli M a n x)) : wp_J_fill a n x M Q := by
  unfold wp_J_fill
  intro x4 e4
  subst e4
  have key : ∀ (m i : Nat), i + m = n → lp_J_fill_5 a n x Q (m + 1) (nI i) (nI n) (fli M a i x) := by
    intro m
    induction m with
    | zero =>
      intro i hi
      have hi : i = n := by omega
      subst hi
      show k_J_fill_5 a i x Q _ (nI i) (nI i) (fli M a i x)
      unfold k_J_fill_5
      simp (disch := omega) only [fa_lit0, xI_le_T, xI_le_F, xI_lt_T, xI_lt_F, xI_eq_T, xI_eq_F, xN_a, xN_b, xN_c, xN_d, xN_e, xN_f, xN_g, xN_h, xI_add, xI_mul, xI_sub, xI_tn, xI_in, xI_ofNat, gi_si_eq, gi_n1, gi_n2, gl_sl_eq, gl_n1, gl_n2, gi_sl, gl_si, forall_eq, true_implies, false_implies, not_true_eq_false, not_false_eq_true, and_true, true_and, implies_true, and_self]
      exact h
    | succ m ih =>
      intro i hi
      show k_J_fill_5 a n x Q _ (nI i) (nI n) (fli M a i x)
      unfold k_J_fill_5
      simp (disch := omega) only [fa_lit0, xI_le_T, xI_le_F, xI_lt_T, xI_lt_F, xI_eq_T, xI_eq_F, xN_a, xN_b, xN_c, xN_d, xN_e, xN_f, xN_g, xN_h, xI_add, xI_mul, xI_sub, xI_tn, xI_in, xI_ofNat, gi_si_eq, gi_n1, gi_n2, gl_sl_eq, gl_n1, gl_n2, gi_sl, gl_si, forall_eq, true_implies, false_implies, not_true_eq_false, not_false_eq_true, and_true, true_and, implies_true, and_self, fli_step]
      exact ih (i + 1) (by omega)
  have := key n 0 (by omega)
  rw [fli_0] at this
  exact ⟨n + 1, this⟩
/-! a number below 0; a number from nI N on -/
theorem ng_a {a : Int32} (h : a < 0) : (a < nI 0) = True := eq_true h
theorem ng_b {a : Int32} (h : a < 0) {n : Nat} (hn : n < 2 ^ 31) : (nI n ≤ a) = False := eq_false (fun q => by
  rw [Int32.lt_iff_toInt_lt] at h
  rw [Int32.le_iff_toInt_le, nI_toInt hn] at q
  have : (0 : Int32).toInt = 0 := rfl
  omega)
theorem ng_c {a : Int32} (h : a < 0) {n : Nat} (hn : n < 2 ^ 31) : (a ≤ nI n) = True := eq_true (by
  rw [Int32.lt_iff_toInt_lt] at h
  rw [Int32.le_iff_toInt_le, nI_toInt hn]
  have : (0 : Int32).toInt = 0 := rfl
  omega)
theorem ng_d {a : Int32} (h : a < 0) {n : Nat} (hn : n < 2 ^ 31) : (nI n < a) = False := eq_false (fun q => by
  rw [Int32.lt_iff_toInt_lt] at h
  rw [Int32.lt_iff_toInt_lt, nI_toInt hn] at q
  have : (0 : Int32).toInt = 0 := rfl
  omega)
theorem ng_e {a : Int32} (h : a < 0) {n : Nat} (hn : n < 2 ^ 31) : (a < nI n) = True := eq_true (by
  rw [Int32.lt_iff_toInt_lt] at h
  rw [Int32.lt_iff_toInt_lt, nI_toInt hn]
  have : (0 : Int32).toInt = 0 := rfl
  omega)
theorem bg_a {a : Int32} {N n : Nat} (h : nI N ≤ a) (hN : N < 2 ^ 31) (hn : n ≤ N) : (a < nI n) = False := eq_false (fun q => by
  rw [Int32.le_iff_toInt_le, nI_toInt hN] at h
  rw [Int32.lt_iff_toInt_lt, nI_toInt (by omega)] at q
  omega)
theorem bg_b {a : Int32} {N n : Nat} (h : nI N ≤ a) (hN : N < 2 ^ 31) (hn : n ≤ N) : (nI n ≤ a) = True := eq_true (by
  rw [Int32.le_iff_toInt_le, nI_toInt hN] at h
  rw [Int32.le_iff_toInt_le, nI_toInt (by omega)]
  omega)
theorem bg_c {a : Int32} {N n : Nat} (h : nI N ≤ a) (hN : N < 2 ^ 31) (hn : n < N) : (nI n < a) = True := eq_true (by
  rw [Int32.le_iff_toInt_le, nI_toInt hN] at h
  rw [Int32.lt_iff_toInt_lt, nI_toInt (by omega)]
  omega)
theorem bg_d {a : Int32} {N n : Nat} (h : nI N ≤ a) (hN : N < 2 ^ 31) (hn : n < N) : (a ≤ nI n) = False := eq_false (fun q => by
  rw [Int32.le_iff_toInt_le, nI_toInt hN] at h
  rw [Int32.le_iff_toInt_le, nI_toInt (by omega)] at q
  omega)
theorem shN_4 : shN 4 = 6 := rfl
theorem shN_13 : shN 13 = 4 := rfl
theorem shR_4 : shR 4 = 40 := rfl
theorem shR_13 : shR 13 = 60 := rfl
theorem zb_0 : zb (nI 0) = True := eq_true (Or.inl rfl)
theorem zb_1 : zb (nI 1) = True := eq_true (Or.inr rfl)
