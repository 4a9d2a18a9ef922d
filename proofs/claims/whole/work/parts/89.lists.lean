/-! how many bits a long number has -/
theorem land5 {a0 a1 a2 a3 a4 b0 b1 b2 b3 b4 : Nat} (h0 : a0 < 2 ^ 8) (h1 : a1 < 2 ^ 8) (h2 : a2 < 2 ^ 8) (h3 : a3 < 2 ^ 8) (h4 : b0 < 2 ^ 8) (h5 : b1 < 2 ^ 8) (h6 : b2 < 2 ^ 8) (h7 : b3 < 2 ^ 8) : (2 ^ 8 * (2 ^ 8 * (2 ^ 8 * (2 ^ 8 * a4 + a3) + a2) + a1) + a0) &&& (2 ^ 8 * (2 ^ 8 * (2 ^ 8 * (2 ^ 8 * b4 + b3) + b2) + b1) + b0) = 2 ^ 8 * (2 ^ 8 * (2 ^ 8 * (2 ^ 8 * (a4 &&& b4) + (a3 &&& b3)) + (a2 &&& b2)) + (a1 &&& b1)) + (a0 &&& b0) := by
  rw [land_split h0 h4, land_split h1 h5, land_split h2 h6, land_split h3 h7]
theorem lor5 {a0 a1 a2 a3 a4 b0 b1 b2 b3 b4 : Nat} (h0 : a0 < 2 ^ 8) (h1 : a1 < 2 ^ 8) (h2 : a2 < 2 ^ 8) (h3 : a3 < 2 ^ 8) (h4 : b0 < 2 ^ 8) (h5 : b1 < 2 ^ 8) (h6 : b2 < 2 ^ 8) (h7 : b3 < 2 ^ 8) : (2 ^ 8 * (2 ^ 8 * (2 ^ 8 * (2 ^ 8 * a4 + a3) + a2) + a1) + a0) ||| (2 ^ 8 * (2 ^ 8 * (2 ^ 8 * (2 ^ 8 * b4 + b3) + b2) + b1) + b0) = 2 ^ 8 * (2 ^ 8 * (2 ^ 8 * (2 ^ 8 * (a4 ||| b4) + (a3 ||| b3)) + (a2 ||| b2)) + (a1 ||| b1)) + (a0 ||| b0) := by
  rw [lor_split h0 h4, lor_split h1 h5, lor_split h2 h6, lor_split h3 h7]
theorem l_ushr {a k : Nat} {D : UInt64} (hD : D.toNat % 64 = k) (h : a < 2 ^ 62) : ((lN a).toUInt64 >>> D).toInt64 = lN (a / 2 ^ k) := by
  apply Int64.toBitVec_inj.mp
  have e : ((lN a).toUInt64 >>> D).toInt64.toBitVec = ((lN a).toUInt64 >>> D).toBitVec := rfl
  rw [e]
  apply BitVec.eq_of_toNat_eq
  have e2 : ((lN a).toUInt64 >>> D).toBitVec.toNat = (lN a).toUInt64.toNat >>> (D.toNat % 64) := UInt64.toNat_shiftRight _ _
  have e3 : (lN a).toUInt64.toNat = a := Nat.mod_eq_of_lt (by omega)
  have e4 : (lN (a / 2 ^ k)).toBitVec.toNat = a / 2 ^ k := Nat.mod_eq_of_lt (by have := Nat.div_le_self a (2 ^ k); omega)
  rw [e2, e3, e4, hD, Nat.shiftRight_eq_div_pow]
theorem l_sub {a b : Nat} (h : b ≤ a) : lN a - lN b = lN (a - b) := by
  have : lN a = lN (a - b) + lN b := by rw [lN_add, Nat.sub_add_cancel h]
  rw [this]
  apply Int64.toBitVec_inj.mp
  rw [Int64.toBitVec_sub, Int64.toBitVec_add, BitVec.add_sub_cancel]
def q1 (d : Nat) : Nat := d - (d / 2 &&& 85)
def q2 (d : Nat) : Nat := (q1 d &&& 51) + (q1 d / 4 &&& 51)
def q3 (d : Nat) : Nat := (q2 d + q2 d / 16) &&& 15
theorem q_b : ∀ d, d < 256 → q1 d < 256 ∧ q2 d ≤ 68 ∧ q3 d ≤ 8 ∧ (d / 2 &&& 85) ≤ d ∧ q2 d % 16 ≤ 4 := by decide +kernel
theorem q_5 : ∀ q, q < 128 → ∀ r, r < 2 → (q + 128 * r) &&& 85 = q &&& 85 := by decide +kernel
theorem q_3 : ∀ q, q < 64 → ∀ r, r < 4 → (q + 64 * r) &&& 51 = q &&& 51 := by decide +kernel
theorem q_f : ∀ q, q < 256 → ∀ r, r < 16 → (q + 16 * r) &&& 15 = q &&& 15 := by decide +kernel
theorem q_c : ∀ m, m < 32 → q3 (8 * rvb m) = cnt m 5 := by decide +kernel
theorem m85 : (6148914691236517205 : Int64) = lN 6148914691236517205 := rfl
theorem m51 : (3689348814741910323 : Int64) = lN 3689348814741910323 := rfl
theorem m15 : (1085102592571150095 : Int64) = lN 1085102592571150095 := rfl
def h5 (a0 a1 a2 a3 a4 : Nat) : Nat := 2 ^ 8 * (2 ^ 8 * (2 ^ 8 * (2 ^ 8 * a4 + a3) + a2) + a1) + a0
theorem JL_count {a0 a1 a2 a3 a4 : Nat} (h0 : a0 < 256) (h1 : a1 < 256) (h2 : a2 < 256) (h3 : a3 < 256) (h4 : a4 < 256) {M : Mm} {Q : Int32 → Mm → Prop} (h : Q (nI (q3 a0 + q3 a1 + q3 a2 + q3 a3 + q3 a4)) M) : wp_JL_bitCount (lN (h5 a0 a1 a2 a3 a4)) M Q := by
  have b0 := q_b a0 h0
  have b1 := q_b a1 h1
  have b2 := q_b a2 h2
  have b3 := q_b a3 h3
  have b4 := q_b a4 h4
  have lt5 : ∀ {x0 x1 x2 x3 x4 : Nat}, x0 < 256 → x1 < 256 → x2 < 256 → x3 < 256 → x4 < 256 → h5 x0 x1 x2 x3 x4 < 2 ^ 40 := by
    intro x0 x1 x2 x3 x4 g0 g1 g2 g3 g4
    unfold h5
    omega
  unfold wp_JL_bitCount
  intro x9 e9 x23 e23 x33 e33 x40 e40 x47 e47 x54 e54
  have s1 : h5 a0 a1 a2 a3 a4 / 2 ^ 1 = h5 (a0 / 2 + 128 * (a1 % 2)) (a1 / 2 + 128 * (a2 % 2)) (a2 / 2 + 128 * (a3 % 2)) (a3 / 2 + 128 * (a4 % 2)) (a4 / 2) := by unfold h5; omega
  have k1 : h5 (a0 / 2 + 128 * (a1 % 2)) (a1 / 2 + 128 * (a2 % 2)) (a2 / 2 + 128 * (a3 % 2)) (a3 / 2 + 128 * (a4 % 2)) (a4 / 2) &&& 6148914691236517205 = h5 (a0 / 2 &&& 85) (a1 / 2 &&& 85) (a2 / 2 &&& 85) (a3 / 2 &&& 85) (a4 / 2 &&& 85) := by
    have e : (6148914691236517205 : Nat) = 2 ^ 8 * (2 ^ 8 * (2 ^ 8 * (2 ^ 8 * (2 ^ 8 * 5592405 + 85) + 85) + 85) + 85) + 85 := by decide
    have f : (a4 / 2 &&& (2 ^ 8 * 5592405 + 85)) = (a4 / 2 &&& 85) := by
      have := land_split (k := 8) (a := 0) (b := a4 / 2) (c := 5592405) (d := 85) (by omega) (by omega)
      rw [Nat.mul_zero, Nat.zero_add, Nat.zero_and, Nat.mul_zero, Nat.zero_add] at this
      exact this
    unfold h5
    rw [e, land5 (by omega) (by omega) (by omega) (by omega) (by omega) (by omega) (by omega) (by omega), q_5 (a0 / 2) (by omega) (a1 % 2) (by omega), q_5 (a1 / 2) (by omega) (a2 % 2) (by omega), q_5 (a2 / 2) (by omega) (a3 % 2) (by omega), q_5 (a3 / 2) (by omega) (a4 % 2) (by omega), f]
  rw [l_ushr (k := 1) (by decide) (Nat.lt_trans (lt5 h0 h1 h2 h3 h4) (by decide)), s1, m85, l_and, k1, l_sub (by unfold h5; omega)] at e9
  have d1 : h5 a0 a1 a2 a3 a4 - h5 (a0 / 2 &&& 85) (a1 / 2 &&& 85) (a2 / 2 &&& 85) (a3 / 2 &&& 85) (a4 / 2 &&& 85) = h5 (q1 a0) (q1 a1) (q1 a2) (q1 a3) (q1 a4) := by
    unfold h5 q1
    omega
  rw [d1] at e9
  subst e9
  have q1lt := lt5 b0.1 b1.1 b2.1 b3.1 b4.1
  have mk3 : ∀ {x0 x1 x2 x3 x4 : Nat}, x0 < 256 → x1 < 256 → x2 < 256 → x3 < 256 → x4 < 256 → h5 x0 x1 x2 x3 x4 &&& 3689348814741910323 = h5 (x0 &&& 51) (x1 &&& 51) (x2 &&& 51) (x3 &&& 51) (x4 &&& 51) := by
    intro x0 x1 x2 x3 x4 g0 g1 g2 g3 g4
    have e : (3689348814741910323 : Nat) = 2 ^ 8 * (2 ^ 8 * (2 ^ 8 * (2 ^ 8 * (2 ^ 8 * 3355443 + 51) + 51) + 51) + 51) + 51 := by decide
    have f : (x4 &&& (2 ^ 8 * 3355443 + 51)) = (x4 &&& 51) := by
      have := land_split (k := 8) (a := 0) (b := x4) (c := 3355443) (d := 51) (by omega) (by omega)
      rw [Nat.mul_zero, Nat.zero_add, Nat.zero_and, Nat.mul_zero, Nat.zero_add] at this
      exact this
    unfold h5
    rw [e, land5 (by omega) (by omega) (by omega) (by omega) (by omega) (by omega) (by omega) (by omega), f]
  have s2 : h5 (q1 a0) (q1 a1) (q1 a2) (q1 a3) (q1 a4) / 2 ^ 2 = h5 (q1 a0 / 4 + 64 * (q1 a1 % 4)) (q1 a1 / 4 + 64 * (q1 a2 % 4)) (q1 a2 / 4 + 64 * (q1 a3 % 4)) (q1 a3 / 4 + 64 * (q1 a4 % 4)) (q1 a4 / 4) := by unfold h5; omega
  rw [l_ushr (k := 2) (by decide) (Nat.lt_trans q1lt (by decide)), s2, m51, l_and, l_and, mk3 b0.1 b1.1 b2.1 b3.1 b4.1, mk3 (by omega) (by omega) (by omega) (by omega) (by omega), q_3 (q1 a0 / 4) (by omega) (q1 a1 % 4) (by omega), q_3 (q1 a1 / 4) (by omega) (q1 a2 % 4) (by omega), q_3 (q1 a2 / 4) (by omega) (q1 a3 % 4) (by omega), q_3 (q1 a3 / 4) (by omega) (q1 a4 % 4) (by omega), lN_add] at e23
  have d2 : h5 (q1 a0 &&& 51) (q1 a1 &&& 51) (q1 a2 &&& 51) (q1 a3 &&& 51) (q1 a4 &&& 51) + h5 (q1 a0 / 4 &&& 51) (q1 a1 / 4 &&& 51) (q1 a2 / 4 &&& 51) (q1 a3 / 4 &&& 51) (q1 a4 / 4 &&& 51) = h5 (q2 a0) (q2 a1) (q2 a2) (q2 a3) (q2 a4) := by
    unfold h5 q2
    omega
  rw [d2] at e23
  subst e23
  have q2lt := lt5 (show q2 a0 < 256 by omega) (show q2 a1 < 256 by omega) (show q2 a2 < 256 by omega) (show q2 a3 < 256 by omega) (show q2 a4 < 256 by omega)
  have s3 : h5 (q2 a0) (q2 a1) (q2 a2) (q2 a3) (q2 a4) + h5 (q2 a0) (q2 a1) (q2 a2) (q2 a3) (q2 a4) / 2 ^ 4 = h5 (q2 a0 + q2 a0 / 16 + 16 * (q2 a1 % 16)) (q2 a1 + q2 a1 / 16 + 16 * (q2 a2 % 16)) (q2 a2 + q2 a2 / 16 + 16 * (q2 a3 % 16)) (q2 a3 + q2 a3 / 16 + 16 * (q2 a4 % 16)) (q2 a4 + q2 a4 / 16) := by unfold h5; omega
  have k3 : h5 (q2 a0 + q2 a0 / 16 + 16 * (q2 a1 % 16)) (q2 a1 + q2 a1 / 16 + 16 * (q2 a2 % 16)) (q2 a2 + q2 a2 / 16 + 16 * (q2 a3 % 16)) (q2 a3 + q2 a3 / 16 + 16 * (q2 a4 % 16)) (q2 a4 + q2 a4 / 16) &&& 1085102592571150095 = h5 (q3 a0) (q3 a1) (q3 a2) (q3 a3) (q3 a4) := by
    have e : (1085102592571150095 : Nat) = 2 ^ 8 * (2 ^ 8 * (2 ^ 8 * (2 ^ 8 * (2 ^ 8 * 986895 + 15) + 15) + 15) + 15) + 15 := by decide
    have f : (q2 a4 + q2 a4 / 16 &&& (2 ^ 8 * 986895 + 15)) = (q2 a4 + q2 a4 / 16 &&& 15) := by
      have := land_split (k := 8) (a := 0) (b := q2 a4 + q2 a4 / 16) (c := 986895) (d := 15) (by omega) (by omega)
      rw [Nat.mul_zero, Nat.zero_add, Nat.zero_and, Nat.mul_zero, Nat.zero_add] at this
      exact this
    unfold h5 q3
    rw [e, land5 (by omega) (by omega) (by omega) (by omega) (by omega) (by omega) (by omega) (by omega), f, q_f _ (by omega) (q2 a1 % 16) (by omega), q_f _ (by omega) (q2 a2 % 16) (by omega), q_f _ (by omega) (q2 a3 % 16) (by omega), q_f _ (by omega) (q2 a4 % 16) (by omega)]
  rw [l_ushr (k := 4) (by decide) (Nat.lt_trans q2lt (by decide)), lN_add, s3, m15, l_and, k3] at e33
  subst e33
  have q3lt := lt5 (show q3 a0 < 256 by omega) (show q3 a1 < 256 by omega) (show q3 a2 < 256 by omega) (show q3 a3 < 256 by omega) (show q3 a4 < 256 by omega)
  have s4 : h5 (q3 a0) (q3 a1) (q3 a2) (q3 a3) (q3 a4) + h5 (q3 a0) (q3 a1) (q3 a2) (q3 a3) (q3 a4) / 2 ^ 8 = h5 (q3 a0 + q3 a1) (q3 a1 + q3 a2) (q3 a2 + q3 a3) (q3 a3 + q3 a4) (q3 a4) := by unfold h5; omega
  rw [l_ushr (k := 8) (by decide) (Nat.lt_trans q3lt (by decide)), lN_add, s4] at e40
  subst e40
  have lt4 := lt5 (show q3 a0 + q3 a1 < 256 by omega) (show q3 a1 + q3 a2 < 256 by omega) (show q3 a2 + q3 a3 < 256 by omega) (show q3 a3 + q3 a4 < 256 by omega) (show q3 a4 < 256 by omega)
  have s5 : h5 (q3 a0 + q3 a1) (q3 a1 + q3 a2) (q3 a2 + q3 a3) (q3 a3 + q3 a4) (q3 a4) + h5 (q3 a0 + q3 a1) (q3 a1 + q3 a2) (q3 a2 + q3 a3) (q3 a3 + q3 a4) (q3 a4) / 2 ^ 16 = h5 (q3 a0 + q3 a1 + (q3 a2 + q3 a3)) (q3 a1 + q3 a2 + (q3 a3 + q3 a4)) (q3 a2 + q3 a3 + q3 a4) (q3 a3 + q3 a4) (q3 a4) := by unfold h5; omega
  rw [l_ushr (k := 16) (by decide) (Nat.lt_trans lt4 (by decide)), lN_add, s5] at e47
  subst e47
  have lt6 := lt5 (show q3 a0 + q3 a1 + (q3 a2 + q3 a3) < 256 by omega) (show q3 a1 + q3 a2 + (q3 a3 + q3 a4) < 256 by omega) (show q3 a2 + q3 a3 + q3 a4 < 256 by omega) (show q3 a3 + q3 a4 < 256 by omega) (show q3 a4 < 256 by omega)
  have s6 : h5 (q3 a0 + q3 a1 + (q3 a2 + q3 a3)) (q3 a1 + q3 a2 + (q3 a3 + q3 a4)) (q3 a2 + q3 a3 + q3 a4) (q3 a3 + q3 a4) (q3 a4) + h5 (q3 a0 + q3 a1 + (q3 a2 + q3 a3)) (q3 a1 + q3 a2 + (q3 a3 + q3 a4)) (q3 a2 + q3 a3 + q3 a4) (q3 a3 + q3 a4) (q3 a4) / 2 ^ 32 = h5 (q3 a0 + q3 a1 + (q3 a2 + q3 a3) + q3 a4) (q3 a1 + q3 a2 + (q3 a3 + q3 a4)) (q3 a2 + q3 a3 + q3 a4) (q3 a3 + q3 a4) (q3 a4) := by unfold h5; omega
  rw [l_ushr (k := 32) (by decide) (Nat.lt_trans lt6 (by decide)), lN_add, s6] at e54
  subst e54
  have e127 : (127 : Int32) = nI 127 := rfl
  rw [lN_i, e127, bs_and, show (127 : Nat) = 2 ^ 7 - 1 from rfl, Nat.and_two_pow_sub_one_eq_mod]
  have s7 : h5 (q3 a0 + q3 a1 + (q3 a2 + q3 a3) + q3 a4) (q3 a1 + q3 a2 + (q3 a3 + q3 a4)) (q3 a2 + q3 a3 + q3 a4) (q3 a3 + q3 a4) (q3 a4) % 2 ^ 7 = q3 a0 + q3 a1 + q3 a2 + q3 a3 + q3 a4 := by unfold h5; omega
  rw [s7]
  exact h
theorem vl_h5 (B : Nat → Nat) : vl B = h5 (8 * rvb (B 4)) (8 * rvb (B 3)) (8 * rvb (B 2)) (8 * rvb (B 1)) (8 * rvb (B 0)) := rfl
theorem vl_lt (B : Nat → Nat) : vl B < 2 ^ 40 := by
  have := rv_lt (B 0)
  have := rv_lt (B 1)
  have := rv_lt (B 2)
  have := rv_lt (B 3)
  have := rv_lt (B 4)
  unfold vl
  omega
theorem JL_ct {B : Nat → Nat} (hB : ∀ i, i < 5 → B i < 32) {M : Mm} {Q : Int32 → Mm → Prop} (h : Q (nI (ct B)) M) : wp_JL_bitCount (lN (vl B)) M Q := by
  have r0 := rv_lt (B 0)
  have r1 := rv_lt (B 1)
  have r2 := rv_lt (B 2)
  have r3 := rv_lt (B 3)
  have r4 := rv_lt (B 4)
  rw [vl_h5]
  refine JL_count (by omega) (by omega) (by omega) (by omega) (by omega) ?_
  rw [q_c _ (hB 0 (by omega)), q_c _ (hB 1 (by omega)), q_c _ (hB 2 (by omega)), q_c _ (hB 3 (by omega)), q_c _ (hB 4 (by omega))]
  have e : cnt (B 4) 5 + cnt (B 3) 5 + cnt (B 2) 5 + cnt (B 1) 5 + cnt (B 0) 5 = ct B := by unfold ct; omega
  rw [e]
  exact h
theorem ct_le (B : Nat → Nat) : ct B ≤ 25 := by
  have := cnt_5 (B 0)
  have := cnt_5 (B 1)
  have := cnt_5 (B 2)
  have := cnt_5 (B 3)
  have := cnt_5 (B 4)
  unfold ct
  omega
/-- a row more -/
theorem vl_or {B : Nat → Nat} {b m : Nat} (hb : b < 5) (h : B b = 0) : lN (vl B) ||| lN (8 * rvb m * 256 ^ (4 - b)) = lN (vl (up B b m)) := by
  rw [l_or]
  have r0 := rv_lt (B 0)
  have r1 := rv_lt (B 1)
  have r2 := rv_lt (B 2)
  have r3 := rv_lt (B 3)
  have r4 := rv_lt (B 4)
  have rm := rv_lt m
  refine congrArg lN ?_
  have e : 8 * rvb m * 256 ^ (4 - b) = vl (up (fun _ => 0) b m) := by
    unfold vl
    rcases (show b = 0 ∨ b = 1 ∨ b = 2 ∨ b = 3 ∨ b = 4 by omega) with e | e | e | e | e <;> subst e <;> simp (disch := omega) only [up_eq, up_ne, rv_0, Nat.reduceSub, Nat.reducePow] <;> omega
  rw [e]
  unfold vl
  have u1 := rv_lt (up (fun _ => 0) b m 1)
  have u2 := rv_lt (up (fun _ => 0) b m 2)
  have u3 := rv_lt (up (fun _ => 0) b m 3)
  have u4 := rv_lt (up (fun _ => 0) b m 4)
  rw [lor5 (by omega) (by omega) (by omega) (by omega) (by omega) (by omega) (by omega) (by omega)]
  rcases (show b = 0 ∨ b = 1 ∨ b = 2 ∨ b = 3 ∨ b = 4 by omega) with e | e | e | e | e <;> subst e <;> simp (disch := omega) only [up_eq, up_ne, h, rv_0, Nat.mul_zero, Nat.or_zero, Nat.zero_or]
/-! places in their order -/
def be (B : Nat → Nat) (q : Nat) : Nat := if q % 8 < 5 then B (q / 8) / 2 ^ (q % 8) % 2 else 0
def cn (b : Nat → Nat) : Nat → Nat
  | 0 => 0
  | q + 1 => cn b q + b q
def vs (b : Nat → Nat) : Nat → Nat
  | 0 => 0
  | q + 1 => 2 * vs b q + b q
theorem be_le (B : Nat → Nat) (q : Nat) : be B q ≤ 1 := by unfold be; split <;> omega
theorem be_at (B : Nat → Nat) {i j : Nat} (hj : j < 5) : be B (8 * i + j) = B i / 2 ^ j % 2 := by
  unfold be
  rw [show (8 * i + j) % 8 = j by omega, show (8 * i + j) / 8 = i by omega, if_pos hj]
theorem be_z (B : Nat → Nat) {i j : Nat} (hj : 5 ≤ j) (h2 : j < 8) : be B (8 * i + j) = 0 := by
  unfold be
  rw [show (8 * i + j) % 8 = j by omega, if_neg (by omega)]
theorem row8 (B : Nat → Nat) (i : Nat) : cn (be B) (8 * (i + 1)) = cn (be B) (8 * i) + cnt (B i) 5 ∧ vs (be B) (8 * (i + 1)) = 256 * vs (be B) (8 * i) + 8 * rvb (B i) := by
  rw [show 8 * (i + 1) = 8 * i + 7 + 1 by omega]
  have c : cn (be B) (8 * i + 7 + 1) = ((((((((cn (be B) (8 * i) + be B (8 * i)) + be B (8 * i + 1)) + be B (8 * i + 2)) + be B (8 * i + 3)) + be B (8 * i + 4)) + be B (8 * i + 5)) + be B (8 * i + 6)) + be B (8 * i + 7)) := rfl
  have v : vs (be B) (8 * i + 7 + 1) = 2 * (2 * (2 * (2 * (2 * (2 * (2 * (2 * vs (be B) (8 * i) + be B (8 * i)) + be B (8 * i + 1)) + be B (8 * i + 2)) + be B (8 * i + 3)) + be B (8 * i + 4)) + be B (8 * i + 5)) + be B (8 * i + 6)) + be B (8 * i + 7) := rfl
  have b0 : be B (8 * i) = B i / 2 ^ 0 % 2 := be_at B (j := 0) (by omega)
  rw [c, v, b0, be_at B (show 1 < 5 by omega), be_at B (show 2 < 5 by omega), be_at B (show 3 < 5 by omega), be_at B (show 4 < 5 by omega), be_z B (show 5 ≤ 5 by omega) (by omega), be_z B (show 5 ≤ 6 by omega) (by omega), be_z B (show 5 ≤ 7 by omega) (by omega)]
  have e : cnt (B i) 5 = ((((0 + B i / 2 ^ 0 % 2) + B i / 2 ^ 1 % 2) + B i / 2 ^ 2 % 2) + B i / 2 ^ 3 % 2) + B i / 2 ^ 4 % 2 := rfl
  rw [e]
  unfold rvb
  simp only [Nat.reducePow, Nat.div_one]
  omega
theorem row40 (B : Nat → Nat) : cn (be B) 40 = ct B ∧ vs (be B) 40 = vl B := by
  have a0 := row8 B 0
  have a1 := row8 B 1
  have a2 := row8 B 2
  have a3 := row8 B 3
  have a4 := row8 B 4
  have z1 : cn (be B) (8 * 0) = 0 := rfl
  have z2 : vs (be B) (8 * 0) = 0 := rfl
  unfold ct vl
  simp only [Nat.reduceMul, Nat.reduceAdd] at *
  omega
theorem cn_mo (b : Nat → Nat) : ∀ d q, cn b q ≤ cn b (q + d) := by
  intro d
  induction d with
  | zero => intro q; exact Nat.le_refl _
  | succ d ih => intro q; have := ih q; show cn b q ≤ cn b (q + d) + b (q + d); omega
theorem cn_eq {b b' : Nat → Nat} : ∀ q, (∀ p, p < q → b p = b' p) → cn b q = cn b' q ∧ vs b q = vs b' q := by
  intro q
  induction q with
  | zero => intro _; exact ⟨rfl, rfl⟩
  | succ q ih =>
    intro h
    obtain ⟨h1, h2⟩ := ih (fun p hp => h p (by omega))
    show cn b q + b q = cn b' q + b' q ∧ 2 * vs b q + b q = 2 * vs b' q + b' q
    rw [h1, h2, h q (by omega)]
    exact ⟨rfl, rfl⟩
/-- the next place at or behind q -/
theorem cn_nx {b : Nat → Nat} (hb : ∀ q, b q ≤ 1) : ∀ d q, cn b q < cn b (q + d) → ∃ p, q ≤ p ∧ p < q + d ∧ b p = 1 ∧ cn b p = cn b q := by
  intro d
  induction d with
  | zero => intro q h; exact absurd h (Nat.lt_irrefl _)
  | succ d ih =>
    intro q h
    by_cases c : cn b q < cn b (q + d)
    · obtain ⟨p, h1, h2, h3, h4⟩ := ih q c
      exact ⟨p, h1, by omega, h3, h4⟩
    · have := cn_mo b d q
      have e : cn b (q + (d + 1)) = cn b (q + d) + b (q + d) := rfl
      have := hb (q + d)
      exact ⟨q + d, by omega, by omega, by omega, by omega⟩
theorem vs_b {b : Nat → Nat} (hb : ∀ q, b q ≤ 1) : ∀ d q, 2 ^ d * vs b q ≤ vs b (q + d) ∧ vs b (q + d) < 2 ^ d * (vs b q + 1) := by
  intro d
  induction d with
  | zero => intro q; rw [Nat.pow_zero, Nat.one_mul, Nat.one_mul]; exact ⟨Nat.le_refl _, Nat.lt_succ_self _⟩
  | succ d ih =>
    intro q
    obtain ⟨h1, h2⟩ := ih q
    have e : vs b (q + (d + 1)) = 2 * vs b (q + d) + b (q + d) := rfl
    have := hb (q + d)
    rw [e, Nat.pow_succ, Nat.mul_comm (2 ^ d) 2, Nat.mul_assoc, Nat.mul_assoc]
    omega
theorem vs_lt {b b' : Nat → Nat} (hb : ∀ q, b q ≤ 1) (hb' : ∀ q, b' q ≤ 1) {q : Nat} (hq : q < 40) (h : ∀ p, p < q → b p = b' p) (h1 : b q = 1) (h2 : b' q = 0) : vs b' 40 < vs b 40 := by
  have e := (cn_eq q h).2
  have a := vs_b hb (39 - q) (q + 1)
  have a' := vs_b hb' (39 - q) (q + 1)
  have s1 : vs b (q + 1) = 2 * vs b q + b q := rfl
  have s2 : vs b' (q + 1) = 2 * vs b' q + b' q := rfl
  rw [show q + 1 + (39 - q) = 40 by omega] at a a'
  rw [show vs b' (q + 1) + 1 = vs b (q + 1) by omega] at a'
  omega
theorem fst_df (b b' : Nat → Nat) : ∀ N, (∀ p, p < N → b p = b' p) ∨ ∃ q, q < N ∧ (∀ p, p < q → b p = b' p) ∧ b q ≠ b' q := by
  intro N
  induction N with
  | zero => exact Or.inl (fun p hp => by omega)
  | succ N ih =>
    rcases ih with h | ⟨q, h1, h2, h3⟩
    · by_cases c : b N = b' N
      · refine Or.inl (fun p hp => ?_)
        by_cases d : p = N
        · subst d; exact c
        · exact h p (by omega)
      · exact Or.inr ⟨N, by omega, h, c⟩
    · exact Or.inr ⟨q, by omega, h2, h3⟩
/-- a list of places lies in a cell -/
def LI (M : Mm) (k : Nat) (B : Nat → Nat) : Prop := ∀ q, q < 40 → be B q = 1 → gi M k (cn (be B) q) = nI q
theorem vl_inj {B B' : Nat → Nat} (h : vl B = vl B') : ∀ q, q < 40 → be B q = be B' q := by
  intro q hq
  rcases fst_df (be B) (be B') 40 with h1 | ⟨p, h1, h2, h3⟩
  · exact h1 q hq
  · exfalso
    have a := be_le B p
    have a' := be_le B' p
    have e := (row40 B).2
    have e' := (row40 B').2
    rcases (show (be B p = 1 ∧ be B' p = 0) ∨ (be B' p = 1 ∧ be B p = 0) by omega) with ⟨w1, w2⟩ | ⟨w1, w2⟩
    · have := vs_lt (be_le B) (be_le B') h1 h2 w1 w2
      omega
    · have := vs_lt (be_le B') (be_le B) h1 (fun p hp => (h2 p hp).symm) w1 w2
      omega
