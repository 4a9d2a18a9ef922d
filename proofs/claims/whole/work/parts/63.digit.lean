/-! digits of packed numbers -/
theorem xI_rem {a b : Nat} (ha : a < 2 ^ 31) (h0 : 0 < b) (hb : b < 2 ^ 31) : nI a - nI a / nI b * nI b = nI (a % b) := pk_rem ha h0 hb
theorem am32 : ∀ k, k < 32 → ((nI k &&& nI 31).toBitVec.smod 32).toNat = k := by decide +kernel
theorem am64 : ∀ k, k < 64 → (((nI k).toInt64 &&& 63).toBitVec.smod 64).toNat = k := by decide +kernel
theorem dg_shr {s k : Nat} (hs : s < 2 ^ 31) (hk : k < 32) : nI s >>> (nI k &&& nI 31) = nI (s / 2 ^ k) := pk_shrN hs _ k (am32 k hk)
theorem dg_shl {s k : Nat} (hk : k < 32) (hs : s * 2 ^ k < 2 ^ 32) : nI s <<< (nI k &&& nI 31) = nI (s * 2 ^ k) := pk_shlN _ k (am32 k hk) hs
theorem dg_15 {s : Nat} (hs : s < 2 ^ 32) : nI s &&& nI 15 = nI (s % 16) := pk_andN hs 4 (by decide)
theorem dg_31 {s : Nat} (hs : s < 2 ^ 32) : nI s &&& nI 31 = nI (s % 32) := pk_andN hs 5 (by decide)
theorem l_shr {a d : Nat} {D : Int64} (hD : (D.toBitVec.smod 64).toNat = d) (h : a < 2 ^ 62) : lN a >>> D = lN (a / 2 ^ d) := by
  have hd : a / 2 ^ d ≤ a := Nat.div_le_self _ _
  apply Int64.toInt_inj.mp
  have e : (lN a >>> D).toInt = (lN a).toInt >>> d := by
    rw [← hD]
    exact BitVec.toInt_sshiftRight ..
  rw [e, Int.shiftRight_eq_div_pow, pk_lT (by omega), pk_lT (by omega)]
  rfl
theorem l_and (a b : Nat) : lN a &&& lN b = lN (a &&& b) := by
  apply Int64.toBitVec_inj.mp
  show (Int64.ofNat a &&& Int64.ofNat b).toBitVec = (Int64.ofNat (a &&& b)).toBitVec
  rw [Int64.toBitVec_and, Int64.toBitVec_ofNat', Int64.toBitVec_ofNat', Int64.toBitVec_ofNat']
  exact (BitVec.ofNat_and).symm
theorem l_or (a b : Nat) : lN a ||| lN b = lN (a ||| b) := by
  apply Int64.toBitVec_inj.mp
  show (Int64.ofNat a ||| Int64.ofNat b).toBitVec = (Int64.ofNat (a ||| b)).toBitVec
  rw [Int64.toBitVec_or, Int64.toBitVec_ofNat', Int64.toBitVec_ofNat', Int64.toBitVec_ofNat']
  exact (BitVec.ofNat_or).symm
theorem l_shl {a k : Nat} {y : Int64} (hy : (y.toBitVec.smod 64).toNat = k) (hk : k < 64) (ha : a < 2 ^ 64) : lN a <<< y = lN (a * 2 ^ k) := by
  apply Int64.toBitVec_inj.mp
  rw [Int64.toBitVec_shiftLeft]
  apply BitVec.eq_of_toNat_eq
  have hb : (lN a).toBitVec.toNat = a := Nat.mod_eq_of_lt ha
  have h : ((lN a).toBitVec <<< (y.toBitVec.smod 64)).toNat = (a * 2 ^ k) % 2 ^ 64 := by simp only [BitVec.shiftLeft_eq', BitVec.toNat_shiftLeft, hb, hy, Nat.shiftLeft_eq]
  exact h
theorem dg_h {s i : Nat} (hs : s < 2 ^ 62) (hi : i < 5) : (((lN s) >>> ((nI (8 * i)).toInt64 &&& 63)) &&& 255).toInt32 = nI (s / 256 ^ i % 256) := by
  rw [l_shr (am64 (8 * i) (by omega)) hs, show (255 : Int64) = lN 255 from rfl, l_and, lN_i, show (255 : Nat) = 2 ^ 8 - 1 from rfl, Nat.and_two_pow_sub_one_eq_mod, Nat.pow_mul]
theorem dg_hadd {s i x : Nat} (hx : x ≤ 1) (hi : i < 5) : lN s + ((nI x).toInt64 <<< ((nI (8 * i)).toInt64 &&& 63)) = lN (s + x * 256 ^ i) := by
  rw [nI_l (by omega), l_shl (am64 (8 * i) (by omega)) (by omega) (by omega), lN_add, Nat.pow_mul]
theorem dg_s {s i : Nat} (hs : s < 2 ^ 31) (hi : i < 5) : (nI s >>> (nI (4 * i) &&& nI 31)) &&& nI 15 = nI (s / 16 ^ i % 16) := by
  have := Nat.div_le_self s (2 ^ (4 * i))
  rw [dg_shr hs (by omega), dg_15 (by omega), Nat.pow_mul]
theorem land_split {k a b c d : Nat} (hb : b < 2 ^ k) (hd : d < 2 ^ k) : (2 ^ k * a + b) &&& (2 ^ k * c + d) = 2 ^ k * (a &&& c) + (b &&& d) := by
  apply Nat.eq_of_testBit_eq
  intro j
  rw [Nat.testBit_and, Nat.testBit_two_pow_mul_add a hb, Nat.testBit_two_pow_mul_add c hd, Nat.testBit_two_pow_mul_add _ (Nat.lt_of_le_of_lt Nat.and_le_left hb)]
  split
  · rw [Nat.testBit_and]
  · rw [Nat.testBit_and]
theorem lor_split {k a b c d : Nat} (hb : b < 2 ^ k) (hd : d < 2 ^ k) : (2 ^ k * a + b) ||| (2 ^ k * c + d) = 2 ^ k * (a ||| c) + (b ||| d) := by
  apply Nat.eq_of_testBit_eq
  intro j
  rw [Nat.testBit_or, Nat.testBit_two_pow_mul_add a hb, Nat.testBit_two_pow_mul_add c hd, Nat.testBit_two_pow_mul_add _ (Nat.or_lt_two_pow hb hd)]
  split
  · rw [Nat.testBit_or]
  · rw [Nat.testBit_or]
theorem msk : ∀ i, i < 5 → ((nI 15 <<< (nI (4 * i) &&& nI 31)) ^^^ (-nI 1)) = nI (2 ^ 32 - 1 - 15 * 16 ^ i) := by decide +kernel
theorem land_full {a k : Nat} (h : a < 2 ^ k) : a &&& (2 ^ k - 1) = a := by rw [Nat.and_two_pow_sub_one_eq_mod, Nat.mod_eq_of_lt h]
theorem land_dig {s i : Nat} (hs : s < 2 ^ 20) (hi : i < 5) : s &&& (2 ^ 32 - 1 - 15 * 16 ^ i) = s - s / 16 ^ i % 16 * 16 ^ i := by
  rcases (show i = 0 ∨ i = 1 ∨ i = 2 ∨ i = 3 ∨ i = 4 by omega) with rfl | rfl | rfl | rfl | rfl
  · have e : s = 2 ^ 4 * (s / 16) + s % 16 := by omega
    have := land_split (k := 4) (a := s / 16) (b := s % 16) (c := 2 ^ 28 - 1) (d := 0) (by omega) (by omega)
    rw [← e, land_full (k := 28) (by omega), Nat.and_zero] at this
    rw [show (2 ^ 32 - 1 - 15 * 16 ^ 0 : Nat) = 2 ^ 4 * (2 ^ 28 - 1) + 0 from rfl, this]
    simp only [Nat.reducePow]
    omega
  · have e : s = 2 ^ 8 * (s / 256) + (2 ^ 4 * (s / 16 % 16) + s % 16) := by omega
    have h1 := land_split (k := 4) (a := s / 16 % 16) (b := s % 16) (c := 0) (d := 2 ^ 4 - 1) (by omega) (by omega)
    have := land_split (k := 8) (a := s / 256) (b := 2 ^ 4 * (s / 16 % 16) + s % 16) (c := 2 ^ 24 - 1) (d := 2 ^ 4 * 0 + (2 ^ 4 - 1)) (by omega) (by omega)
    rw [← e, h1, land_full (k := 24) (by omega), land_full (k := 4) (by omega), Nat.and_zero] at this
    rw [show (2 ^ 32 - 1 - 15 * 16 ^ 1 : Nat) = 2 ^ 8 * (2 ^ 24 - 1) + (2 ^ 4 * 0 + (2 ^ 4 - 1)) from rfl, this]
    simp only [Nat.reducePow]
    omega
  · have e : s = 2 ^ 12 * (s / 4096) + (2 ^ 8 * (s / 256 % 16) + s % 256) := by omega
    have h1 := land_split (k := 8) (a := s / 256 % 16) (b := s % 256) (c := 0) (d := 2 ^ 8 - 1) (by omega) (by omega)
    have := land_split (k := 12) (a := s / 4096) (b := 2 ^ 8 * (s / 256 % 16) + s % 256) (c := 2 ^ 20 - 1) (d := 2 ^ 8 * 0 + (2 ^ 8 - 1)) (by omega) (by omega)
    rw [← e, h1, land_full (k := 20) (by omega), land_full (k := 8) (by omega), Nat.and_zero] at this
    rw [show (2 ^ 32 - 1 - 15 * 16 ^ 2 : Nat) = 2 ^ 12 * (2 ^ 20 - 1) + (2 ^ 8 * 0 + (2 ^ 8 - 1)) from rfl, this]
    simp only [Nat.reducePow]
    omega
  · have e : s = 2 ^ 16 * (s / 65536) + (2 ^ 12 * (s / 4096 % 16) + s % 4096) := by omega
    have h1 := land_split (k := 12) (a := s / 4096 % 16) (b := s % 4096) (c := 0) (d := 2 ^ 12 - 1) (by omega) (by omega)
    have := land_split (k := 16) (a := s / 65536) (b := 2 ^ 12 * (s / 4096 % 16) + s % 4096) (c := 2 ^ 16 - 1) (d := 2 ^ 12 * 0 + (2 ^ 12 - 1)) (by omega) (by omega)
    rw [← e, h1, land_full (k := 16) (by omega), land_full (k := 12) (by omega), Nat.and_zero] at this
    rw [show (2 ^ 32 - 1 - 15 * 16 ^ 3 : Nat) = 2 ^ 16 * (2 ^ 16 - 1) + (2 ^ 12 * 0 + (2 ^ 12 - 1)) from rfl, this]
    simp only [Nat.reducePow]
    omega
  · have e : s = 2 ^ 20 * (s / 1048576) + (2 ^ 16 * (s / 65536 % 16) + s % 65536) := by omega
    have h1 := land_split (k := 16) (a := s / 65536 % 16) (b := s % 65536) (c := 0) (d := 2 ^ 16 - 1) (by omega) (by omega)
    have := land_split (k := 20) (a := s / 1048576) (b := 2 ^ 16 * (s / 65536 % 16) + s % 65536) (c := 2 ^ 12 - 1) (d := 2 ^ 16 * 0 + (2 ^ 16 - 1)) (by omega) (by omega)
    rw [← e, h1, land_full (k := 12) (by omega), land_full (k := 16) (by omega), Nat.and_zero] at this
    rw [show (2 ^ 32 - 1 - 15 * 16 ^ 4 : Nat) = 2 ^ 20 * (2 ^ 12 - 1) + (2 ^ 16 * 0 + (2 ^ 16 - 1)) from rfl, this]
    simp only [Nat.reducePow]
    omega
/-- a digit 0 is written -/
theorem lor_dig {s v k : Nat} (h : s / 2 ^ k % 16 = 0) (hv : v < 16) : s ||| v * 2 ^ k = s + v * 2 ^ k := by
  have hk : 0 < 2 ^ k := Nat.two_pow_pos k
  have hlo := Nat.mod_lt s hk
  have e : s = 2 ^ k * (s / 2 ^ k) + s % 2 ^ k := (Nat.div_add_mod s (2 ^ k)).symm
  have e2 : s / 2 ^ k = 2 ^ 4 * (s / 2 ^ k / 16) + 0 := by omega
  have h1 := lor_split (k := 4) (a := s / 2 ^ k / 16) (b := 0) (c := 0) (d := v) (by omega) (by omega)
  rw [← e2, Nat.or_zero, Nat.zero_or, show 2 ^ 4 * 0 + v = v by omega] at h1
  have h2 := lor_split (k := k) (a := s / 2 ^ k) (b := s % 2 ^ k) (c := v) (d := 0) hlo hk
  rw [← e, h1, Nat.or_zero, Nat.add_zero] at h2
  rw [Nat.mul_comm v, h2, show 2 ^ 4 * (s / 2 ^ k / 16) + v = s / 2 ^ k + v by omega, Nat.mul_add]
  omega
theorem dg_w {s i v : Nat} (hs : s < 2 ^ 20) (hi : i < 5) (hv : v < 16) : (nI s &&& ((nI 15 <<< (nI (4 * i) &&& nI 31)) ^^^ (-nI 1))) ||| (nI v <<< (nI (4 * i) &&& nI 31)) = nI (s - s / 16 ^ i % 16 * 16 ^ i + v * 16 ^ i) := by
  have hp : (16 : Nat) ^ i = 2 ^ (4 * i) := by rw [Nat.pow_mul]
  have hle : v * 2 ^ (4 * i) < 2 ^ 32 := by
    have h1 : 2 ^ (4 * i) ≤ 2 ^ 16 := Nat.pow_le_pow_right (by omega) (by omega)
    have h2 := Nat.mul_le_mul (show v ≤ 15 by omega) h1
    omega
  rw [msk i hi, dg_shl (by omega) hle, bs_and, bs_or, land_dig hs hi, lor_dig ?_ hv, ← hp]
  rw [← hp]
  rcases (show i = 0 ∨ i = 1 ∨ i = 2 ∨ i = 3 ∨ i = 4 by omega) with rfl | rfl | rfl | rfl | rfl
  all_goals (simp only [Nat.reducePow]; omega)
def up (F : Nat → Nat) (j x : Nat) : Nat → Nat := fun q => if q = j then x else F q
theorem up_eq (F : Nat → Nat) (j x : Nat) : up F j x j = x := if_pos rfl
theorem up_ne {F : Nat → Nat} {j x q : Nat} (h : q ≠ j) : up F j x q = F q := if_neg h
theorem p16_up {F : Nat → Nat} {b i x : Nat} (hF : ∀ i, i < 5 → F (b + i) < 16) (hi : i < 5) : p16 (up F (b + i) x) b = p16 F b - p16 F b / 16 ^ i % 16 * 16 ^ i + x * 16 ^ i := by
  have h0 := hF 0 (by omega)
  have h1 := hF 1 (by omega)
  have h2 := hF 2 (by omega)
  have h3 := hF 3 (by omega)
  have h4 := hF 4 (by omega)
  unfold p16
  rcases (show i = 0 ∨ i = 1 ∨ i = 2 ∨ i = 3 ∨ i = 4 by omega) with rfl | rfl | rfl | rfl | rfl
  all_goals (simp (disch := omega) only [Nat.add_zero, Nat.reducePow, up_eq, up_ne] at *; omega)
theorem p16_dig {F : Nat → Nat} {b i : Nat} (hF : ∀ i, i < 5 → F (b + i) < 16) (hi : i < 5) : p16 F b / 16 ^ i % 16 = F (b + i) := by
  have h0 := hF 0 (by omega)
  have h1 := hF 1 (by omega)
  have h2 := hF 2 (by omega)
  have h3 := hF 3 (by omega)
  have h4 := hF 4 (by omega)
  unfold p16
  rcases (show i = 0 ∨ i = 1 ∨ i = 2 ∨ i = 3 ∨ i = 4 by omega) with rfl | rfl | rfl | rfl | rfl
  all_goals (simp only [Nat.add_zero, Nat.reducePow] at *; omega)
theorem p16_lt {F : Nat → Nat} {b : Nat} (hF : ∀ i, i < 5 → F (b + i) < 16) : p16 F b < 2 ^ 20 := by
  have h0 := hF 0 (by omega)
  have h1 := hF 1 (by omega)
  have h2 := hF 2 (by omega)
  have h3 := hF 3 (by omega)
  have h4 := hF 4 (by omega)
  simp only [Nat.add_zero] at h0
  unfold p16
  omega
theorem p256_up {F : Nat → Nat} {b i x : Nat} (hi : i < 5) : p256 (up F (b + i) (F (b + i) + x)) b = p256 F b + x * 256 ^ i := by
  unfold p256
  rcases (show i = 0 ∨ i = 1 ∨ i = 2 ∨ i = 3 ∨ i = 4 by omega) with rfl | rfl | rfl | rfl | rfl
  all_goals (simp (disch := omega) only [Nat.add_zero, Nat.reducePow, up_eq, up_ne]; omega)
theorem p256_dig {F : Nat → Nat} {b i : Nat} (hF : ∀ i, i < 5 → F (b + i) < 256) (hi : i < 5) : p256 F b / 256 ^ i % 256 = F (b + i) := by
  have h0 := hF 0 (by omega)
  have h1 := hF 1 (by omega)
  have h2 := hF 2 (by omega)
  have h3 := hF 3 (by omega)
  have h4 := hF 4 (by omega)
  unfold p256
  rcases (show i = 0 ∨ i = 1 ∨ i = 2 ∨ i = 3 ∨ i = 4 by omega) with rfl | rfl | rfl | rfl | rfl
  all_goals (simp only [Nat.add_zero, Nat.reducePow] at *; omega)
theorem p256_lt {F : Nat → Nat} {b : Nat} (hF : ∀ i, i < 5 → F (b + i) < 256) : p256 F b < 2 ^ 40 := by
  have h0 := hF 0 (by omega)
  have h1 := hF 1 (by omega)
  have h2 := hF 2 (by omega)
  have h3 := hF 3 (by omega)
  have h4 := hF 4 (by omega)
  simp only [Nat.add_zero] at h0
  unfold p256
  omega
/-! one bit of a set is set to x -/
def bset (s i x : Nat) : Nat := s - s / 2 ^ i % 2 * 2 ^ i + x * 2 ^ i
theorem bset_or : ∀ s, s < 32 → ∀ i, i < 5 → (nI s ||| (nI 1 <<< (nI i &&& nI 31))) = nI (bset s i 1) := by decide +kernel
theorem bset_an : ∀ s, s < 32 → ∀ i, i < 5 → (nI s &&& ((nI 1 <<< (nI i &&& nI 31)) ^^^ (-nI 1))) = nI (bset s i 0) := by decide +kernel
theorem bset_xr : ∀ s, s < 32 → ∀ i, i < 5 → (nI s ^^^ (nI 1 <<< (nI i &&& nI 31))) = nI (bset s i (1 - s / 2 ^ i % 2)) := by decide +kernel
theorem bset_lt : ∀ s, s < 32 → ∀ i, i < 5 → ∀ x, x < 2 → bset s i x < 32 := by decide +kernel
theorem bset_bit : ∀ s, s < 32 → ∀ i, i < 5 → ∀ x, x < 2 → ∀ j, j < 5 → bset s i x / 2 ^ j % 2 = if j = i then x else s / 2 ^ j % 2 := by decide +kernel
theorem mk_up {F : Nat → Nat} {b i x : Nat} (hF : ∀ i, i < 5 → F (b + i) ≤ 1) (hi : i < 5) : mk (up F (b + i) x) b = bset (mk F b) i x := by
  have h0 := hF 0 (by omega)
  have h1 := hF 1 (by omega)
  have h2 := hF 2 (by omega)
  have h3 := hF 3 (by omega)
  have h4 := hF 4 (by omega)
  unfold bset
  rw [mk_bit hF hi]
  unfold mk
  rcases (show i = 0 ∨ i = 1 ∨ i = 2 ∨ i = 3 ∨ i = 4 by omega) with rfl | rfl | rfl | rfl | rfl
  all_goals (simp (disch := omega) only [Nat.add_zero, Nat.reducePow, up_eq, up_ne] at *; omega)
theorem and_not : ∀ s, s < 32 → ∀ t, t < 32 → (nI s &&& (nI t ^^^ (-nI 1))) = nI (s &&& (31 - t)) := by decide +kernel
theorem and_bit : ∀ s, s < 32 → ∀ t, t < 32 → ∀ j, j < 5 → (s &&& t) / 2 ^ j % 2 = s / 2 ^ j % 2 * (t / 2 ^ j % 2) := by decide +kernel
theorem or_bit : ∀ s, s < 32 → ∀ t, t < 32 → ∀ j, j < 5 → (s ||| t) / 2 ^ j % 2 = (if s / 2 ^ j % 2 = 1 ∨ t / 2 ^ j % 2 = 1 then 1 else 0) := by decide +kernel
theorem not_bit : ∀ t, t < 32 → ∀ j, j < 5 → (31 - t) / 2 ^ j % 2 = 1 - t / 2 ^ j % 2 := by decide +kernel
theorem and_lt : ∀ s, s < 32 → ∀ t, t < 32 → (s &&& t) < 32 := by decide +kernel
theorem or_lt : ∀ s, s < 32 → ∀ t, t < 32 → (s ||| t) < 32 := by decide +kernel
theorem bits_ext {s t : Nat} (hs : s < 32) (ht : t < 32) (h : ∀ j, j < 5 → s / 2 ^ j % 2 = t / 2 ^ j % 2) : s = t := by
  have h0 := h 0 (by omega)
  have h1 := h 1 (by omega)
  have h2 := h 2 (by omega)
  have h3 := h 3 (by omega)
  have h4 := h 4 (by omega)
  simp only [Nat.reducePow] at *
  omega
