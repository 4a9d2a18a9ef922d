/-! small sets -/
theorem nI_32 : ∀ s, s < 32 → ∀ j, j < 8 → ((nI s >>> (nI j &&& nI 31)) &&& nI 1) = nI (s / 2 ^ j % 2) := by decide +kernel
theorem bs_r {s j : Nat} (hs : s < 32) (hj : j < 8) : ((nI s >>> (nI j &&& nI 31)) &&& nI 1) = nI (s / 2 ^ j % 2) := nI_32 s hs j hj
theorem nI_sh : ∀ j, j < 8 → (nI 1 <<< (nI j &&& nI 31)) = nI (2 ^ j) := by decide +kernel
theorem bs_l {j : Nat} (hj : j < 8) : (nI 1 <<< (nI j &&& nI 31)) = nI (2 ^ j) := nI_sh j hj
theorem bs_and (a b : Nat) : nI a &&& nI b = nI (a &&& b) := by
  apply Int32.toBitVec_inj.mp
  show (Int32.ofNat a &&& Int32.ofNat b).toBitVec = (Int32.ofNat (a &&& b)).toBitVec
  rw [Int32.toBitVec_and, Int32.toBitVec_ofNat', Int32.toBitVec_ofNat', Int32.toBitVec_ofNat']
  exact (BitVec.ofNat_and).symm
theorem bs_or (a b : Nat) : nI a ||| nI b = nI (a ||| b) := by
  apply Int32.toBitVec_inj.mp
  show (Int32.ofNat a ||| Int32.ofNat b).toBitVec = (Int32.ofNat (a ||| b)).toBitVec
  rw [Int32.toBitVec_or, Int32.toBitVec_ofNat', Int32.toBitVec_ofNat', Int32.toBitVec_ofNat']
  exact (BitVec.ofNat_or).symm
theorem bs_xor (a b : Nat) : nI a ^^^ nI b = nI (a ^^^ b) := by
  apply Int32.toBitVec_inj.mp
  show (Int32.ofNat a ^^^ Int32.ofNat b).toBitVec = (Int32.ofNat (a ^^^ b)).toBitVec
  rw [Int32.toBitVec_xor, Int32.toBitVec_ofNat', Int32.toBitVec_ofNat', Int32.toBitVec_ofNat']
  exact (BitVec.ofNat_xor).symm
theorem bs_cnt0 : ∀ s, s < 32 → ∀ (M : Mm) (Q : Int32 → Mm → Prop), Q (nI (cnt s 5)) M → wp_J_bitCount (nI s) M Q := by
  intro s hs M Q h
  unfold wp_J_bitCount
  intro x9 e9 x23 e23 x33 e33 x40 e40 x47 e47
  have : (x47 &&& 63) = nI (cnt s 5) := by
    subst e47 e40 e33 e23 e9
    clear h
    revert hs
    revert s
    decide +kernel
  rw [this]
  exact h
theorem J_bits_ok {s : Nat} (hs : s < 32) {M : Mm} {Q : Int32 → Mm → Prop} (h : Q (nI (cnt s 5)) M) : wp_J_bitCount (nI s) M Q := bs_cnt0 s hs M Q h
