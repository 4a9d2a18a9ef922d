/-! debts: sets that owe nothing together -/
def sg (X : Nat → Int64) (s : Nat) : Nat → Int64
  | 0 => 0
  | m + 1 => sg X s m + (if s / 2 ^ m % 2 = 1 then X m else 0)
theorem sg_split (X : Nat → Int64) {s t u : Nat} : ∀ m, (∀ j, j < m → s / 2 ^ j % 2 = t / 2 ^ j % 2 + u / 2 ^ j % 2) → sg X s m = sg X t m + sg X u m := by
  intro m
  induction m with
  | zero => intro _; rfl
  | succ m ih =>
    intro h
    show sg X s m + _ = (sg X t m + _) + (sg X u m + _)
    rw [ih (fun j hj => h j (by omega))]
    have e := h m (by omega)
    by_cases c : t / 2 ^ m % 2 = 1
    · have c2 : u / 2 ^ m % 2 = 0 := by omega
      rw [if_pos (show s / 2 ^ m % 2 = 1 by omega), if_pos c, if_neg (show ¬ u / 2 ^ m % 2 = 1 by omega), Int64.add_zero, Int64.add_assoc, Int64.add_assoc, Int64.add_comm (sg X u m)]
    · by_cases d : u / 2 ^ m % 2 = 1
      · rw [if_pos (show s / 2 ^ m % 2 = 1 by omega), if_neg c, if_pos d, Int64.add_zero, Int64.add_assoc]
      · rw [if_neg (show ¬ s / 2 ^ m % 2 = 1 by omega), if_neg c, if_neg d, Int64.add_zero, Int64.add_zero, Int64.add_zero]
theorem sg_0 (X : Nat → Int64) (m : Nat) : sg X 0 m = 0 := by
  induction m with
  | zero => rfl
  | succ m ih => show sg X 0 m + _ = 0; rw [ih, Nat.zero_div, if_neg (by omega), Int64.add_zero]
def mxn (a b : Nat) : Nat := if a ≤ b then b else a
theorem mxn_l (a b : Nat) : a ≤ mxn a b := by unfold mxn; split <;> omega
theorem mxn_r (a b : Nat) : b ≤ mxn a b := by unfold mxn; split <;> omega
theorem mxn_c (a b : Nat) : mxn a b = a ∨ mxn a b = b := by unfold mxn; split <;> omega
def pl (X : Nat → Int64) (n : Nat) (f : Nat → Nat) (S : Nat) : Nat → Nat → Nat → Nat
  | 0, _, b => b
  | k + 1, v, b => if v = 0 then b else pl X n f S k ((v - 1) &&& S) (if sg X v n = 0 then mxn b (1 + f (S &&& (31 - v))) else b)
def pp (X : Nat → Int64) (n : Nat) : Nat → Nat → Nat
  | 0, _ => 0
  | d + 1, S => pl X n (pp X n d) S 32 S 0
/-! sets, by their numbers -/
theorem k_1' : ∀ S, S < 32 → ∀ v, v < 32 → ∀ T, T < 32 → (v &&& S = v ∧ v ≠ 0 ∧ T < v ∧ T &&& S = T → T ≤ (v - 1) &&& S) := by decide +kernel
theorem k_1 : ∀ S, S < 32 → ∀ v, v < 32 → v &&& S = v → v ≠ 0 → ∀ T, T < v → T &&& S = T → T ≤ (v - 1) &&& S := fun S hS v hv a b T hT c => k_1' S hS v hv T (by omega) ⟨a, b, hT, c⟩
theorem k_2 : ∀ S, S < 32 → ∀ v, v < 32 → ((v - 1) &&& S) &&& S = ((v - 1) &&& S) ∧ ((v - 1) &&& S) ≤ v - 1 := by decide +kernel
theorem k_3 : ∀ S, S < 32 → ∀ T, T < 32 → T &&& S = T → T ≠ 0 → cnt (S &&& (31 - T)) 5 + 1 ≤ cnt S 5 := by decide +kernel
theorem k_4 : ∀ S, S < 32 → ∀ T, T < 32 → T &&& S = T → ∀ j, j < 5 → S / 2 ^ j % 2 = T / 2 ^ j % 2 + (S &&& (31 - T)) / 2 ^ j % 2 := by decide +kernel
theorem k_5 : ∀ S, S < 32 → ∀ T, T < 32 → (S &&& (31 - T)) < 32 ∧ (S &&& (31 - T)) &&& S = (S &&& (31 - T)) := by decide +kernel
theorem k_6' : ∀ S, S < 32 → ∀ U, U < 32 → ∀ T, T < 32 → (U &&& S = U ∧ T &&& U = T → T &&& S = T ∧ (U &&& (31 - T)) &&& (S &&& (31 - T)) = (U &&& (31 - T))) := by decide +kernel
theorem k_6 : ∀ S, S < 32 → ∀ U, U < 32 → U &&& S = U → ∀ T, T < 32 → T &&& U = T → T &&& S = T ∧ (U &&& (31 - T)) &&& (S &&& (31 - T)) = (U &&& (31 - T)) := fun S hS U hU a T hT b => k_6' S hS U hU T hT ⟨a, b⟩
theorem k_7a : ∀ S, S < 32 → ∀ U, U < 32 → ∀ T, T < 32 → (U &&& S = U ∧ T &&& U = T → (U &&& (31 - T)) = (S &&& (31 - T)) → U = S) := by decide +kernel
theorem k_7b : ∀ S, S < 32 → ∀ U, U < 32 → ∀ T, T < 32 → (U &&& S = U ∧ T &&& U = T → (S &&& (31 - T)) = 0 → U = S) := by decide +kernel
theorem k_7 : ∀ S, S < 32 → ∀ U, U < 32 → U &&& S = U → U ≠ S → ∀ T, T < 32 → T &&& U = T → (U &&& (31 - T)) ≠ (S &&& (31 - T)) ∧ (S &&& (31 - T)) ≠ 0 := fun S hS U hU a a2 T hT b => ⟨fun w => a2 (k_7a S hS U hU T hT ⟨a, b⟩ w), fun w => a2 (k_7b S hS U hU T hT ⟨a, b⟩ w)⟩
theorem k_8 : ∀ S, S < 32 → S &&& S = S ∧ S &&& (31 - S) = 0 := by decide +kernel
theorem k_9 : ∀ S, S < 32 → ∀ b, b < 5 → S / 2 ^ b % 2 = 1 → bset S b 0 < 32 ∧ bset S b 0 &&& S = bset S b 0 ∧ bset S b 0 ≠ S ∧ cnt (bset S b 0) 5 + 1 = cnt S 5 ∧ bset S b 0 < S := by decide +kernel
theorem k_10a : ∀ T, T < 32 → ∀ P, P < 32 → ∀ b, b < 5 → (P / 2 ^ b % 2 = 1 → (T ||| P) / 2 ^ b % 2 = 1) := by decide +kernel
theorem k_10b : ∀ T, T < 32 → ∀ P, P < 32 → ∀ b, b < 5 → (T &&& P = 0 ∧ P / 2 ^ b % 2 = 1 → bset (T ||| P) b 0 = T ||| bset P b 0) := by decide +kernel
theorem k_10c : ∀ T, T < 32 → ∀ P, P < 32 → ∀ b, b < 5 → (T &&& P = 0 ∧ P / 2 ^ b % 2 = 1 → T &&& bset P b 0 = 0) := by decide +kernel
theorem k_10 : ∀ T, T < 32 → ∀ P, P < 32 → T &&& P = 0 → ∀ b, b < 5 → P / 2 ^ b % 2 = 1 → (T ||| P) / 2 ^ b % 2 = 1 ∧ bset (T ||| P) b 0 = T ||| bset P b 0 ∧ T &&& bset P b 0 = 0 := fun T hT P hP a b hb c => ⟨k_10a T hT P hP b hb c, k_10b T hT P hP b hb ⟨a, c⟩, k_10c T hT P hP b hb ⟨a, c⟩⟩
theorem k_11a : ∀ T, T < 32 → ∀ P, P < 32 → ∀ j, j < 5 → (T &&& P = 0 → (T ||| P) / 2 ^ j % 2 = T / 2 ^ j % 2 + P / 2 ^ j % 2) := by decide +kernel
theorem k_11b : ∀ T, T < 32 → ∀ P, P < 32 → T ||| P < 32 ∧ (T ≠ 0 → T ||| P ≠ 0) := by decide +kernel
theorem k_11 : ∀ T, T < 32 → ∀ P, P < 32 → T &&& P = 0 → (∀ j, j < 5 → (T ||| P) / 2 ^ j % 2 = T / 2 ^ j % 2 + P / 2 ^ j % 2) ∧ T ||| P < 32 ∧ (T ≠ 0 → T ||| P ≠ 0) := fun T hT P hP a => ⟨fun j hj => k_11a T hT P hP j hj a, k_11b T hT P hP⟩
theorem k_12 : ∀ S, S < 32 → ∀ T, T < 32 → T &&& S = T → T &&& (S &&& (31 - T)) = 0 ∧ T ||| (S &&& (31 - T)) = S := by decide +kernel
theorem k_13 : ∀ P, P < 32 → P ≠ 0 → ∃ b, b < 5 ∧ P / 2 ^ b % 2 = 1 := by decide +kernel
theorem k_14a : ∀ S, S < 32 → ∀ z, z < 5 → ∀ T, T < 32 → (T / 2 ^ z % 2 = 1 → ((S ||| 2 ^ z) &&& (31 - T)) = S &&& (31 - T)) := by decide +kernel
theorem k_14b : ∀ S, S < 32 → ∀ z, z < 5 → ∀ T, T < 32 → (T &&& (S ||| 2 ^ z) = T ∧ T / 2 ^ z % 2 = 0 → T &&& S = T) := by decide +kernel
theorem k_14c : ∀ S, S < 32 → ∀ z, z < 5 → ∀ T, T < 32 → (T / 2 ^ z % 2 = 0 → ((S ||| 2 ^ z) &&& (31 - T)) = (S &&& (31 - T)) ||| 2 ^ z) := by decide +kernel
theorem k_14d : ∀ S, S < 32 → ∀ z, z < 5 → ∀ T, T < 32 → (S / 2 ^ z % 2 = 0 → (S &&& (31 - T)) / 2 ^ z % 2 = 0) := by decide +kernel
theorem k_14 : ∀ S, S < 32 → ∀ z, z < 5 → S / 2 ^ z % 2 = 0 → ∀ T, T < 32 → T &&& (S ||| 2 ^ z) = T → (T / 2 ^ z % 2 = 1 → ((S ||| 2 ^ z) &&& (31 - T)) = S &&& (31 - T)) ∧ (T / 2 ^ z % 2 = 0 → T &&& S = T ∧ ((S ||| 2 ^ z) &&& (31 - T)) = (S &&& (31 - T)) ||| 2 ^ z ∧ (S &&& (31 - T)) / 2 ^ z % 2 = 0) := fun S hS z hz a T hT b => ⟨fun w => k_14a S hS z hz T hT w, fun w => ⟨k_14b S hS z hz T hT ⟨b, w⟩, k_14c S hS z hz T hT w, k_14d S hS z hz T hT a⟩⟩
theorem k_15 : ∀ S, S < 32 → ∀ z, z < 5 → S / 2 ^ z % 2 = 0 → (S ||| 2 ^ z) < 32 ∧ 2 ^ z &&& (S ||| 2 ^ z) = 2 ^ z ∧ (S ||| 2 ^ z) &&& (31 - 2 ^ z) = S ∧ cnt (S ||| 2 ^ z) 5 = cnt S 5 + 1 := by decide +kernel
theorem k_16 : ∀ n, n ≤ 5 → ∀ S, S < 2 ^ n → ∀ T, T < 32 → T &&& S = T → T < 2 ^ n ∧ (S &&& (31 - T)) < 2 ^ n := by decide +kernel
section
variable {X : Nat → Int64} {n : Nat}
theorem pl_ge (f : Nat → Nat) (S : Nat) : ∀ k v b, b ≤ pl X n f S k v b := by
  intro k
  induction k with
  | zero => intro v b; exact Nat.le_refl _
  | succ k ih =>
    intro v b
    unfold pl
    split
    · exact Nat.le_refl _
    · refine Nat.le_trans ?_ (ih _ _)
      split
      · exact mxn_l _ _
      · exact Nat.le_refl _
theorem pl_mem (f : Nat → Nat) {S : Nat} (hS : S < 32) {T : Nat} (hT : T &&& S = T) (h0 : T ≠ 0) (hz : sg X T n = 0) : ∀ k v b, v < 32 → v &&& S = v → v ≤ k → T ≤ v → 1 + f (S &&& (31 - T)) ≤ pl X n f S k v b := by
  intro k
  induction k with
  | zero => intro v b _ _ h1 h2; omega
  | succ k ih =>
    intro v b hv hvs hk hTv
    unfold pl
    rw [if_neg (by omega)]
    by_cases c : T = v
    · subst c
      rw [if_pos hz]
      exact Nat.le_trans (mxn_r _ _) (pl_ge f S _ _ _)
    · obtain ⟨g1, g2⟩ := k_2 S hS v hv
      exact ih _ _ (by omega) g1 (by omega) (k_1 S hS v hv hvs (by omega) T (by omega) hT)
theorem pl_at (f : Nat → Nat) {S : Nat} (hS : S < 32) : ∀ k v b, v < 32 → v &&& S = v → pl X n f S k v b = b ∨ ∃ T, T < 32 ∧ T ≠ 0 ∧ T &&& S = T ∧ sg X T n = 0 ∧ pl X n f S k v b = 1 + f (S &&& (31 - T)) := by
  intro k
  induction k with
  | zero => intro v b _ _; exact Or.inl rfl
  | succ k ih =>
    intro v b hv hvs
    unfold pl
    by_cases c : v = 0
    · rw [if_pos c]; exact Or.inl rfl
    · rw [if_neg c]
      obtain ⟨g1, g2⟩ := k_2 S hS v hv
      rcases ih ((v - 1) &&& S) (if sg X v n = 0 then mxn b (1 + f (S &&& (31 - v))) else b) (by omega) g1 with e | e
      · rw [e]
        by_cases z : sg X v n = 0
        · rw [if_pos z]
          rcases mxn_c b (1 + f (S &&& (31 - v))) with w | w
          · exact Or.inl w
          · exact Or.inr ⟨v, hv, c, hvs, z, w⟩
        · rw [if_neg z]; exact Or.inl rfl
      · exact Or.inr e
theorem pl_cg {f g : Nat → Nat} {S : Nat} (hS : S < 32) (h : ∀ T, T < 32 → T ≠ 0 → T &&& S = T → f (S &&& (31 - T)) = g (S &&& (31 - T))) : ∀ k v b, v < 32 → v &&& S = v → pl X n f S k v b = pl X n g S k v b := by
  intro k
  induction k with
  | zero => intro v b _ _; rfl
  | succ k ih =>
    intro v b hv hvs
    unfold pl
    by_cases c : v = 0
    · rw [if_pos c, if_pos c]
    · rw [if_neg c, if_neg c, h v hv c hvs]
      obtain ⟨g1, g2⟩ := k_2 S hS v hv
      exact ih _ _ (by omega) g1
theorem pp_mem {S T : Nat} (hS : S < 32) (hT : T &&& S = T) (h0 : T ≠ 0) (hz : sg X T n = 0) (d : Nat) : 1 + pp X n d (S &&& (31 - T)) ≤ pp X n (d + 1) S := by
  have : T ≤ S := by rw [← hT]; exact Nat.and_le_right
  exact pl_mem (pp X n d) hS hT h0 hz 32 S 0 hS (k_8 S hS).1 (by omega) this
theorem pp_at {S : Nat} (hS : S < 32) (d : Nat) : pp X n (d + 1) S = 0 ∨ ∃ T, T < 32 ∧ T ≠ 0 ∧ T &&& S = T ∧ sg X T n = 0 ∧ pp X n (d + 1) S = 1 + pp X n d (S &&& (31 - T)) := pl_at (pp X n d) hS 32 S 0 hS (k_8 S hS).1
theorem pp_st : ∀ d d' S, S < 32 → cnt S 5 < d → cnt S 5 < d' → pp X n d S = pp X n d' S := by
  intro d
  induction d with
  | zero => intro d' S _ h; omega
  | succ d ih =>
    intro d' S hS h h'
    cases d' with
    | zero => omega
    | succ d' =>
      refine pl_cg hS (fun T hT h0 hs => ?_) 32 S 0 hS (k_8 S hS).1
      have := k_3 S hS T hT hs h0
      exact ih d' _ (k_5 S hS T hT).1 (by omega) (by omega)
theorem pp_mono : ∀ d S U, S < 32 → U < 32 → U &&& S = U → pp X n d U ≤ pp X n d S := by
  intro d
  induction d with
  | zero => intro S U _ _ _; exact Nat.le_refl _
  | succ d ih =>
    intro S U hS hU hs
    rcases pp_at (X := X) (n := n) hU d with e | ⟨T, hT, h0, hTU, hz, e⟩
    · rw [e]; exact Nat.zero_le _
    · obtain ⟨g1, g2⟩ := k_6 S hS U hU hs T hT hTU
      have := pp_mem hS g1 h0 hz d
      have := ih _ _ (k_5 S hS T hT).1 (k_5 U hU T hT).1 g2
      omega
theorem pp_fu : ∀ d S, S < 32 → pp X n d S ≤ pp X n (d + 1) S := by
  intro d
  induction d with
  | zero => intro S _; exact Nat.zero_le _
  | succ d ih =>
    intro S hS
    rcases pp_at (X := X) (n := n) hS d with e | ⟨T, hT, h0, hTU, hz, e⟩
    · rw [e]; exact Nat.zero_le _
    · have := pp_mem hS hTU h0 hz (d + 1)
      have := ih _ (k_5 S hS T hT).1
      omega
theorem pp_le : ∀ d S, S < 32 → pp X n d S ≤ cnt S 5 := by
  intro d
  induction d with
  | zero => intro S _; exact Nat.zero_le _
  | succ d ih =>
    intro S hS
    rcases pp_at (X := X) (n := n) hS d with e | ⟨T, hT, h0, hTU, hz, e⟩
    · rw [e]; exact Nat.zero_le _
    · have := k_3 S hS T hT hTU h0
      have := ih _ (k_5 S hS T hT).1
      omega
theorem sg_dif (hn : n ≤ 5) {S T : Nat} (hS : S < 32) (hT : T < 32) (h : T &&& S = T) (hz : sg X T n = 0) : sg X (S &&& (31 - T)) n = sg X S n := by
  have := sg_split X (s := S) (t := T) (u := S &&& (31 - T)) n (fun j hj => k_4 S hS T hT h j (by omega))
  rw [this, hz, Int64.zero_add]
theorem pp_A (hn : n ≤ 5) : ∀ d S U, S < 32 → U < 32 → sg X S n = 0 → S ≠ 0 → U &&& S = U → U ≠ S → pp X n d U + 1 ≤ pp X n (d + 1) S := by
  intro d
  induction d with
  | zero =>
    intro S U hS hU hz h0 hs hne
    have := pp_mem hS (k_8 S hS).1 h0 hz 0
    show 0 + 1 ≤ _
    omega
  | succ d ih =>
    intro S U hS hU hz h0 hs hne
    rcases pp_at (X := X) (n := n) hU d with e | ⟨T, hT, t0, hTU, tz, e⟩
    · have := pp_mem hS (k_8 S hS).1 h0 hz (d + 1)
      omega
    · obtain ⟨g1, g2⟩ := k_6 S hS U hU hs T hT hTU
      obtain ⟨g3, g4⟩ := k_7 S hS U hU hs hne T hT hTU
      have := pp_mem hS g1 t0 tz (d + 1)
      have := ih _ _ (k_5 S hS T hT).1 (k_5 U hU T hT).1 ((sg_dif hn hS hT g1 tz).trans hz) g4 g2 g3
      omega
theorem pp_z : ∀ d S z, S < 32 → z < 5 → S / 2 ^ z % 2 = 0 → pp X n d (S ||| 2 ^ z) ≤ pp X n d S + 1 := by
  intro d
  induction d with
  | zero => intro S z _ _ _; exact Nat.zero_le _
  | succ d ih =>
    intro S z hS hz hb
    obtain ⟨q1, q2, q3, q4⟩ := k_15 S hS z hz hb
    rcases pp_at (X := X) (n := n) q1 d with e | ⟨T, hT, t0, hTU, tz, e⟩
    · omega
    · obtain ⟨g1, g2⟩ := k_14 S hS z hz hb T hT hTU
      by_cases c : T / 2 ^ z % 2 = 1
      · rw [e, g1 c]
        have := pp_mono (X := X) (n := n) d S (S &&& (31 - T)) hS (k_5 S hS T hT).1 (k_5 S hS T hT).2
        have := pp_fu (X := X) (n := n) d S hS
        omega
      · obtain ⟨g3, g4, g5⟩ := g2 (by omega)
        rw [e, g4]
        have := ih _ z (k_5 S hS T hT).1 hz g5
        have := pp_mem hS g3 t0 tz d
        omega
/-! most groups, one arm after another -/
def mg (f : Nat → Nat) (S : Nat) : Nat → Nat
  | 0 => 0
  | b + 1 => if S / 2 ^ b % 2 = 1 then mxn (mg f S b) (f (bset S b 0)) else mg f S b
def gf (X : Nat → Int64) (n : Nat) : Nat → Nat → Nat
  | 0, _ => 0
  | d + 1, S => mg (gf X n d) S n + (if S ≠ 0 ∧ sg X S n = 0 then 1 else 0)
theorem mg_mem (f : Nat → Nat) (S : Nat) : ∀ m b, b < m → S / 2 ^ b % 2 = 1 → f (bset S b 0) ≤ mg f S m := by
  intro m
  induction m with
  | zero => intro b hb; omega
  | succ m ih =>
    intro b hb h
    unfold mg
    by_cases c : b = m
    · subst c; rw [if_pos h]; exact mxn_r _ _
    · have := ih b (by omega) h
      split
      · exact Nat.le_trans this (mxn_l _ _)
      · exact this
theorem mg_at (f : Nat → Nat) (S : Nat) : ∀ m, mg f S m = 0 ∨ ∃ b, b < m ∧ S / 2 ^ b % 2 = 1 ∧ mg f S m = f (bset S b 0) := by
  intro m
  induction m with
  | zero => exact Or.inl rfl
  | succ m ih =>
    unfold mg
    by_cases c : S / 2 ^ m % 2 = 1
    · rw [if_pos c]
      rcases mxn_c (mg f S m) (f (bset S m 0)) with e | e
      · rw [e]
        rcases ih with w | ⟨b, h1, h2, h3⟩
        · exact Or.inl w
        · exact Or.inr ⟨b, by omega, h2, h3⟩
      · exact Or.inr ⟨m, by omega, c, e⟩
    · rw [if_neg c]
      rcases ih with w | ⟨b, h1, h2, h3⟩
      · exact Or.inl w
      · exact Or.inr ⟨b, by omega, h2, h3⟩
theorem mg_cg {f g : Nat → Nat} {S : Nat} : ∀ m, (∀ b, b < m → S / 2 ^ b % 2 = 1 → f (bset S b 0) = g (bset S b 0)) → mg f S m = mg g S m := by
  intro m
  induction m with
  | zero => intro _; rfl
  | succ m ih =>
    intro h
    unfold mg
    rw [ih (fun b hb => h b (by omega))]
    by_cases c : S / 2 ^ m % 2 = 1
    · rw [if_pos c, if_pos c, h m (by omega) c]
    · rw [if_neg c, if_neg c]
theorem mg_0 (f : Nat → Nat) : ∀ m, mg f 0 m = 0 := by
  intro m
  induction m with
  | zero => rfl
  | succ m ih => unfold mg; rw [Nat.zero_div, if_neg (by omega)]; exact ih
theorem gf_0 (X : Nat → Int64) (n : Nat) : ∀ d, gf X n d 0 = 0 := by
  intro d
  cases d with
  | zero => rfl
  | succ d => show mg _ 0 n + _ = 0; rw [mg_0, if_neg (fun w => w.1 rfl)]
theorem gf_st (hn : n ≤ 5) : ∀ d d' S, S < 32 → cnt S 5 ≤ d → cnt S 5 ≤ d' → gf X n d S = gf X n d' S := by
  intro d
  induction d with
  | zero =>
    intro d' S hS h h'
    have : S = 0 := cnt_0 S hS (by omega)
    subst this
    rw [gf_0, gf_0]
  | succ d ih =>
    intro d' S hS h h'
    cases d' with
    | zero =>
      have : S = 0 := cnt_0 S hS (by omega)
      subst this
      rw [gf_0, gf_0]
    | succ d' =>
      show mg _ S n + _ = mg _ S n + _
      rw [mg_cg n (fun b hb hb2 => ?_)]
      obtain ⟨q1, q2, q3, q4, q5⟩ := k_9 S hS b (by omega) hb2
      exact ih d' _ q1 (by omega) (by omega)
theorem gf_eq (hn : n ≤ 5) {S : Nat} (hS : S < 32) : gf X n 6 S = mg (gf X n 6) S n + (if S ≠ 0 ∧ sg X S n = 0 then 1 else 0) := by
  have := cnt_5 S
  rw [gf_st hn 6 7 S hS (by omega) (by omega)]
  rfl
theorem gf_B (hn : n ≤ 5) : ∀ d P T, P < 2 ^ n → T < 2 ^ n → cnt P 5 ≤ d → T ≠ 0 → sg X T n = 0 → T &&& P = 0 → 1 + gf X n 6 P ≤ gf X n 6 (T ||| P) := by
  intro d
  induction d with
  | zero =>
    intro P T hP hT hd t0 tz hdis
    have hP' := lt_32 hP hn
    have hT' := lt_32 hT hn
    have : P = 0 := cnt_0 P hP' (by omega)
    subst this
    rw [gf_0, Nat.or_zero, gf_eq hn hT', if_pos ⟨t0, tz⟩]
    omega
  | succ d ih =>
    intro P T hP hT hd t0 tz hdis
    have hP' := lt_32 hP hn
    have hT' := lt_32 hT hn
    by_cases c : P = 0
    · subst c
      rw [gf_0, Nat.or_zero, gf_eq hn hT', if_pos ⟨t0, tz⟩]
      omega
    · obtain ⟨r1, r2, r3⟩ := k_11 T hT' P hP' hdis
      have ez : sg X (T ||| P) n = sg X P n := by rw [sg_split X n (fun j hj => r1 j (by omega)), tz, Int64.zero_add]
      have ub : ∀ b, b < 5 → P / 2 ^ b % 2 = 1 → b < n := by
        intro b _ hb
        refine Classical.byContradiction fun w => ?_
        have : P / 2 ^ b = 0 := Nat.div_eq_of_lt (Nat.lt_of_lt_of_le hP (Nat.pow_le_pow_right (by omega) (by omega)))
        rw [this] at hb
        omega
      have stp : ∀ b, b < n → P / 2 ^ b % 2 = 1 → 1 + gf X n 6 (bset P b 0) + (if P ≠ 0 ∧ sg X P n = 0 then 1 else 0) ≤ gf X n 6 (T ||| P) := by
        intro b hb hb2
        obtain ⟨q1, q2, q3, q4, q5⟩ := k_9 P hP' b (by omega) hb2
        obtain ⟨s1, s2, s3⟩ := k_10 T hT' P hP' hdis b (by omega) hb2
        rw [gf_eq hn r2, ez]
        have hm := mg_mem (gf X n 6) (T ||| P) n b hb s1
        rw [s2] at hm
        have := ih (bset P b 0) T (by omega) hT (by omega) t0 tz s3
        have e : (if T ||| P ≠ 0 ∧ sg X P n = 0 then 1 else 0) = (if P ≠ 0 ∧ sg X P n = 0 then (1 : Nat) else 0) := by
          by_cases z : sg X P n = 0
          · rw [if_pos ⟨r3 t0, z⟩, if_pos ⟨c, z⟩]
          · rw [if_neg (fun w => z w.2), if_neg (fun w => z w.2)]
        omega
      obtain ⟨b0, hb0, hb02⟩ := k_13 P hP' c
      have s0 := stp b0 (ub b0 hb0 hb02) hb02
      rw [gf_eq hn hP']
      rcases mg_at (gf X n 6) P n with e | ⟨b, hb, hb2, e⟩
      · rw [e]; omega
      · have := stp b hb hb2
        rw [e]; omega
theorem gf_pp (hn : n ≤ 5) : ∀ d S, S < 2 ^ n → cnt S 5 ≤ d → gf X n 6 S = pp X n 8 S := by
  intro d
  induction d with
  | zero =>
    intro S hS hd
    have hS' := lt_32 hS hn
    have : S = 0 := cnt_0 S hS' (by omega)
    subst this
    rw [gf_0]
    have := pp_le (X := X) (n := n) 8 0 hS'
    have e : cnt 0 5 = 0 := rfl
    omega
  | succ d ih =>
    intro S hS hd
    have hS' := lt_32 hS hn
    have c5 := cnt_5 S
    refine Nat.le_antisymm ?_ ?_
    · rw [gf_eq hn hS']
      have lo : ∀ b, b < n → S / 2 ^ b % 2 = 1 → gf X n 6 (bset S b 0) = pp X n 8 (bset S b 0) := by
        intro b hb hb2
        obtain ⟨q1, q2, q3, q4, q5⟩ := k_9 S hS' b (by omega) hb2
        exact ih _ (by omega) (by omega)
      by_cases z : S ≠ 0 ∧ sg X S n = 0
      · rw [if_pos z]
        rcases mg_at (gf X n 6) S n with e | ⟨b, hb, hb2, e⟩
        · rw [e]
          have := pp_mem hS' (k_8 S hS').1 z.1 z.2 7
          have : 1 ≤ pp X n 8 S := by show 1 ≤ pp X n (7 + 1) S; omega
          omega
        · obtain ⟨q1, q2, q3, q4, q5⟩ := k_9 S hS' b (by omega) hb2
          rw [e, lo b hb hb2, pp_st 8 7 _ q1 (by omega) (by omega)]
          exact pp_A hn 7 S _ hS' q1 z.2 z.1 q2 q3
      · rw [if_neg z]
        rcases mg_at (gf X n 6) S n with e | ⟨b, hb, hb2, e⟩
        · rw [e]; omega
        · obtain ⟨q1, q2, q3, q4, q5⟩ := k_9 S hS' b (by omega) hb2
          rw [e, lo b hb hb2]
          have := pp_mono (X := X) (n := n) 8 S _ hS' q1 q2
          omega
    · rcases pp_at (X := X) (n := n) hS' 7 with e | ⟨T, hT, t0, hTU, tz, e⟩
      · rw [e]; exact Nat.zero_le _
      · have k3 := k_3 S hS' T hT hTU t0
        obtain ⟨u1, u2⟩ := k_16 n hn S hS T hT hTU
        obtain ⟨u3, u4⟩ := k_12 S hS' T hT hTU
        rw [e, pp_st 7 8 _ (k_5 S hS' T hT).1 (by omega) (by omega), ← ih _ u2 (by omega)]
        have := gf_B hn 5 (S &&& (31 - T)) T u2 u1 (cnt_5 _) t0 tz u3
        rwa [u4] at this
theorem rsm_bit {f : Nat → Nat} (hf : ∀ v, f v ≤ 1) : ∀ m, m ≤ 5 → ∀ j, j < 5 → rsm f m / 2 ^ j % 2 = if j < m then f j else 0 := by
  intro m
  induction m with
  | zero => intro _ j _; show 0 / 2 ^ j % 2 = _; rw [Nat.zero_div, if_neg (by omega)]
  | succ m ih =>
    intro hm j hj
    have l1 := rsm_lt hf m (by omega)
    have l2 : f m * 2 ^ m < 32 := by
      have := hf m
      rcases (show m = 0 ∨ m = 1 ∨ m = 2 ∨ m = 3 ∨ m = 4 by omega) with e | e | e | e | e <;> subst e <;> omega
    have b2 : ∀ m, m < 5 → ∀ x, x < 2 → ∀ j, j < 5 → x * 2 ^ m / 2 ^ j % 2 = if j = m then x else 0 := by decide +kernel
    show (rsm f m ||| f m * 2 ^ m) / 2 ^ j % 2 = _
    rw [or_bit _ l1 _ l2 j hj, ih (by omega) j hj, b2 m (by omega) (f m) (by have := hf m; omega) j hj]
    have h1 := hf j
    by_cases c : j = m
    · subst c
      rw [if_neg (Nat.lt_irrefl j), if_pos (rfl : j = j), if_pos (show j < j + 1 by omega)]
      rcases (show f j = 0 ∨ f j = 1 by omega) with e | e <;> rw [e] <;> decide
    · rw [if_neg c]
      by_cases d : j < m
      · rw [if_pos d, if_pos (show j < m + 1 by omega)]
        rcases (show f j = 0 ∨ f j = 1 by omega) with e | e <;> rw [e] <;> decide
      · rw [if_neg d, if_neg (show ¬ j < m + 1 by omega)]; decide
def nzf (x : Nat → Int32) (i : Nat) : Nat := if x i = nI 0 then 0 else 1
def zrf (x : Nat → Int32) (i : Nat) : Nat := if x i = nI 0 then 1 else 0
theorem pp_fin (hn : n ≤ 5) {x : Nat → Int32} (hX : ∀ i, i < n → X i = (x i).toInt64) : pp X n 8 (2 ^ n - 1) + cnt (rsm (nzf x) n) 5 = pp X n 8 (rsm (nzf x) n) + n := by
  have f1 : ∀ v, nzf x v ≤ 1 := fun v => by unfold nzf; split <;> omega
  have f2 : ∀ v, zrf x v ≤ 1 := fun v => by unfold zrf; split <;> omega
  have l1 := rsm_lt f1 n hn
  have key : ∀ m, m ≤ n → (rsm (nzf x) n ||| rsm (zrf x) m) < 32 ∧ pp X n 8 (rsm (nzf x) n ||| rsm (zrf x) m) + cnt (rsm (nzf x) n) 5 = pp X n 8 (rsm (nzf x) n) + cnt (rsm (nzf x) n ||| rsm (zrf x) m) 5 := by
    intro m
    induction m with
    | zero =>
      intro _
      show (rsm (nzf x) n ||| 0) < 32 ∧ _ = _ + cnt (rsm (nzf x) n ||| 0) 5
      rw [Nat.or_zero]
      refine ⟨l1, ?_⟩
      show pp X n 8 (rsm (nzf x) n ||| 0) + _ = _
      rw [Nat.or_zero]
    | succ m ih =>
      intro hm
      obtain ⟨h1, h2⟩ := ih (by omega)
      have l2 := rsm_lt f2 m (by omega)
      by_cases c : x m = nI 0
      · have e : rsm (nzf x) n ||| rsm (zrf x) (m + 1) = (rsm (nzf x) n ||| rsm (zrf x) m) ||| 2 ^ m := by
          show rsm (nzf x) n ||| (rsm (zrf x) m ||| zrf x m * 2 ^ m) = _
          rw [show zrf x m = 1 from if_pos c, Nat.one_mul, Nat.or_assoc]
        have hb : (rsm (nzf x) n ||| rsm (zrf x) m) / 2 ^ m % 2 = 0 := by
          rw [or_bit _ l1 _ l2 m (by omega), rsm_bit f1 n hn m (by omega), rsm_bit f2 m (by omega) m (by omega), if_pos (show m < n by omega), if_neg (Nat.lt_irrefl m), show nzf x m = 0 from if_pos c]
          decide
        obtain ⟨q1, q2, q3, q4⟩ := k_15 _ h1 m (by omega) hb
        rw [e, q4]
        refine ⟨q1, ?_⟩
        have a1 := pp_z (X := X) (n := n) 8 _ m h1 (by omega) hb
        have hz : sg X (2 ^ m) n = 0 := by
          have b2 : ∀ m, m < 5 → ∀ j, j < 5 → 2 ^ m / 2 ^ j % 2 = if j = m then 1 else 0 := by decide +kernel
          have : ∀ k, k ≤ n → sg X (2 ^ m) k = 0 := by
            intro k
            induction k with
            | zero => intro _; rfl
            | succ k ihk =>
              intro hk
              show sg X (2 ^ m) k + _ = 0
              rw [ihk (by omega), b2 m (by omega) k (by omega)]
              by_cases d : k = m
              · subst d
                rw [if_pos rfl, if_pos rfl, hX k (by omega), c]
                rfl
              · rw [if_neg d, if_neg (by omega)]; rfl
          exact this n (Nat.le_refl _)
        have a2 := pp_mem q1 q2 (show 2 ^ m ≠ 0 from Nat.ne_of_gt (Nat.two_pow_pos m)) hz 7
        rw [q3] at a2
        have c5 := cnt_5 ((rsm (nzf x) n ||| rsm (zrf x) m))
        rw [pp_st 7 8 _ h1 (by omega) (by omega)] at a2
        have a2 : 1 + pp X n 8 (rsm (nzf x) n ||| rsm (zrf x) m) ≤ pp X n 8 ((rsm (nzf x) n ||| rsm (zrf x) m) ||| 2 ^ m) := a2
        omega
      · have e : rsm (nzf x) n ||| rsm (zrf x) (m + 1) = (rsm (nzf x) n ||| rsm (zrf x) m) := by
          show rsm (nzf x) n ||| (rsm (zrf x) m ||| zrf x m * 2 ^ m) = _
          rw [show zrf x m = 0 from if_neg c, Nat.zero_mul, Nat.or_zero]
        rw [e]
        exact ⟨h1, h2⟩
  obtain ⟨h1, h2⟩ := key n (Nat.le_refl _)
  have pf : ∀ n, n ≤ 5 → ∀ j, j < 5 → (2 ^ n - 1) / 2 ^ j % 2 = if j < n then 1 else 0 := by decide +kernel
  have pc : ∀ n, n ≤ 5 → cnt (2 ^ n - 1) 5 = n := by decide +kernel
  have e : rsm (nzf x) n ||| rsm (zrf x) n = 2 ^ n - 1 := by
    have := p5 hn
    refine bits_ext h1 (by omega) (fun j hj => ?_)
    rw [or_bit _ l1 _ (rsm_lt f2 n hn) j hj, rsm_bit f1 n hn j hj, rsm_bit f2 n hn j hj, pf n hn j hj]
    by_cases d : j < n
    · rw [if_pos d, if_pos d, if_pos d]
      unfold nzf zrf
      by_cases c : x j = nI 0
      · rw [if_pos c, if_pos c]; decide
      · rw [if_neg c, if_neg c]; decide
    · rw [if_neg d, if_neg d, if_neg d]; decide
  rw [e, pc n hn] at h2
  exact h2
end
