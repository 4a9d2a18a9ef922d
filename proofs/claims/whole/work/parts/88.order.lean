/-! waits loosened: rows B i of bits; how many, and their number with the first place highest -/
def rvb (m : Nat) : Nat := 16 * (m % 2) + 8 * (m / 2 % 2) + 4 * (m / 4 % 2) + 2 * (m / 8 % 2) + m / 16 % 2
def vl (B : Nat → Nat) : Nat := 2 ^ 8 * (2 ^ 8 * (2 ^ 8 * (2 ^ 8 * (8 * rvb (B 0)) + 8 * rvb (B 1)) + 8 * rvb (B 2)) + 8 * rvb (B 3)) + 8 * rvb (B 4)
def ct (B : Nat → Nat) : Nat := cnt (B 0) 5 + cnt (B 1) 5 + cnt (B 2) 5 + cnt (B 3) 5 + cnt (B 4) 5
theorem rv_lt (m : Nat) : rvb m < 32 := by unfold rvb; omega
theorem rv_0 : rvb 0 = 0 := rfl
theorem key_cg {B B' : Nat → Nat} (h : ∀ i, i < 5 → B i = B' i) : ct B = ct B' ∧ vl B = vl B' := by
  unfold ct vl
  rw [h 0 (by omega), h 1 (by omega), h 2 (by omega), h 3 (by omega), h 4 (by omega)]
  exact ⟨rfl, rfl⟩
theorem key_up {B : Nat → Nat} {b m : Nat} (hb : b < 5) (h : B b = 0) : ct (up B b m) = ct B + cnt m 5 ∧ vl (up B b m) = vl B + 8 * rvb m * 256 ^ (4 - b) := by
  unfold ct vl
  have c0 : cnt 0 5 = 0 := rfl
  rcases (show b = 0 ∨ b = 1 ∨ b = 2 ∨ b = 3 ∨ b = 4 by omega) with e | e | e | e | e <;> subst e <;> simp (disch := omega) only [up_eq, up_ne, h, rv_0, c0, Nat.reduceSub, Nat.reducePow] <;> omega
abbrev kl (B B' : Nat → Nat) : Prop := ct B < ct B' ∨ (ct B = ct B' ∧ vl B' < vl B)
abbrev le2 (B B' : Nat → Nat) : Prop := ct B < ct B' ∨ (ct B = ct B' ∧ vl B' ≤ vl B)
theorem le2_up {B B' : Nat → Nat} {b m : Nat} (hb : b < 5) (h : B b = 0) (h' : B' b = 0) (q : le2 B B') : le2 (up B b m) (up B' b m) := by
  obtain ⟨a1, a2⟩ := key_up (m := m) hb h
  obtain ⟨b1, b2⟩ := key_up (m := m) hb h'
  unfold le2 at *
  rw [a1, a2, b1, b2]
  omega
def cand (W : Nat → Nat) (f : Nat → Nat → Nat) (S b : Nat) : Nat → Nat := up (f (bset S b 0)) b (W b &&& (31 - bset S b 0))
def pk (W : Nat → Nat) (f : Nat → Nat → Nat) (S : Nat) : Nat → Nat × (Nat → Nat)
  | 0 => (0, fun _ => 0)
  | v + 1 => if S / 2 ^ v % 2 = 1 then (1, if (pk W f S v).1 = 0 ∨ kl (cand W f S v) (pk W f S v).2 then cand W f S v else (pk W f S v).2) else pk W f S v
def cb (W : Nat → Nat) (n : Nat) : Nat → Nat → Nat → Nat
  | 0, _ => fun _ => 0
  | d + 1, S => (pk W (cb W n d) S n).2
theorem pk_c (W : Nat → Nat) (f : Nat → Nat → Nat) (S : Nat) : ∀ m, ((pk W f S m).1 = 0 ∧ (pk W f S m).2 = (fun _ => 0) ∧ ∀ b, b < m → ¬ S / 2 ^ b % 2 = 1) ∨ ((pk W f S m).1 = 1 ∧ (∃ b, b < m ∧ S / 2 ^ b % 2 = 1 ∧ (pk W f S m).2 = cand W f S b) ∧ ∀ b, b < m → S / 2 ^ b % 2 = 1 → le2 (pk W f S m).2 (cand W f S b)) := by
  intro m
  induction m with
  | zero => exact Or.inl ⟨rfl, rfl, fun b hb => by omega⟩
  | succ m ih =>
    by_cases c : S / 2 ^ m % 2 = 1
    · right
      have e : pk W f S (m + 1) = (1, if (pk W f S m).1 = 0 ∨ kl (cand W f S m) (pk W f S m).2 then cand W f S m else (pk W f S m).2) := if_pos c
      rw [e]
      refine ⟨rfl, ?_⟩
      dsimp only
      rcases ih with ⟨h1, h2, h3⟩ | ⟨h1, ⟨b, hb, hb2, h2⟩, h3⟩
      · rw [if_pos (Or.inl h1)]
        refine ⟨⟨m, by omega, c, rfl⟩, fun b hb hb2 => ?_⟩
        by_cases d : b = m
        · subst d; exact Or.inr ⟨rfl, Nat.le_refl _⟩
        · exact absurd hb2 (h3 b (by omega))
      · by_cases k : kl (cand W f S m) (pk W f S m).2
        · rw [if_pos (Or.inr k)]
          refine ⟨⟨m, by omega, c, rfl⟩, fun b hb hb2 => ?_⟩
          by_cases d : b = m
          · subst d; exact Or.inr ⟨rfl, Nat.le_refl _⟩
          · have := h3 b (by omega) hb2
            unfold kl at k
            unfold le2 at *
            omega
        · rw [if_neg (by omega)]
          refine ⟨⟨b, by omega, hb2, h2⟩, fun b' hb' hb2' => ?_⟩
          by_cases d : b' = m
          · subst d
            unfold kl at k
            unfold le2
            omega
          · exact h3 b' (by omega) hb2'
    · have e : pk W f S (m + 1) = pk W f S m := if_neg c
      rw [e]
      rcases ih with ⟨h1, h2, h3⟩ | ⟨h1, ⟨b, hb, hb2, h2⟩, h3⟩
      · refine Or.inl ⟨h1, h2, fun b hb => ?_⟩
        by_cases d : b = m
        · subst d; exact c
        · exact h3 b (by omega)
      · refine Or.inr ⟨h1, ⟨b, by omega, hb2, h2⟩, fun b' hb' hb2' => ?_⟩
        by_cases d : b' = m
        · subst d; exact absurd hb2' c
        · exact h3 b' (by omega) hb2'
theorem pk_cg {W : Nat → Nat} {f g : Nat → Nat → Nat} {S : Nat} : ∀ m, (∀ b, b < m → S / 2 ^ b % 2 = 1 → f (bset S b 0) = g (bset S b 0)) → pk W f S m = pk W g S m := by
  intro m
  induction m with
  | zero => intro _; rfl
  | succ m ih =>
    intro h
    have ih := ih (fun b hb => h b (by omega))
    by_cases c : S / 2 ^ m % 2 = 1
    · have e : ∀ f, pk W f S (m + 1) = (1, if (pk W f S m).1 = 0 ∨ kl (cand W f S m) (pk W f S m).2 then cand W f S m else (pk W f S m).2) := fun f => if_pos c
      have ec : cand W f S m = cand W g S m := by unfold cand; rw [h m (by omega) c]
      rw [e, e, ih, ec]
    · have e : ∀ f, pk W f S (m + 1) = pk W f S m := fun f => if_neg c
      rw [e, e, ih]
theorem cb_0 (W : Nat → Nat) (n : Nat) : ∀ d, cb W n d 0 = fun _ => 0 := by
  intro d
  cases d with
  | zero => rfl
  | succ d =>
    show (pk W (cb W n d) 0 n).2 = _
    rcases pk_c W (cb W n d) 0 n with h | ⟨_, ⟨b, _, hb, _⟩, _⟩
    · exact h.2.1
    · rw [Nat.zero_div] at hb; omega
theorem cb_st {W : Nat → Nat} {n : Nat} (hn : n ≤ 5) : ∀ d d' S, S < 32 → cnt S 5 ≤ d → cnt S 5 ≤ d' → cb W n d S = cb W n d' S := by
  intro d
  induction d with
  | zero =>
    intro d' S hS h h'
    have : S = 0 := cnt_0 S hS (by omega)
    subst this
    rw [cb_0, cb_0]
  | succ d ih =>
    intro d' S hS h h'
    cases d' with
    | zero =>
      have : S = 0 := cnt_0 S hS (by omega)
      subst this
      rw [cb_0, cb_0]
    | succ d' =>
      show (pk W _ S n).2 = (pk W _ S n).2
      rw [pk_cg n (fun b hb hb2 => ?_)]
      obtain ⟨q1, q2, q3, q4, q5⟩ := k_9 S hS b (by omega) hb2
      exact ih d' _ q1 (by omega) (by omega)
theorem cb_eq {W : Nat → Nat} {n : Nat} (hn : n ≤ 5) {S : Nat} (hS : S < 32) : cb W n 6 S = (pk W (cb W n 6) S n).2 := by
  have := cnt_5 S
  rw [cb_st hn 6 7 S hS (by omega) (by omega)]
  rfl
/-- the best one of S: nothing, or some arm last, and none better -/
theorem cb_c {W : Nat → Nat} {n : Nat} (hn : n ≤ 5) {S : Nat} (hS : S < 2 ^ n) (h0 : S ≠ 0) : (∃ b, b < n ∧ S / 2 ^ b % 2 = 1 ∧ cb W n 6 S = cand W (cb W n 6) S b) ∧ ∀ b, b < n → S / 2 ^ b % 2 = 1 → le2 (cb W n 6 S) (cand W (cb W n 6) S b) := by
  have hS' := lt_32 hS hn
  rw [cb_eq hn hS']
  rcases pk_c W (cb W n 6) S n with ⟨_, _, h⟩ | ⟨_, h1, h2⟩
  · obtain ⟨b, hb, hb2⟩ := k_13 S hS' h0
    exact absurd hb2 (h b (bit_n hS hb2))
  · exact ⟨h1, h2⟩
theorem an_lt : ∀ s, s < 32 → ∀ t, t < 32 → (s &&& (31 - t)) < 32 := by decide +kernel
theorem an_bit : ∀ s, s < 32 → ∀ t, t < 32 → ∀ j, j < 5 → (s &&& (31 - t)) / 2 ^ j % 2 = if s / 2 ^ j % 2 = 1 ∧ t / 2 ^ j % 2 = 0 then 1 else 0 := by decide +kernel
theorem cb_row {W : Nat → Nat} {n : Nat} (hn : n ≤ 5) (hW : ∀ i, i < n → W i < 32) : ∀ d S, S < 2 ^ n → cnt S 5 ≤ d → ∀ i, cb W n 6 S i < 32 ∧ (S / 2 ^ i % 2 = 0 → cb W n 6 S i = 0) := by
  intro d
  induction d with
  | zero =>
    intro S hS hd i
    have : S = 0 := cnt_0 S (lt_32 hS hn) (by omega)
    subst this
    rw [cb_0]
    exact ⟨by show 0 < 32; omega, fun _ => rfl⟩
  | succ d ih =>
    intro S hS hd i
    have hS' := lt_32 hS hn
    by_cases c : S = 0
    · subst c
      rw [cb_0]
      exact ⟨by show 0 < 32; omega, fun _ => rfl⟩
    · obtain ⟨⟨b, hb, hb2, e⟩, -⟩ := cb_c (W := W) hn hS c
      obtain ⟨q1, q2, q3, q4, q5⟩ := k_9 S hS' b (by omega) hb2
      rw [e]
      unfold cand
      by_cases d' : i = b
      · subst d'
        rw [up_eq]
        exact ⟨an_lt _ (hW i hb) _ q1, fun w => by omega⟩
      · rw [up_ne d']
        obtain ⟨r1, r2⟩ := ih (bset S b 0) (by omega) (by omega) i
        refine ⟨r1, fun w => r2 ?_⟩
        by_cases i5 : i < 5
        · rw [bset_bit S hS' b (by omega) 0 (by omega) i i5, if_neg d']; exact w
        · have : bset S b 0 / 2 ^ i = 0 := Nat.div_eq_of_lt (Nat.lt_of_lt_of_le q1 (Nat.pow_le_pow_right (n := 2) (by omega) (show 5 ≤ i by omega)))
          rw [this]
/-! by ranks -/
def bkf (W : Nat → Nat) (R : Nat → Nat) (S i j : Nat) : Nat := if S / 2 ^ i % 2 = 1 ∧ W i / 2 ^ j % 2 = 1 ∧ ¬ (S / 2 ^ j % 2 = 1 ∧ R j < R i) then 1 else 0
def bk (W : Nat → Nat) (n : Nat) (R : Nat → Nat) (S i : Nat) : Nat := rsm (bkf W R S i) n
theorem bkf_le (W : Nat → Nat) (R : Nat → Nat) (S i j : Nat) : bkf W R S i j ≤ 1 := by unfold bkf; split <;> omega
theorem bk_lt {W : Nat → Nat} {n : Nat} (hn : n ≤ 5) (R : Nat → Nat) (S i : Nat) : bk W n R S i < 32 := rsm_lt (bkf_le W R S i) n hn
theorem bk_bit {W : Nat → Nat} {n : Nat} (hn : n ≤ 5) (R : Nat → Nat) (S i : Nat) {j : Nat} (hj : j < 5) : bk W n R S i / 2 ^ j % 2 = if j < n ∧ S / 2 ^ i % 2 = 1 ∧ W i / 2 ^ j % 2 = 1 ∧ ¬ (S / 2 ^ j % 2 = 1 ∧ R j < R i) then 1 else 0 := by
  unfold bk
  rw [rsm_bit (bkf_le W R S i) n hn j hj]
  unfold bkf
  by_cases c : j < n
  · rw [if_pos c]
    split <;> split <;> first | rfl | (exfalso; omega)
  · rw [if_neg c]
    split <;> first | rfl | (exfalso; omega)
theorem bk_st {W : Nat → Nat} {n : Nat} (hn : n ≤ 5) (hW : ∀ i, i < n → W i < 2 ^ n ∧ W i / 2 ^ i % 2 = 0) {R : Nat → Nat} {S b : Nat} (hS : S < 2 ^ n) (hb : b < n) (hb2 : S / 2 ^ b % 2 = 1) (hmx : ∀ j, j < n → S / 2 ^ j % 2 = 1 → j ≠ b → R j < R b) : ∀ i, i < 5 → bk W n R S i = up (bk W n R (bset S b 0)) b (W b &&& (31 - bset S b 0)) i := by
  intro i hi
  have hS' := lt_32 hS hn
  obtain ⟨q1, q2, q3, q4, q5⟩ := k_9 S hS' b (by omega) hb2
  have hWb := lt_32 (hW b hb).1 hn
  have bb : ∀ j, j < 5 → bset S b 0 / 2 ^ j % 2 = if j = b then 0 else S / 2 ^ j % 2 := fun j hj => bset_bit S hS' b (by omega) 0 (by omega) j hj
  by_cases c : i = b
  · subst c
    rw [up_eq]
    refine bits_ext (bk_lt hn R S i) (an_lt _ hWb _ q1) (fun j hj => ?_)
    rw [bk_bit hn R S i hj, an_bit _ hWb _ q1 j hj, bb j hj]
    have h1 := (hW i hb).2
    have h2 := hmx j
    have h3 : W i / 2 ^ j % 2 = 1 → j < n := bit_n (hW i hb).1
    by_cases d : j = i
    · subst d
      rw [if_pos rfl, if_neg (by omega), if_neg (by omega)]
    · rw [if_neg d]
      split <;> split <;> first | rfl | (exfalso; omega)
  · rw [up_ne c]
    refine bits_ext (bk_lt hn R S i) (bk_lt hn R _ i) (fun j hj => ?_)
    rw [bk_bit hn R S i hj, bk_bit hn R _ i hj, bb j hj, bb i hi, if_neg c]
    have h2 := hmx i
    have h3 : S / 2 ^ i % 2 = 1 → i < n := bit_n hS
    by_cases d : j = b
    · subst d
      rw [if_pos rfl]
      split <;> split <;> first | rfl | (exfalso; omega)
    · rw [if_neg d]
theorem bk_cg {W : Nat → Nat} {n : Nat} (hn : n ≤ 5) {R R' : Nat → Nat} {S : Nat} (hS : S < 2 ^ n) (h : ∀ i, i < n → S / 2 ^ i % 2 = 1 → R i = R' i) : ∀ i, i < 5 → bk W n R S i = bk W n R' S i := by
  intro i hi
  refine bits_ext (bk_lt hn R S i) (bk_lt hn R' S i) (fun j hj => ?_)
  rw [bk_bit hn R S i hj, bk_bit hn R' S i hj]
  have h1 := h i
  have h2 := h j
  have h3 : S / 2 ^ i % 2 = 1 → i < n := bit_n hS
  have h4 : S / 2 ^ j % 2 = 1 → j < n := bit_n hS
  split <;> split <;> first | rfl | (exfalso; omega)
theorem bk_0 {W : Nat → Nat} {n : Nat} (hn : n ≤ 5) (R : Nat → Nat) : ∀ i, bk W n R 0 i = 0 := by
  intro i
  refine bits_ext (bk_lt hn R 0 i) (by omega) (fun j hj => ?_)
  rw [bk_bit hn R 0 i hj, Nat.zero_div, Nat.zero_div, if_neg (by omega)]
theorem mx_el (R : Nat → Nat) (S : Nat) : ∀ m, (∀ b, b < m → ¬ S / 2 ^ b % 2 = 1) ∨ ∃ b, b < m ∧ S / 2 ^ b % 2 = 1 ∧ ∀ j, j < m → S / 2 ^ j % 2 = 1 → R j ≤ R b := by
  intro m
  induction m with
  | zero => exact Or.inl (fun b hb => by omega)
  | succ m ih =>
    by_cases c : S / 2 ^ m % 2 = 1
    · right
      rcases ih with h | ⟨b, hb, hb2, h⟩
      · refine ⟨m, by omega, c, fun j hj hj2 => ?_⟩
        by_cases d : j = m
        · subst d; exact Nat.le_refl _
        · exact absurd hj2 (h j (by omega))
      · by_cases k : R m ≤ R b
        · refine ⟨b, by omega, hb2, fun j hj hj2 => ?_⟩
          by_cases d : j = m
          · subst d; exact k
          · exact h j (by omega) hj2
        · refine ⟨m, by omega, c, fun j hj hj2 => ?_⟩
          by_cases d : j = m
          · subst d; exact Nat.le_refl _
          · have := h j (by omega) hj2
            omega
    · rcases ih with h | ⟨b, hb, hb2, h⟩
      · refine Or.inl (fun b hb => ?_)
        by_cases d : b = m
        · subst d; exact c
        · exact h b (by omega)
      · refine Or.inr ⟨b, by omega, hb2, fun j hj hj2 => ?_⟩
        by_cases d : j = m
        · subst d; exact absurd hj2 c
        · exact h j (by omega) hj2
/-- no order of arms is better -/
theorem cb_low {W : Nat → Nat} {n : Nat} (hn : n ≤ 5) (hW : ∀ i, i < n → W i < 2 ^ n ∧ W i / 2 ^ i % 2 = 0) {R : Nat → Nat} (hR : ∀ i j, i < n → j < n → i ≠ j → R i ≠ R j) : ∀ d S, S < 2 ^ n → cnt S 5 ≤ d → le2 (cb W n 6 S) (bk W n R S) := by
  have hW' : ∀ i, i < n → W i < 32 := fun i hi => lt_32 (hW i hi).1 hn
  intro d
  induction d with
  | zero =>
    intro S hS hd
    have : S = 0 := cnt_0 S (lt_32 hS hn) (by omega)
    subst this
    rw [cb_0]
    obtain ⟨k1, k2⟩ := key_cg (B := bk W n R 0) (B' := fun _ => 0) (fun i _ => bk_0 hn R i)
    unfold le2
    rw [k1, k2]
    exact Or.inr ⟨rfl, Nat.le_refl _⟩
  | succ d ih =>
    intro S hS hd
    have hS' := lt_32 hS hn
    by_cases c : S = 0
    · subst c
      rw [cb_0]
      obtain ⟨k1, k2⟩ := key_cg (B := bk W n R 0) (B' := fun _ => 0) (fun i _ => bk_0 hn R i)
      unfold le2
      rw [k1, k2]
      exact Or.inr ⟨rfl, Nat.le_refl _⟩
    · rcases mx_el R S n with h | ⟨b, hb, hb2, hmx⟩
      · obtain ⟨b, hb, hb2⟩ := k_13 S hS' c
        exact absurd hb2 (h b (bit_n hS hb2))
      · obtain ⟨q1, q2, q3, q4, q5⟩ := k_9 S hS' b (by omega) hb2
        have hst := bk_st (R := R) hn hW hS hb hb2 (fun j hj hj2 hne => by have := hmx j hj hj2; have := hR j b hj hb hne; omega)
        obtain ⟨k1, k2⟩ := key_cg hst
        have ih := ih (bset S b 0) (by omega) (by omega)
        have z0 : bset S b 0 / 2 ^ b % 2 = 0 := by rw [bset_bit S hS' b (by omega) 0 (by omega) b (by omega), if_pos rfl]
        have z1 := (cb_row hn hW' 5 (bset S b 0) (by omega) (cnt_5 _) b).2 z0
        have z2 : bk W n R (bset S b 0) b = 0 := by
          refine bits_ext (bk_lt hn R _ b) (by omega) (fun j hj => ?_)
          rw [bk_bit hn R _ b hj, Nat.zero_div, if_neg (by omega)]
        have u := le2_up (m := W b &&& (31 - bset S b 0)) (show b < 5 by omega) z1 z2 ih
        have l := (cb_c (W := W) hn hS c).2 b hb hb2
        unfold cand at l
        unfold le2 at *
        rw [k1, k2]
        omega
/-- some order of arms is as good -/
theorem cb_up {W : Nat → Nat} {n : Nat} (hn : n ≤ 5) (hW : ∀ i, i < n → W i < 2 ^ n ∧ W i / 2 ^ i % 2 = 0) : ∀ d S, S < 2 ^ n → cnt S 5 ≤ d → ∃ R : Nat → Nat, (∀ i, i < n → S / 2 ^ i % 2 = 1 → R i < cnt S 5) ∧ (∀ i j, i < n → j < n → S / 2 ^ i % 2 = 1 → S / 2 ^ j % 2 = 1 → i ≠ j → R i ≠ R j) ∧ ∀ i, i < 5 → cb W n 6 S i = bk W n R S i := by
  intro d
  induction d with
  | zero =>
    intro S hS hd
    have : S = 0 := cnt_0 S (lt_32 hS hn) (by omega)
    subst this
    refine ⟨fun _ => 0, fun i _ h => by rw [Nat.zero_div] at h; omega, fun i j _ _ h => by rw [Nat.zero_div] at h; omega, fun i _ => ?_⟩
    rw [cb_0, bk_0 hn]
  | succ d ih =>
    intro S hS hd
    have hS' := lt_32 hS hn
    by_cases c : S = 0
    · subst c
      refine ⟨fun _ => 0, fun i _ h => by rw [Nat.zero_div] at h; omega, fun i j _ _ h => by rw [Nat.zero_div] at h; omega, fun i _ => ?_⟩
      rw [cb_0, bk_0 hn]
    · obtain ⟨⟨b, hb, hb2, e⟩, -⟩ := cb_c (W := W) hn hS c
      obtain ⟨q1, q2, q3, q4, q5⟩ := k_9 S hS' b (by omega) hb2
      obtain ⟨R, r1, r2, r3⟩ := ih (bset S b 0) (by omega) (by omega)
      have bb : ∀ j, j < n → j ≠ b → bset S b 0 / 2 ^ j % 2 = S / 2 ^ j % 2 := fun j hj hne => by rw [bset_bit S hS' b (by omega) 0 (by omega) j (by omega), if_neg hne]
      have z0 : bset S b 0 / 2 ^ b % 2 = 0 := by rw [bset_bit S hS' b (by omega) 0 (by omega) b (by omega), if_pos rfl]
      refine ⟨up R b (cnt S 5 - 1), fun i hi h => ?_, fun i j hi hj h1 h2 hne => ?_, fun i hi => ?_⟩
      · by_cases k : i = b
        · subst k; rw [up_eq]; omega
        · rw [up_ne k]
          have := r1 i hi (by rw [bb i hi k]; exact h)
          omega
      · by_cases k : i = b
        · subst k
          rw [up_eq, up_ne (Ne.symm hne)]
          have := r1 j hj (by rw [bb j hj (Ne.symm hne)]; exact h2)
          omega
        · by_cases k2 : j = b
          · subst k2
            rw [up_eq, up_ne k]
            have := r1 i hi (by rw [bb i hi k]; exact h1)
            omega
          · rw [up_ne k, up_ne k2]
            exact r2 i j hi hj (by rw [bb i hi k]; exact h1) (by rw [bb j hj k2]; exact h2) hne
      · rw [bk_st hn hW hS hb hb2 (fun j hj hj2 hne => ?_) i hi, e]
        · unfold cand
          by_cases k : i = b
          · subst k; rw [up_eq, up_eq]
          · rw [up_ne k, up_ne k, r3 i hi]
            refine bk_cg hn (by omega) (fun j hj hj2 => ?_) i hi
            rw [up_ne]
            intro w
            subst w
            omega
        · rw [up_eq, up_ne hne]
          have := r1 j hj (by rw [bb j hj hne]; exact hj2)
          omega
