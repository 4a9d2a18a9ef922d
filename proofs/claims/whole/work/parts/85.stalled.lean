/-! who waits for itself -/
def wr (W : Nat → Nat) : Nat → Nat → Nat
  | 0, i => W i
  | k + 1, i => if wr W k i / 2 ^ k % 2 = 1 then wr W k i ||| wr W k k else wr W k i
theorem wr_lt {W : Nat → Nat} {n : Nat} (hW : ∀ i, i < n → W i < 32) : ∀ k, k ≤ n → ∀ i, i < n → wr W k i < 32 := by
  intro k
  induction k with
  | zero => intro _ i hi; exact hW i hi
  | succ k ih =>
    intro hk i hi
    show (if wr W k i / 2 ^ k % 2 = 1 then wr W k i ||| wr W k k else wr W k i) < 32
    have h1 := ih (by omega) i hi
    have h2 := ih (by omega) k (by omega)
    split
    · exact or_lt _ h1 _ h2
    · exact h1
theorem wr_b {W : Nat → Nat} {n : Nat} (hW : ∀ i, i < n → W i < 32) (k : Nat) (hk : k < n) (i : Nat) (hi : i < n) (j : Nat) (hj : j < 5) : wr W (k + 1) i / 2 ^ j % 2 = 1 ↔ (wr W k i / 2 ^ j % 2 = 1 ∨ (wr W k i / 2 ^ k % 2 = 1 ∧ wr W k k / 2 ^ j % 2 = 1)) := by
  have h1 := wr_lt hW k (by omega) i hi
  have h2 := wr_lt hW k (by omega) k hk
  have ob := or_bit _ h1 _ h2 j hj
  show (if wr W k i / 2 ^ k % 2 = 1 then wr W k i ||| wr W k k else wr W k i) / 2 ^ j % 2 = 1 ↔ _
  by_cases c : wr W k i / 2 ^ k % 2 = 1
  · rw [if_pos c, ob]
    by_cases d : wr W k i / 2 ^ j % 2 = 1 ∨ wr W k k / 2 ^ j % 2 = 1
    · rw [if_pos d]
      exact ⟨fun _ => d.elim Or.inl (fun v => Or.inr ⟨c, v⟩), fun _ => rfl⟩
    · rw [if_neg d]
      exact ⟨fun v => absurd v (by omega), fun v => absurd (v.elim Or.inl (fun v => Or.inr v.2)) d⟩
  · rw [if_neg c]
    exact ⟨Or.inl, fun v => v.elim id (fun v => absurd v.1 c)⟩
theorem or_self : ∀ a, a < 32 → a ||| a = a := by decide +kernel
theorem wr_self {W : Nat → Nat} {n : Nat} (hW : ∀ i, i < n → W i < 32) (k : Nat) (hk : k < n) : wr W (k + 1) k = wr W k k := by
  show (if wr W k k / 2 ^ k % 2 = 1 then wr W k k ||| wr W k k else wr W k k) = wr W k k
  rw [or_self _ (wr_lt hW k (by omega) k hk), ite_self]
theorem wr_tr {W : Nat → Nat} {n : Nat} (hn : n ≤ 5) (hW : ∀ i, i < n → W i < 32) : ∀ k, k ≤ n → ∀ j, j < k → ∀ i, i < n → ∀ l, l < n → wr W k i / 2 ^ j % 2 = 1 → wr W k j / 2 ^ l % 2 = 1 → wr W k i / 2 ^ l % 2 = 1 := by
  intro k
  induction k with
  | zero => intro _ j hj; omega
  | succ k ih =>
    intro hk j hj i hi l hl h1 h2
    have b := wr_b hW k (by omega)
    rw [b i hi j (by omega)] at h1
    rw [b j (by omega) l (by omega)] at h2
    rw [b i hi l (by omega)]
    by_cases c : j = k
    · subst c
      have g1 : wr W j i / 2 ^ j % 2 = 1 := h1.elim id (fun v => v.1)
      have g2 : wr W j j / 2 ^ l % 2 = 1 := h2.elim id (fun v => v.2)
      exact Or.inr ⟨g1, g2⟩
    · have ih := ih (by omega) j (by omega)
      rcases h1 with h1 | ⟨h1, h1'⟩
      · rcases h2 with h2 | ⟨h2, h2'⟩
        · exact Or.inl (ih i hi l hl h1 h2)
        · exact Or.inr ⟨ih i hi k (by omega) h1 h2, h2'⟩
      · rcases h2 with h2 | ⟨h2, h2'⟩
        · exact Or.inr ⟨h1, ih k (by omega) l hl h1' h2⟩
        · exact Or.inr ⟨h1, h2'⟩
theorem wr_mo {W : Nat → Nat} {n : Nat} (hn : n ≤ 5) (hW : ∀ i, i < n → W i < 32) (i : Nat) (hi : i < n) (j : Nat) (hj : j < 5) (h : W i / 2 ^ j % 2 = 1) : ∀ k, k ≤ n → wr W k i / 2 ^ j % 2 = 1 := by
  intro k
  induction k with
  | zero => intro _; exact h
  | succ k ih => intro hk; rw [wr_b hW k (by omega) i hi j hj]; exact Or.inl (ih (by omega))
def st1 (W : Nat → Nat) (r v : Nat) : Nat := if r / 2 ^ v % 2 = 1 then r ||| W v else r
def rd (W : Nat → Nat) (r : Nat) : Nat → Nat
  | 0 => r
  | v + 1 => st1 W (rd W r v) v
def rds (W : Nat → Nat) (n r : Nat) : Nat → Nat
  | 0 => r
  | t + 1 => rd W (rds W n r t) n
/-- part of -/
def sub5 (a b : Nat) : Prop := ∀ j, j < 5 → a / 2 ^ j % 2 = 1 → b / 2 ^ j % 2 = 1
theorem st1_lt {W : Nat → Nat} {n r v : Nat} (hW : ∀ i, i < n → W i < 32) (hv : v < n) (hr : r < 32) : st1 W r v < 32 := by
  unfold st1; split
  · exact or_lt _ hr _ (hW v hv)
  · exact hr
theorem st1_sub {W : Nat → Nat} {n r v : Nat} (hW : ∀ i, i < n → W i < 32) (hv : v < n) (hr : r < 32) : sub5 r (st1 W r v) := by
  intro j hj h
  unfold st1; split
  · rw [or_bit _ hr _ (hW v hv) j hj, if_pos (Or.inl h)]
  · exact h
theorem rd_lt {W : Nat → Nat} {n r : Nat} (hW : ∀ i, i < n → W i < 32) (hr : r < 32) : ∀ v, v ≤ n → rd W r v < 32 := by
  intro v
  induction v with
  | zero => intro _; exact hr
  | succ v ih => intro hv; exact st1_lt hW (by omega) (ih (by omega))
theorem rd_sub {W : Nat → Nat} {n r : Nat} (hW : ∀ i, i < n → W i < 32) (hr : r < 32) : ∀ d v, v + d ≤ n → sub5 (rd W r v) (rd W r (v + d)) := by
  intro d
  induction d with
  | zero => intro v _ j _ h; exact h
  | succ d ih =>
    intro v hv j hj h
    exact st1_sub hW (show v + d < n by omega) (rd_lt hW hr (v + d) (by omega)) j hj (ih v (by omega) j hj h)
theorem rds_lt {W : Nat → Nat} {n r : Nat} (hW : ∀ i, i < n → W i < 32) (hr : r < 32) : ∀ t, rds W n r t < 32 := by
  intro t
  induction t with
  | zero => exact hr
  | succ t ih => exact rd_lt hW ih n (Nat.le_refl _)
theorem sub_anti {a b : Nat} (ha : a < 32) (hb : b < 32) (h1 : sub5 a b) (h2 : sub5 b a) : a = b := by
  refine bits_ext ha hb (fun j hj => ?_)
  have := h1 j hj
  have := h2 j hj
  omega
theorem sub_cnt : ∀ a, a < 32 → ∀ b, b < 32 → (∀ j, j < 5 → a / 2 ^ j % 2 = 1 → b / 2 ^ j % 2 = 1) → a ≠ b → cnt a 5 + 1 ≤ cnt b 5 := by decide +kernel
theorem cnt_n : ∀ n, n ≤ 5 → ∀ a, a < 2 ^ n → cnt a 5 ≤ n := by decide +kernel
theorem cnt_0 : ∀ a, a < 32 → cnt a 5 = 0 → a = 0 := by decide +kernel
theorem or_n : ∀ n, n ≤ 5 → ∀ a, a < 2 ^ n → ∀ b, b < 2 ^ n → a ||| b < 2 ^ n := by decide +kernel
theorem rd_n {W : Nat → Nat} {n r : Nat} (hn : n ≤ 5) (hW : ∀ i, i < n → W i < 2 ^ n) (hr : r < 2 ^ n) : ∀ v, v ≤ n → rd W r v < 2 ^ n := by
  intro v
  induction v with
  | zero => intro _; exact hr
  | succ v ih =>
    intro hv
    show st1 W (rd W r v) v < 2 ^ n
    unfold st1; split
    · exact or_n n hn _ (ih (by omega)) _ (hW v (by omega))
    · exact ih (by omega)
theorem rds_n {W : Nat → Nat} {n r : Nat} (hn : n ≤ 5) (hW : ∀ i, i < n → W i < 2 ^ n) (hr : r < 2 ^ n) : ∀ t, rds W n r t < 2 ^ n := by
  intro t
  induction t with
  | zero => exact hr
  | succ t ih => exact rd_n hn hW ih n (Nat.le_refl _)
theorem rd_0 (W : Nat → Nat) : ∀ v, rd W 0 v = 0 := by
  intro v
  induction v with
  | zero => rfl
  | succ v ih =>
    show st1 W (rd W 0 v) v = 0
    rw [ih]
    unfold st1
    rw [Nat.zero_div, if_neg (by omega)]
/-- after n rounds nothing is added -/
theorem rds_fix {W : Nat → Nat} {n r : Nat} (hn : n ≤ 5) (hW : ∀ i, i < n → W i < 2 ^ n) (hr : r < 2 ^ n) : rd W (rds W n r n) n = rds W n r n := by
  have hW' : ∀ i, i < n → W i < 32 := fun i hi => lt_32 (hW i hi) hn
  have hr' := lt_32 hr hn
  have key : ∀ t, t ≤ n → (rd W (rds W n r t) n = rds W n r t) ∨ cnt r 5 + t ≤ cnt (rds W n r t) 5 := by
    intro t
    induction t with
    | zero => intro _; exact Or.inr (Nat.le_refl _)
    | succ t ih =>
      intro ht
      show rd W (rd W (rds W n r t) n) n = rd W (rds W n r t) n ∨ cnt r 5 + (t + 1) ≤ cnt (rd W (rds W n r t) n) 5
      rcases ih (by omega) with e | e
      · left; rw [e, e]
      · by_cases c : rds W n r t = rd W (rds W n r t) n
        · left; rw [← c, ← c]
        · right
          have h1 := rds_lt hW' hr' t
          have h2 := rd_lt hW' h1 n (Nat.le_refl _)
          have h3 := rd_sub hW' h1 n 0 (by omega)
          rw [Nat.zero_add] at h3
          have := sub_cnt _ h1 _ h2 h3 c
          omega
  rcases key n (Nat.le_refl _) with e | e
  · exact e
  · have h1 := cnt_n n hn _ (rds_n hn hW hr n)
    have h2 : r = 0 := cnt_0 r hr' (by omega)
    subst h2
    have z : ∀ t, rds W n 0 t = 0 := by
      intro t
      induction t with
      | zero => rfl
      | succ t ih => show rd W (rds W n 0 t) n = 0; rw [ih, rd_0]
    rw [z, rd_0]
theorem rds_sub {W : Nat → Nat} {n r : Nat} (hW : ∀ i, i < n → W i < 32) (hr : r < 32) : ∀ t, sub5 r (rds W n r t) := by
  intro t
  induction t with
  | zero => intro j _ h; exact h
  | succ t ih =>
    intro j hj h
    have := rd_sub hW (rds_lt hW hr t) n 0 (by omega) j hj (ih j hj h)
    rwa [Nat.zero_add] at this
theorem rds_cl {W : Nat → Nat} {n r : Nat} (hn : n ≤ 5) (hW : ∀ i, i < n → W i < 2 ^ n) (hr : r < 2 ^ n) : ∀ v, v < n → rds W n r n / 2 ^ v % 2 = 1 → sub5 (W v) (rds W n r n) := by
  intro v hv h j hj hj2
  have hW' : ∀ i, i < n → W i < 32 := fun i hi => lt_32 (hW i hi) hn
  have hr' := lt_32 hr hn
  have fx := rds_fix hn hW hr
  have hl := rds_lt hW' hr' n
  generalize rds W n r n = R at *
  have e1 : rd W R v = R := by
    refine sub_anti (rd_lt hW' hl v (by omega)) hl ?_ ?_
    · have := rd_sub hW' hl (n - v) v (by omega)
      rwa [show v + (n - v) = n by omega, fx] at this
    · have := rd_sub hW' hl v 0 (by omega)
      rwa [Nat.zero_add] at this
  have e2 : rd W R (v + 1) = R := by
    refine sub_anti (rd_lt hW' hl (v + 1) (by omega)) hl ?_ ?_
    · have := rd_sub hW' hl (n - (v + 1)) (v + 1) (by omega)
      rwa [show v + 1 + (n - (v + 1)) = n by omega, fx] at this
    · have := rd_sub hW' hl (v + 1) 0 (by omega)
      rwa [Nat.zero_add] at this
  have e3 : st1 W (rd W R v) v = R := e2
  rw [e1] at e3
  unfold st1 at e3
  rw [if_pos h] at e3
  rw [← e3, or_bit _ hl _ (hW' v hv) j hj, if_pos (Or.inr hj2)]
theorem reach_eq {W : Nat → Nat} {n : Nat} (hn : n ≤ 5) (hW : ∀ i, i < n → W i < 2 ^ n) (i : Nat) (hi : i < n) (l : Nat) (hl : l < n) : wr W n i / 2 ^ l % 2 = rds W n (W i) n / 2 ^ l % 2 := by
  have hW' : ∀ i, i < n → W i < 32 := fun i hi => lt_32 (hW i hi) hn
  have bitn : ∀ a, a < 2 ^ n → ∀ j, a / 2 ^ j % 2 = 1 → j < n := by
    intro a ha j hj
    refine Classical.byContradiction fun c => ?_
    have : a / 2 ^ j = 0 := Nat.div_eq_of_lt (Nat.lt_of_lt_of_le ha (Nat.pow_le_pow_right (by omega) (by omega)))
    rw [this] at hj
    omega
  have sound : ∀ t, ∀ j, j < 5 → rds W n (W i) t / 2 ^ j % 2 = 1 → wr W n i / 2 ^ j % 2 = 1 := by
    have stp : ∀ r, r < 2 ^ n → (∀ j, j < 5 → r / 2 ^ j % 2 = 1 → wr W n i / 2 ^ j % 2 = 1) → ∀ v, v ≤ n → ∀ j, j < 5 → rd W r v / 2 ^ j % 2 = 1 → wr W n i / 2 ^ j % 2 = 1 := by
      intro r hr h v
      induction v with
      | zero => intro _; exact h
      | succ v ih =>
        intro hv j hj hb
        have hb : st1 W (rd W r v) v / 2 ^ j % 2 = 1 := hb
        unfold st1 at hb
        split at hb
        · rename_i c
          have hlt := lt_32 (rd_n hn hW hr v (by omega)) hn
          rw [or_bit _ hlt _ (hW' v (by omega)) j hj] at hb
          split at hb
          · rename_i d
            rcases d with d | d
            · exact ih (by omega) j hj d
            · have hjn := bitn _ (hW v (by omega)) j d
              exact wr_tr hn hW' n (Nat.le_refl _) v (by omega) i hi j hjn (ih (by omega) v (by omega) c) (wr_mo hn hW' v (by omega) j hj d n (Nat.le_refl _))
          · omega
        · exact ih (by omega) j hj hb
    intro t
    induction t with
    | zero => intro j hj h; exact wr_mo hn hW' i hi j hj h n (Nat.le_refl _)
    | succ t ih => exact stp _ (rds_n hn hW (hW i hi) t) ih n (Nat.le_refl _)
  have comp : ∀ k, k ≤ n → ∀ v, v < n → (v = i ∨ rds W n (W i) n / 2 ^ v % 2 = 1) → ∀ j, j < 5 → wr W k v / 2 ^ j % 2 = 1 → rds W n (W i) n / 2 ^ j % 2 = 1 := by
    intro k
    induction k with
    | zero =>
      intro _ v hv hc j hj h
      rcases hc with c | c
      · subst c
        exact rds_sub hW' (hW' v hv) n j hj h
      · exact rds_cl hn hW (hW i hi) v hv c j hj h
    | succ k ih =>
      intro hk v hv hc j hj h
      rw [wr_b hW' k (by omega) v hv j hj] at h
      rcases h with h | ⟨h1, h2⟩
      · exact ih (by omega) v hv hc j hj h
      · have := ih (by omega) v hv hc k (by omega) h1
        exact ih (by omega) k (by omega) (Or.inr this) j hj h2
  have s := sound n l (by omega)
  have c := comp n (Nat.le_refl _) i hi (Or.inl rfl) l (by omega)
  omega
/-- those bits together -/
def rsm (f : Nat → Nat) : Nat → Nat
  | 0 => 0
  | v + 1 => rsm f v ||| f v * 2 ^ v
theorem rsm_lt {f : Nat → Nat} (hf : ∀ v, f v ≤ 1) : ∀ v, v ≤ 5 → rsm f v < 32 := by
  intro v
  induction v with
  | zero => intro _; show 0 < 32; omega
  | succ v ih =>
    intro hv
    refine or_lt _ (ih (by omega)) _ ?_
    have := hf v
    rcases (show v = 0 ∨ v = 1 ∨ v = 2 ∨ v = 3 ∨ v = 4 by omega) with e | e | e | e | e <;> subst e <;> omega
theorem rsm_eq {f g : Nat → Nat} : ∀ v, (∀ i, i < v → f i = g i) → rsm f v = rsm g v := by
  intro v
  induction v with
  | zero => intro _; rfl
  | succ v ih =>
    intro h
    show rsm f v ||| f v * 2 ^ v = rsm g v ||| g v * 2 ^ v
    rw [ih (fun i hi => h i (by omega)), h v (by omega)]
theorem and_own : ∀ s, s < 32 → ∀ r, r < 32 → ∀ v, v < 5 → (nI s ||| (nI r &&& (nI 1 <<< (nI v &&& nI 31)))) = nI (s ||| r / 2 ^ v % 2 * 2 ^ v) := by decide +kernel
/-- waits in all -/
def wmany (W : Nat → Nat) : Nat → Nat
  | 0 => 0
  | v + 1 => wmany W v + cnt (W v) 5
theorem cnt_5 (s : Nat) : cnt s 5 ≤ 5 := by
  show ((((0 + s / 2 ^ 0 % 2) + s / 2 ^ 1 % 2) + s / 2 ^ 2 % 2) + s / 2 ^ 3 % 2) + s / 2 ^ 4 % 2 ≤ 5
  omega
theorem wmany_le (W : Nat → Nat) (v : Nat) : wmany W v ≤ 5 * v := by
  induction v with
  | zero => exact Nat.le_refl _
  | succ v ih =>
    show wmany W v + cnt (W v) 5 ≤ _
    have := cnt_5 (W v)
    omega
theorem B_cw {C : Nat → Nat → Nat} {M : Mm} (hC : OkC C) (hB : ChB C M) {Q : Int32 → Mm → Prop} (h : Q (nI (wmany (C 6) (C 0 0))) M) : wp_Ch_countWaits 20 M Q := by
  have hn := hC.1
  unfold wp_Ch_countWaits
  have key : ∀ f v, v + f = C 0 0 → lp_Ch_countWaits_4 20 Q (f + 1) (nI (wmany (C 6) v)) (nI v) M := by
    intro f
    induction f with
    | zero =>
      intro v hv
      have : v = C 0 0 := by omega
      subst this
      show k_Ch_countWaits_4 20 Q _ _ _ M
      unfold k_Ch_countWaits_4
      simp (disch := omega) only [fa_lit0, xI_le_T, xI_le_F, xI_lt_T, xI_lt_F, xI_eq_T, xI_eq_F, xN_a, xN_b, xN_c, xN_d, xN_e, xN_f, xN_g, xN_h, xI_add, xI_mul, xI_sub, xI_tn, xI_in, xI_ofNat, gi_si_eq, gi_n1, gi_n2, gl_sl_eq, gl_n1, gl_n2, gi_sl, gl_si, forall_eq, true_implies, false_implies, not_true_eq_false, not_false_eq_true, and_true, true_and, implies_true, and_self, hB.1]
      exact h
    | succ f ih =>
      intro v hv
      show k_Ch_countWaits_4 20 Q _ _ _ M
      unfold k_Ch_countWaits_4
      have e := (hB.2.2 v (by omega)).2.2.2.2.2
      have e : gi M (20 + 6) v = nI (C 6 v) := e
      simp (disch := omega) only [fa_lit0, xI_le_T, xI_le_F, xI_lt_T, xI_lt_F, xI_eq_T, xI_eq_F, xN_a, xN_b, xN_c, xN_d, xN_e, xN_f, xN_g, xN_h, xI_add, xI_mul, xI_sub, xI_tn, xI_in, xI_ofNat, gi_si_eq, gi_n1, gi_n2, gl_sl_eq, gl_n1, gl_n2, gi_sl, gl_si, forall_eq, true_implies, false_implies, not_true_eq_false, not_false_eq_true, and_true, true_and, implies_true, and_self, hB.1, e]
      refine bs_cnt0 _ (lt_32 (hC.2.2 v (by omega)).2.2.2.2.2.1 hn) _ _ ?_
      simp (disch := omega) only [fa_lit0, xI_le_T, xI_le_F, xI_lt_T, xI_lt_F, xI_eq_T, xI_eq_F, xN_a, xN_b, xN_c, xN_d, xN_e, xN_f, xN_g, xN_h, xI_add, xI_mul, xI_sub, xI_tn, xI_in, xI_ofNat, gi_si_eq, gi_n1, gi_n2, gl_sl_eq, gl_n1, gl_n2, gi_sl, gl_si, forall_eq, true_implies, false_implies, not_true_eq_false, not_false_eq_true, and_true, true_and, implies_true, and_self]
      exact ih (v + 1) (by omega)
  exact ⟨C 0 0 + 1, key (C 0 0) 0 (by omega)⟩
theorem M_wm {C : Nat → Nat → Nat} {M : Mm} (hW : MW C M) {Q : Int32 → Mm → Prop} (h : Q (nI (wmany (C 6) (C 0 0))) M) : wp_M_waitMany M Q := by
  have hC := hW.1
  have hn := hC.1
  unfold wp_M_waitMany
  have key : ∀ f v, v + f = C 0 0 → lp_M_waitMany_4 Q (f + 1) (nI (wmany (C 6) v)) (nI v) M := by
    intro f
    induction f with
    | zero =>
      intro v hv
      have : v = C 0 0 := by omega
      subst this
      show k_M_waitMany_4 Q _ _ _ M
      unfold k_M_waitMany_4
      simp (disch := omega) only [fa_lit0, xI_le_T, xI_le_F, xI_lt_T, xI_lt_F, xI_eq_T, xI_eq_F, xN_a, xN_b, xN_c, xN_d, xN_e, xN_f, xN_g, xN_h, xI_add, xI_mul, xI_sub, xI_tn, xI_in, xI_ofNat, gi_si_eq, gi_n1, gi_n2, gl_sl_eq, gl_n1, gl_n2, gi_sl, gl_si, forall_eq, true_implies, false_implies, not_true_eq_false, not_false_eq_true, and_true, true_and, implies_true, and_self, hW.2.1]
      exact h
    | succ f ih =>
      intro v hv
      show k_M_waitMany_4 Q _ _ _ M
      unfold k_M_waitMany_4
      have e := (hW.2.2.2 v (by omega)).2.2.2.2.2
      simp (disch := omega) only [fa_lit0, xI_le_T, xI_le_F, xI_lt_T, xI_lt_F, xI_eq_T, xI_eq_F, xN_a, xN_b, xN_c, xN_d, xN_e, xN_f, xN_g, xN_h, xI_add, xI_mul, xI_sub, xI_tn, xI_in, xI_ofNat, gi_si_eq, gi_n1, gi_n2, gl_sl_eq, gl_n1, gl_n2, gi_sl, gl_si, forall_eq, true_implies, false_implies, not_true_eq_false, not_false_eq_true, and_true, true_and, implies_true, and_self, hW.2.1, e]
      refine M_bits (lt_32 (hC.2.2 v (by omega)).2.2.2.2.2.1 hn) ?_
      simp (disch := omega) only [fa_lit0, xI_le_T, xI_le_F, xI_lt_T, xI_lt_F, xI_eq_T, xI_eq_F, xN_a, xN_b, xN_c, xN_d, xN_e, xN_f, xN_g, xN_h, xI_add, xI_mul, xI_sub, xI_tn, xI_in, xI_ofNat, gi_si_eq, gi_n1, gi_n2, gl_sl_eq, gl_n1, gl_n2, gi_sl, gl_si, forall_eq, true_implies, false_implies, not_true_eq_false, not_false_eq_true, and_true, true_and, implies_true, and_self]
      exact ih (v + 1) (by omega)
  exact ⟨C 0 0 + 1, key (C 0 0) 0 (by omega)⟩
theorem B_wft {C : Nat → Nat → Nat} {M : Mm} (hC : OkC C) (hB : ChB C M) {Q : Int32 → Mm → Prop} (h : ∀ M', Sm (fun a _ => a = 52) M M' → Q (nI (rsm (fun v => wr (C 6) (C 0 0) v / 2 ^ v % 2) (C 0 0))) M') : wp_Of_waitingForThemselves M Q := by
  have hn := hC.1
  have hW : ∀ i, i < C 0 0 → C 6 i < 32 := fun i hi => lt_32 (hC.2.2 i hi).2.2.2.2.2.1 hn
  unfold wp_Of_waitingForThemselves
  simp (disch := omega) only [fa_lit0, xI_le_T, xI_le_F, xI_lt_T, xI_lt_F, xI_eq_T, xI_eq_F, xN_a, xN_b, xN_c, xN_d, xN_e, xN_f, xN_g, xN_h, xI_add, xI_mul, xI_sub, xI_tn, xI_in, xI_ofNat, gi_si_eq, gi_n1, gi_n2, gl_sl_eq, gl_n1, gl_n2, gi_sl, gl_si, forall_eq, true_implies, false_implies, not_true_eq_false, not_false_eq_true, and_true, true_and, implies_true, and_self, show ¬ (nI 0 < nI 0) by decide, show (0 + 5 ≤ 5) by omega]
  have s0 : Sm (fun a _ => a = 52) M (cpi M 26 52 0 0 5) := (Sm.refl _ M).cp (fun b => rfl)
  have inner : ∀ (K : Int32 → Mm → Prop) k, k < C 0 0 → (∀ M', Sm (fun a _ => a = 52) M M' → (∀ i, i < C 0 0 → gi M' 52 i = nI (wr (C 6) (k + 1) i)) → K (nI k) M') → ∀ f v M', v + f = C 0 0 → Sm (fun a _ => a = 52) M M' → (∀ i, i < v → gi M' 52 i = nI (wr (C 6) (k + 1) i)) → (∀ i, v ≤ i → i < C 0 0 → gi M' 52 i = nI (wr (C 6) k i)) → lp_Of_waitingForThemselves_32 Q K (f + 1) (nI k) (nI v) M' := by
    intro K k hk hK f
    induction f with
    | zero =>
      intro v M' hv s h1 h2
      have : v = C 0 0 := by omega
      subst this
      show k_Of_waitingForThemselves_32 Q _ K _ _ M'
      unfold k_Of_waitingForThemselves_32
      simp (disch := omega) only [fa_lit0, xI_le_T, xI_le_F, xI_lt_T, xI_lt_F, xI_eq_T, xI_eq_F, xN_a, xN_b, xN_c, xN_d, xN_e, xN_f, xN_g, xN_h, xI_add, xI_mul, xI_sub, xI_tn, xI_in, xI_ofNat, gi_si_eq, gi_n1, gi_n2, gl_sl_eq, gl_n1, gl_n2, gi_sl, gl_si, forall_eq, true_implies, false_implies, not_true_eq_false, not_false_eq_true, and_true, true_and, implies_true, and_self, (s.g (a := 20) (b := 7) (by omega)).trans hB.1]
      exact hK M' s h1
    | succ f ih =>
      intro v M' hv s h1 h2
      show k_Of_waitingForThemselves_32 Q _ K _ _ M'
      unfold k_Of_waitingForThemselves_32
      have e := h2 v (by omega) (by omega)
      have ek : gi M' 52 k = nI (wr (C 6) k k) := by
        by_cases c : k < v
        · rw [h1 k c, wr_self hW k hk]
        · exact h2 k (by omega) hk
      have lv := wr_lt hW k (by omega) v (by omega)
      simp (disch := omega) only [fa_lit0, xI_le_T, xI_le_F, xI_lt_T, xI_lt_F, xI_eq_T, xI_eq_F, xN_a, xN_b, xN_c, xN_d, xN_e, xN_f, xN_g, xN_h, xI_add, xI_mul, xI_sub, xI_tn, xI_in, xI_ofNat, gi_si_eq, gi_n1, gi_n2, gl_sl_eq, gl_n1, gl_n2, gi_sl, gl_si, forall_eq, true_implies, false_implies, not_true_eq_false, not_false_eq_true, and_true, true_and, implies_true, and_self, (s.g (a := 20) (b := 7) (by omega)).trans hB.1, e]
      refine B_has lv (by omega) ?_
      have fin : ∀ x, x = nI (wr (C 6) (k + 1) v) → lp_Of_waitingForThemselves_32 Q K (f + 1) (nI k) (nI (v + 1)) (si M' 52 v x) := by
        intro x hx
        subst hx
        refine ih (v + 1) _ (by omega) (s.wi rfl) (fun i hi => ?_) (fun i hi hi2 => ?_)
        · by_cases c : i = v
          · subst c; rw [gi_si_eq]
          · rw [gi_n2 c]; exact h1 i (by omega)
        · rw [gi_n2 (by omega)]; exact h2 i (by omega) hi2
      by_cases c : wr (C 6) k v / 2 ^ k % 2 = 1
      · have ew : wr (C 6) (k + 1) v = wr (C 6) k v ||| wr (C 6) k k := if_pos c
        simp (disch := omega) only [fa_lit0, xI_le_T, xI_le_F, xI_lt_T, xI_lt_F, xI_eq_T, xI_eq_F, xN_a, xN_b, xN_c, xN_d, xN_e, xN_f, xN_g, xN_h, xI_add, xI_mul, xI_sub, xI_tn, xI_in, xI_ofNat, gi_si_eq, gi_n1, gi_n2, gl_sl_eq, gl_n1, gl_n2, gi_sl, gl_si, forall_eq, true_implies, false_implies, not_true_eq_false, not_false_eq_true, and_true, true_and, implies_true, and_self, c, ek, k_Of_waitingForThemselves_73, bs_or]
        exact fin _ (by rw [ew])
      · have c0 : wr (C 6) k v / 2 ^ k % 2 = 0 := by omega
        have ew : wr (C 6) (k + 1) v = wr (C 6) k v := if_neg c
        simp (disch := omega) only [fa_lit0, xI_le_T, xI_le_F, xI_lt_T, xI_lt_F, xI_eq_T, xI_eq_F, xN_a, xN_b, xN_c, xN_d, xN_e, xN_f, xN_g, xN_h, xI_add, xI_mul, xI_sub, xI_tn, xI_in, xI_ofNat, gi_si_eq, gi_n1, gi_n2, gl_sl_eq, gl_n1, gl_n2, gi_sl, gl_si, forall_eq, true_implies, false_implies, not_true_eq_false, not_false_eq_true, and_true, true_and, implies_true, and_self, c0, k_Of_waitingForThemselves_73, or_0]
        exact fin _ (by rw [ew])
  have outer : ∀ (K : Mm → Prop), (∀ M', Sm (fun a _ => a = 52) M M' → (∀ i, i < C 0 0 → gi M' 52 i = nI (wr (C 6) (C 0 0) i)) → K M') → ∀ f k M', k + f = C 0 0 → Sm (fun a _ => a = 52) M M' → (∀ i, i < C 0 0 → gi M' 52 i = nI (wr (C 6) k i)) → lp_Of_waitingForThemselves_19 Q K (f + 1) (nI k) M' := by
    intro K hK f
    induction f with
    | zero =>
      intro k M' hk s h1
      have : k = C 0 0 := by omega
      subst this
      show k_Of_waitingForThemselves_19 Q _ K _ M'
      unfold k_Of_waitingForThemselves_19
      simp (disch := omega) only [fa_lit0, xI_le_T, xI_le_F, xI_lt_T, xI_lt_F, xI_eq_T, xI_eq_F, xN_a, xN_b, xN_c, xN_d, xN_e, xN_f, xN_g, xN_h, xI_add, xI_mul, xI_sub, xI_tn, xI_in, xI_ofNat, gi_si_eq, gi_n1, gi_n2, gl_sl_eq, gl_n1, gl_n2, gi_sl, gl_si, forall_eq, true_implies, false_implies, not_true_eq_false, not_false_eq_true, and_true, true_and, implies_true, and_self, (s.g (a := 20) (b := 7) (by omega)).trans hB.1]
      exact hK M' s h1
    | succ f ih =>
      intro k M' hk s h1
      show k_Of_waitingForThemselves_19 Q _ K _ M'
      unfold k_Of_waitingForThemselves_19
      simp (disch := omega) only [fa_lit0, xI_le_T, xI_le_F, xI_lt_T, xI_lt_F, xI_eq_T, xI_eq_F, xN_a, xN_b, xN_c, xN_d, xN_e, xN_f, xN_g, xN_h, xI_add, xI_mul, xI_sub, xI_tn, xI_in, xI_ofNat, gi_si_eq, gi_n1, gi_n2, gl_sl_eq, gl_n1, gl_n2, gi_sl, gl_si, forall_eq, true_implies, false_implies, not_true_eq_false, not_false_eq_true, and_true, true_and, implies_true, and_self, (s.g (a := 20) (b := 7) (by omega)).trans hB.1]
      refine ⟨C 0 0 + 1, inner _ k (by omega) ?_ (C 0 0) 0 M' (by omega) s (fun i hi => absurd hi (Nat.not_lt_zero i)) (fun i _ hi => h1 i hi)⟩
      intro M2 s2 h2
      simp (disch := omega) only [fa_lit0, xI_le_T, xI_le_F, xI_lt_T, xI_lt_F, xI_eq_T, xI_eq_F, xN_a, xN_b, xN_c, xN_d, xN_e, xN_f, xN_g, xN_h, xI_add, xI_mul, xI_sub, xI_tn, xI_in, xI_ofNat, gi_si_eq, gi_n1, gi_n2, gl_sl_eq, gl_n1, gl_n2, gi_sl, gl_si, forall_eq, true_implies, false_implies, not_true_eq_false, not_false_eq_true, and_true, true_and, implies_true, and_self]
      exact ih (k + 1) M2 (by omega) s2 h2
  have lst : ∀ M', Sm (fun a _ => a = 52) M M' → (∀ i, i < C 0 0 → gi M' 52 i = nI (wr (C 6) (C 0 0) i)) → ∀ f v, v + f = C 0 0 → lp_Of_waitingForThemselves_91 Q (f + 1) (nI (rsm (fun v => wr (C 6) (C 0 0) v / 2 ^ v % 2) v)) (nI v) M' := by
    intro M' s h1 f
    induction f with
    | zero =>
      intro v hv
      have : v = C 0 0 := by omega
      subst this
      show k_Of_waitingForThemselves_91 Q _ _ _ M'
      unfold k_Of_waitingForThemselves_91
      simp (disch := omega) only [fa_lit0, xI_le_T, xI_le_F, xI_lt_T, xI_lt_F, xI_eq_T, xI_eq_F, xN_a, xN_b, xN_c, xN_d, xN_e, xN_f, xN_g, xN_h, xI_add, xI_mul, xI_sub, xI_tn, xI_in, xI_ofNat, gi_si_eq, gi_n1, gi_n2, gl_sl_eq, gl_n1, gl_n2, gi_sl, gl_si, forall_eq, true_implies, false_implies, not_true_eq_false, not_false_eq_true, and_true, true_and, implies_true, and_self, (s.g (a := 20) (b := 7) (by omega)).trans hB.1]
      exact h M' s
    | succ f ih =>
      intro v hv
      show k_Of_waitingForThemselves_91 Q _ _ _ M'
      unfold k_Of_waitingForThemselves_91
      have e := h1 v (by omega)
      have l1 := rsm_lt (f := fun v => wr (C 6) (C 0 0) v / 2 ^ v % 2) (fun v => by omega) v (by omega)
      have l2 := wr_lt hW (C 0 0) (by omega) v (by omega)
      simp (disch := omega) only [fa_lit0, xI_le_T, xI_le_F, xI_lt_T, xI_lt_F, xI_eq_T, xI_eq_F, xN_a, xN_b, xN_c, xN_d, xN_e, xN_f, xN_g, xN_h, xI_add, xI_mul, xI_sub, xI_tn, xI_in, xI_ofNat, gi_si_eq, gi_n1, gi_n2, gl_sl_eq, gl_n1, gl_n2, gi_sl, gl_si, forall_eq, true_implies, false_implies, not_true_eq_false, not_false_eq_true, and_true, true_and, implies_true, and_self, (s.g (a := 20) (b := 7) (by omega)).trans hB.1, e, and_own _ l1 _ l2 v (show v < 5 by omega)]
      exact ih (v + 1) (by omega)
  refine ⟨C 0 0 + 1, outer _ ?_ (C 0 0) 0 _ (by omega) s0 (fun i hi => ?_)⟩
  · intro M' s h1
    exact ⟨C 0 0 + 1, lst M' s h1 (C 0 0) 0 (by omega)⟩
  · rw [cp5 (by omega)]
    exact (hB.2.2 i hi).2.2.2.2.2
theorem M_stalledR {C : Nat → Nat → Nat} {M : Mm} (hW : MW C M) {Q : Int32 → Mm → Prop} {K : Int32 → Mm → Prop} (h : K (nI (rsm (fun v => rds (C 6) (C 0 0) (C 6 v) (C 0 0) / 2 ^ v % 2) (C 0 0))) M) : ∃ n, lp_M_stalled_4 Q K n (nI 0) (nI 0) M := by
  have hC := hW.1
  have hn := hC.1
  have hW' : ∀ i, i < C 0 0 → C 6 i < 32 := fun i hi => lt_32 (hC.2.2 i hi).2.2.2.2.2.1 hn
  have inner : ∀ (K : Int32 → Int32 → Int32 → Int32 → Mm → Prop) (a b d : Int32) r, r < 32 → K a b (nI (rd (C 6) r (C 0 0))) d M → ∀ f v, v + f = C 0 0 → lp_M_stalled_34 Q K (f + 1) a b (nI (rd (C 6) r v)) d (nI v) M := by
    intro K a b d r hr hK f
    induction f with
    | zero =>
      intro v hv
      have : v = C 0 0 := by omega
      subst this
      show k_M_stalled_34 Q _ K _ _ _ _ _ M
      unfold k_M_stalled_34
      simp (disch := omega) only [fa_lit0, xI_le_T, xI_le_F, xI_lt_T, xI_lt_F, xI_eq_T, xI_eq_F, xN_a, xN_b, xN_c, xN_d, xN_e, xN_f, xN_g, xN_h, xI_add, xI_mul, xI_sub, xI_tn, xI_in, xI_ofNat, gi_si_eq, gi_n1, gi_n2, gl_sl_eq, gl_n1, gl_n2, gi_sl, gl_si, forall_eq, true_implies, false_implies, not_true_eq_false, not_false_eq_true, and_true, true_and, implies_true, and_self, hW.2.1]
      exact hK
    | succ f ih =>
      intro v hv
      show k_M_stalled_34 Q _ K _ _ _ _ _ M
      unfold k_M_stalled_34
      have l := rd_lt hW' hr v (by omega)
      simp (disch := omega) only [fa_lit0, xI_le_T, xI_le_F, xI_lt_T, xI_lt_F, xI_eq_T, xI_eq_F, xN_a, xN_b, xN_c, xN_d, xN_e, xN_f, xN_g, xN_h, xI_add, xI_mul, xI_sub, xI_tn, xI_in, xI_ofNat, gi_si_eq, gi_n1, gi_n2, gl_sl_eq, gl_n1, gl_n2, gi_sl, gl_si, forall_eq, true_implies, false_implies, not_true_eq_false, not_false_eq_true, and_true, true_and, implies_true, and_self, hW.2.1]
      refine M_has l (by omega) ?_
      by_cases c : rd (C 6) r v / 2 ^ v % 2 = 1
      · have ew : rd (C 6) r (v + 1) = rd (C 6) r v ||| C 6 v := if_pos c
        have ih := ih (v + 1) (by omega)
        rw [ew] at ih
        have e := (hW.2.2.2 v (by omega)).2.2.2.2.2
        simp (disch := omega) only [fa_lit0, xI_le_T, xI_le_F, xI_lt_T, xI_lt_F, xI_eq_T, xI_eq_F, xN_a, xN_b, xN_c, xN_d, xN_e, xN_f, xN_g, xN_h, xI_add, xI_mul, xI_sub, xI_tn, xI_in, xI_ofNat, gi_si_eq, gi_n1, gi_n2, gl_sl_eq, gl_n1, gl_n2, gi_sl, gl_si, forall_eq, true_implies, false_implies, not_true_eq_false, not_false_eq_true, and_true, true_and, implies_true, and_self, c, k_M_stalled_64, e, bs_or]
        exact ih
      · have c0 : rd (C 6) r v / 2 ^ v % 2 = 0 := by omega
        have ew : rd (C 6) r (v + 1) = rd (C 6) r v := if_neg c
        have ih := ih (v + 1) (by omega)
        rw [ew] at ih
        simp (disch := omega) only [fa_lit0, xI_le_T, xI_le_F, xI_lt_T, xI_lt_F, xI_eq_T, xI_eq_F, xN_a, xN_b, xN_c, xN_d, xN_e, xN_f, xN_g, xN_h, xI_add, xI_mul, xI_sub, xI_tn, xI_in, xI_ofNat, gi_si_eq, gi_n1, gi_n2, gl_sl_eq, gl_n1, gl_n2, gi_sl, gl_si, forall_eq, true_implies, false_implies, not_true_eq_false, not_false_eq_true, and_true, true_and, implies_true, and_self, c0, k_M_stalled_64, or_0]
        exact ih
  have mid : ∀ (K : Int32 → Int32 → Int32 → Mm → Prop) (a b : Int32) r, r < 32 → K a b (nI (rds (C 6) (C 0 0) r (C 0 0))) M → ∀ f t, t + f = C 0 0 → lp_M_stalled_22 Q K (f + 1) a b (nI (rds (C 6) (C 0 0) r t)) (nI t) M := by
    intro K a b r hr hK f
    induction f with
    | zero =>
      intro t ht
      have : t = C 0 0 := by omega
      subst this
      show k_M_stalled_22 Q _ K _ _ _ _ M
      unfold k_M_stalled_22
      simp (disch := omega) only [fa_lit0, xI_le_T, xI_le_F, xI_lt_T, xI_lt_F, xI_eq_T, xI_eq_F, xN_a, xN_b, xN_c, xN_d, xN_e, xN_f, xN_g, xN_h, xI_add, xI_mul, xI_sub, xI_tn, xI_in, xI_ofNat, gi_si_eq, gi_n1, gi_n2, gl_sl_eq, gl_n1, gl_n2, gi_sl, gl_si, forall_eq, true_implies, false_implies, not_true_eq_false, not_false_eq_true, and_true, true_and, implies_true, and_self, hW.2.1]
      exact hK
    | succ f ih =>
      intro t ht
      show k_M_stalled_22 Q _ K _ _ _ _ M
      unfold k_M_stalled_22
      simp (disch := omega) only [fa_lit0, xI_le_T, xI_le_F, xI_lt_T, xI_lt_F, xI_eq_T, xI_eq_F, xN_a, xN_b, xN_c, xN_d, xN_e, xN_f, xN_g, xN_h, xI_add, xI_mul, xI_sub, xI_tn, xI_in, xI_ofNat, gi_si_eq, gi_n1, gi_n2, gl_sl_eq, gl_n1, gl_n2, gi_sl, gl_si, forall_eq, true_implies, false_implies, not_true_eq_false, not_false_eq_true, and_true, true_and, implies_true, and_self, hW.2.1]
      refine ⟨C 0 0 + 1, inner _ a b (nI t) _ (rds_lt hW' hr t) ?_ (C 0 0) 0 (by omega)⟩
      simp (disch := omega) only [fa_lit0, xI_le_T, xI_le_F, xI_lt_T, xI_lt_F, xI_eq_T, xI_eq_F, xN_a, xN_b, xN_c, xN_d, xN_e, xN_f, xN_g, xN_h, xI_add, xI_mul, xI_sub, xI_tn, xI_in, xI_ofNat, gi_si_eq, gi_n1, gi_n2, gl_sl_eq, gl_n1, gl_n2, gi_sl, gl_si, forall_eq, true_implies, false_implies, not_true_eq_false, not_false_eq_true, and_true, true_and, implies_true, and_self]
      exact ih (t + 1) (by omega)
  have key : ∀ f v, v + f = C 0 0 → lp_M_stalled_4 Q K (f + 1) (nI (rsm (fun v => rds (C 6) (C 0 0) (C 6 v) (C 0 0) / 2 ^ v % 2) v)) (nI v) M := by
    intro f
    induction f with
    | zero =>
      intro v hv
      have : v = C 0 0 := by omega
      subst this
      show k_M_stalled_4 Q _ K _ _ M
      unfold k_M_stalled_4
      simp (disch := omega) only [fa_lit0, xI_le_T, xI_le_F, xI_lt_T, xI_lt_F, xI_eq_T, xI_eq_F, xN_a, xN_b, xN_c, xN_d, xN_e, xN_f, xN_g, xN_h, xI_add, xI_mul, xI_sub, xI_tn, xI_in, xI_ofNat, gi_si_eq, gi_n1, gi_n2, gl_sl_eq, gl_n1, gl_n2, gi_sl, gl_si, forall_eq, true_implies, false_implies, not_true_eq_false, not_false_eq_true, and_true, true_and, implies_true, and_self, hW.2.1]
      exact h
    | succ f ih =>
      intro v hv
      show k_M_stalled_4 Q _ K _ _ M
      unfold k_M_stalled_4
      have e := (hW.2.2.2 v (by omega)).2.2.2.2.2
      simp (disch := omega) only [fa_lit0, xI_le_T, xI_le_F, xI_lt_T, xI_lt_F, xI_eq_T, xI_eq_F, xN_a, xN_b, xN_c, xN_d, xN_e, xN_f, xN_g, xN_h, xI_add, xI_mul, xI_sub, xI_tn, xI_in, xI_ofNat, gi_si_eq, gi_n1, gi_n2, gl_sl_eq, gl_n1, gl_n2, gi_sl, gl_si, forall_eq, true_implies, false_implies, not_true_eq_false, not_false_eq_true, and_true, true_and, implies_true, and_self, hW.2.1, e]
      refine ⟨C 0 0 + 1, mid _ _ _ _ (hW' v (by omega)) ?_ (C 0 0) 0 (by omega)⟩
      have l := rds_lt hW' (hW' v (by omega)) (C 0 0)
      have l1 := rsm_lt (f := fun v => rds (C 6) (C 0 0) (C 6 v) (C 0 0) / 2 ^ v % 2) (fun v => by omega) v (by omega)
      refine M_has l (by omega) ?_
      have ih := ih (v + 1) (by omega)
      have er : rsm (fun v => rds (C 6) (C 0 0) (C 6 v) (C 0 0) / 2 ^ v % 2) (v + 1) = rsm (fun v => rds (C 6) (C 0 0) (C 6 v) (C 0 0) / 2 ^ v % 2) v ||| (rds (C 6) (C 0 0) (C 6 v) (C 0 0) / 2 ^ v % 2) * 2 ^ v := rfl
      rw [er] at ih
      by_cases c : rds (C 6) (C 0 0) (C 6 v) (C 0 0) / 2 ^ v % 2 = 1
      · rw [c, Nat.one_mul] at ih
        simp (disch := omega) only [fa_lit0, xI_le_T, xI_le_F, xI_lt_T, xI_lt_F, xI_eq_T, xI_eq_F, xN_a, xN_b, xN_c, xN_d, xN_e, xN_f, xN_g, xN_h, xI_add, xI_mul, xI_sub, xI_tn, xI_in, xI_ofNat, gi_si_eq, gi_n1, gi_n2, gl_sl_eq, gl_n1, gl_n2, gi_sl, gl_si, forall_eq, true_implies, false_implies, not_true_eq_false, not_false_eq_true, and_true, true_and, implies_true, and_self, c, k_M_stalled_94, bs_l, bs_or]
        exact ih
      · have c0 : rds (C 6) (C 0 0) (C 6 v) (C 0 0) / 2 ^ v % 2 = 0 := by omega
        rw [c0, Nat.zero_mul] at ih
        simp (disch := omega) only [fa_lit0, xI_le_T, xI_le_F, xI_lt_T, xI_lt_F, xI_eq_T, xI_eq_F, xN_a, xN_b, xN_c, xN_d, xN_e, xN_f, xN_g, xN_h, xI_add, xI_mul, xI_sub, xI_tn, xI_in, xI_ofNat, gi_si_eq, gi_n1, gi_n2, gl_sl_eq, gl_n1, gl_n2, gi_sl, gl_si, forall_eq, true_implies, false_implies, not_true_eq_false, not_false_eq_true, and_true, true_and, implies_true, and_self, c0, k_M_stalled_94, bs_or]
        exact ih
  exact ⟨C 0 0 + 1, key (C 0 0) 0 (by omega)⟩
theorem op_stalled {M : Mm} (h : Rel RDel M) : wp_B_stalled M (fun r M1 => wp_M_stalled M1 (fun r2 M2 => r = r2 ∧ Rel RDel M2)) := by
  obtain ⟨C, F, D, L, T, N, V, KL, hd⟩ := h.2.2.2.2.2.2.out
  obtain ⟨hC, hB, hW, hO, hF, hG, hcw⟩ := hd.parts
  have hn := hC.1
  unfold wp_B_stalled
  refine B_cw hC hB ?_
  have s0 : Sm (fun a b => a = 0 ∧ b = 13) M (si M 0 13 (nI (wmany (C 6) (C 0 0)))) := (Sm.refl _ M).wi ⟨rfl, rfl⟩
  refine B_wft hC (hB.sm s0 (fun a b q => by omega)) (fun M1 s1 => ?_)
  have s2 : Sm (fun a b => (a = 0 ∧ b = 13) ∨ a = 52) M M1 := (s0.mono (fun a b q => Or.inl q)).trans (s1.mono (fun a b q => Or.inr q))
  have w1 : MW C M1 := hW.sm s2 (fun a b q => by omega)
  unfold wp_M_stalled
  refine M_stalledR w1 ?_
  refine M_wm w1 ?_
  simp (disch := omega) only [fa_lit0, xI_le_T, xI_le_F, xI_lt_T, xI_lt_F, xI_eq_T, xI_eq_F, xN_a, xN_b, xN_c, xN_d, xN_e, xN_f, xN_g, xN_h, xI_add, xI_mul, xI_sub, xI_tn, xI_in, xI_ofNat, gi_si_eq, gi_n1, gi_n2, gl_sl_eq, gl_n1, gl_n2, gi_sl, gl_si, forall_eq, true_implies, false_implies, not_true_eq_false, not_false_eq_true, and_true, true_and, implies_true, and_self, wp_M_tells]
  refine ⟨?_, ?_⟩
  · rw [rsm_eq (C 0 0) (fun i hi => reach_eq hn (fun i hi => (hC.2.2 i hi).2.2.2.2.2.1) i hi i hi)]
  · have s3 : Sm (fun a b => (a = 0 ∧ b = 13) ∨ a = 52 ∨ (a = 312 ∧ b = 2)) M (si M1 312 2 (nI (wmany (C 6) (C 0 0)))) := (s2.mono (fun a b q => by omega)).wi (by omega)
    refine h.fin hd (s3.mono (fun a b q => by unfold Asw; omega)) (fun hn => ?_) (h.1.sm s3 (fun a b q => by omega)) ?_ (h.2.2.2.2.2.1.sm s3 (fun a b q => by omega))
    · exact (hcw hn).2.2.sm s3 (fun b => by omega)
    · unfold Rtld
      rw [gi_si_eq, gi_n1 (by omega), s1.g (by omega), gi_si_eq]
