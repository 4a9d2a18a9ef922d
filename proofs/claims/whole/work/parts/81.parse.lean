/-! reading a text: p the place, w the waits read, A the chart so far -/
def fg (t : Nat → Int32) (m lo hi p : Nat) : Nat := if p < m ∧ nI lo ≤ t p - nI 48 ∧ t p - nI 48 ≤ nI hi then tn (t p - nI 48) + 1 else 0
def kdl (x : Int32) : Nat := if x = nI 97 then 0 else if x = nI 116 then 1 else if x = nI 115 then 2 else if x = nI 98 then 3 else if x = nI 108 then 4 else if x = nI 109 then 5 else 9
def addA (A : Nat → Nat → Nat) (k a b c d : Nat) : Nat → Nat → Nat := upC (upC (upC (upC (upC (upC A 1 (A 0 0) k) 2 (A 0 0) a) 3 (A 0 0) b) 4 (A 0 0) c) 5 (A 0 0) d) 0 0 (A 0 0 + 1)
/-- an item at p: 0, and what is behind it; or its fault's place + 1 -/
def itm (t : Nat → Int32) (m p w : Nat) (A : Nat → Nat → Nat) : Nat × Nat × Nat × (Nat → Nat → Nat) :=
  if A 0 1 = 0 then
    if t p = nI 114 then
      if fg t m 1 9 (p + 1) = 0 then (p + 2, p, w, A) else (0, p + 2, w, upC A 0 1 (3 * (fg t m 1 9 (p + 1) - 1)))
    else (p + 1, p, w, A)
  else if t p = nI 119 then
    if A 0 0 = 0 ∨ w = 8 then (p + 1, p, w, A)
    else if fg t m 0 (A 0 0 - 1) (p + 1) = 0 then (p + 2, p, w, A)
    else if fg t m 0 (A 0 0 - 1) (p + 2) = 0 then (p + 3, p, w, A)
    else if fg t m 0 (A 0 0 - 1) (p + 1) = fg t m 0 (A 0 0 - 1) (p + 2) ∨ A 6 (fg t m 0 (A 0 0 - 1) (p + 1) - 1) / 2 ^ (fg t m 0 (A 0 0 - 1) (p + 2) - 1) % 2 = 1 then (p + 3, p, w, A)
    else (0, p + 3, w + 1, upC A 6 (fg t m 0 (A 0 0 - 1) (p + 1) - 1) (bset (A 6 (fg t m 0 (A 0 0 - 1) (p + 1) - 1)) (fg t m 0 (A 0 0 - 1) (p + 2) - 1) 1))
  else if kdl (t p) = 9 ∨ A 0 0 = 5 ∨ 0 < w then (p + 1, p, w, A)
  else if fg t m 1 9 (p + 1) = 0 then (p + 2, p, w, A)
  else if fg t m 0 9 (p + 2) = 0 then (p + 3, p, w, A)
  else if fg t m 1 6 (p + 3) = 0 then (p + 4, p, w, A)
  else if fg t m 0 (fg t m 1 6 (p + 3) - 1 - 1) (p + 4) = 0 then (p + 5, p, w, A)
  else (0, p + 5, w, addA A (kdl (t p)) (fg t m 1 9 (p + 1) - 1) (fg t m 0 9 (p + 2) - 1) (fg t m 1 6 (p + 3) - 1) (fg t m 0 (fg t m 1 6 (p + 3) - 1 - 1) (p + 4) - 1))
theorem fg_c (t : Nat → Int32) (m lo hi p : Nat) (hl : lo < 100) (hh : hi < 100) : (fg t m lo hi p = 0 ∧ ¬ (p < m ∧ nI lo ≤ t p - nI 48 ∧ t p - nI 48 ≤ nI hi)) ∨ ∃ d, fg t m lo hi p = d + 1 ∧ p < m ∧ t p - nI 48 = nI d ∧ lo ≤ d ∧ d ≤ hi := by
  unfold fg
  by_cases c : p < m ∧ nI lo ≤ t p - nI 48 ∧ t p - nI 48 ≤ nI hi
  · rw [if_pos c]
    refine Or.inr ?_
    obtain ⟨c1, c2, c3⟩ := c
    generalize t p - nI 48 = v at *
    rcases pk_ix v (n := 100) (by omega) with g | g | ⟨d, hd, rfl⟩
    · rw [ng_b g (by omega)] at c2; exact absurd c2 id
    · rw [bg_d g (by omega) hh] at c3; exact absurd c3 id
    · refine ⟨d, ?_, c1, rfl, ?_, ?_⟩
      · rw [show tn (nI d) = d from nI_clamp (by omega)]
      · refine Classical.byContradiction fun w => ?_
        rw [xI_le_F (by omega) (by omega)] at c2; exact c2
      · refine Classical.byContradiction fun w => ?_
        rw [xI_le_F (by omega) (by omega)] at c3; exact c3
  · rw [if_neg c]; exact Or.inl ⟨rfl, c⟩
theorem itm_p {t : Nat → Int32} {m p w : Nat} {A : Nat → Nat → Nat} (h : (itm t m p w A).1 = 0) : p + 1 ≤ (itm t m p w A).2.1 := by
  unfold itm at h ⊢
  by_cases c1 : A 0 1 = 0
  · rw [if_pos c1] at h ⊢
    split at h
    · split at h
      · simp at h
      · rename_i a b; rw [if_pos a, if_neg b]; show p + 1 ≤ p + 2; omega
    · simp at h
  · rw [if_neg c1] at h ⊢
    split at h
    · rename_i a
      rw [if_pos a]
      split at h
      · simp at h
      · rename_i b; rw [if_neg b]
        split at h
        · simp at h
        · rename_i b; rw [if_neg b]
          split at h
          · simp at h
          · rename_i b; rw [if_neg b]
            split at h
            · simp at h
            · rename_i b; rw [if_neg b]; show p + 1 ≤ p + 3; omega
    · rename_i a
      rw [if_neg a]
      split at h
      · simp at h
      · rename_i b; rw [if_neg b]
        split at h
        · simp at h
        · rename_i b; rw [if_neg b]
          split at h
          · simp at h
          · rename_i b; rw [if_neg b]
            split at h
            · simp at h
            · rename_i b; rw [if_neg b]
              split at h
              · simp at h
              · rename_i b; rw [if_neg b]; show p + 1 ≤ p + 5; omega
def prun (t : Nat → Int32) (m : Nat) : Nat → Nat → Nat → (Nat → Nat → Nat) → Nat × Nat × Nat × (Nat → Nat → Nat)
  | 0, p, w, A => (0, p, w, A)
  | f + 1, p, w, A => if p < m then (if t p = nI 32 then prun t m f (p + 1) w A else if (itm t m p w A).1 = 0 then prun t m f (itm t m p w A).2.1 (itm t m p w A).2.2.1 (itm t m p w A).2.2.2 else itm t m p w A) else (0, p, w, A)
theorem prun_st {t : Nat → Int32} {m : Nat} : ∀ g g' p w A, m ≤ p + g → m ≤ p + g' → prun t m g p w A = prun t m g' p w A := by
  intro g
  induction g with
  | zero =>
    intro g' p w A h1 h2
    cases g' with
    | zero => rfl
    | succ g' =>
      show (0, p, w, A) = prun t m (g' + 1) p w A
      unfold prun
      rw [if_neg (by omega)]
  | succ g ih =>
    intro g' p w A h1 h2
    cases g' with
    | zero =>
      show prun t m (g + 1) p w A = (0, p, w, A)
      unfold prun
      rw [if_neg (by omega)]
    | succ g' =>
      unfold prun
      by_cases c : p < m
      · rw [if_pos c, if_pos c]
        by_cases c2 : t p = nI 32
        · rw [if_pos c2, if_pos c2]
          exact ih g' (p + 1) w A (by omega) (by omega)
        · rw [if_neg c2, if_neg c2]
          by_cases c3 : (itm t m p w A).1 = 0
          · rw [if_pos c3, if_pos c3]
            have := itm_p c3
            exact ih g' _ _ _ (by omega) (by omega)
          · rw [if_neg c3, if_neg c3]
      · rw [if_neg c, if_neg c]
def pr (t : Nat → Int32) (m p w : Nat) (A : Nat → Nat → Nat) : Nat × Nat × Nat × (Nat → Nat → Nat) := prun t m (m - p) p w A
theorem pr_end {t : Nat → Int32} {m p w : Nat} {A : Nat → Nat → Nat} (h : m ≤ p) : pr t m p w A = (0, p, w, A) := by
  unfold pr
  rw [show m - p = 0 by omega]
  rfl
theorem pr_bl {t : Nat → Int32} {m p w : Nat} {A : Nat → Nat → Nat} (h : p < m) (h2 : t p = nI 32) : pr t m p w A = pr t m (p + 1) w A := by
  unfold pr
  rw [show m - p = (m - (p + 1)) + 1 by omega]
  show (if p < m then _ else _) = _
  rw [if_pos h, if_pos h2]
theorem pr_it {t : Nat → Int32} {m p w : Nat} {A : Nat → Nat → Nat} (h : p < m) (h2 : ¬ t p = nI 32) : pr t m p w A = if (itm t m p w A).1 = 0 then pr t m (itm t m p w A).2.1 (itm t m p w A).2.2.1 (itm t m p w A).2.2.2 else itm t m p w A := by
  unfold pr
  rw [show m - p = (m - (p + 1)) + 1 by omega]
  show (if p < m then _ else _) = _
  rw [if_pos h, if_neg h2]
  by_cases c : (itm t m p w A).1 = 0
  · rw [if_pos c, if_pos c]
    have := itm_p c
    exact prun_st _ _ _ _ _ (by omega) (by omega)
  · rw [if_neg c, if_neg c]
/-- what holds of a chart that is being read -/
def OkP (w : Nat) (A : Nat → Nat → Nat) : Prop := A 0 0 ≤ 5 ∧ w ≤ 8 ∧ A 0 1 ≤ 27 ∧ (∀ i, i < A 0 0 → A 1 i < 6 ∧ (1 ≤ A 2 i ∧ A 2 i ≤ 9) ∧ A 3 i ≤ 9 ∧ (1 ≤ A 4 i ∧ A 4 i ≤ 6) ∧ A 5 i < A 4 i) ∧ (∀ i, i < 5 → A 6 i < 2 ^ A 0 0 ∧ A 6 i / 2 ^ i % 2 = 0) ∧ (w = 0 → ∀ i, i < 5 → A 6 i = 0)
theorem kdl_lt (x : Int32) : kdl x < 6 ∨ kdl x = 9 := by
  unfold kdl
  repeat (first | (split; · omega) | omega)
theorem OkP.riv {w : Nat} {A : Nat → Nat → Nat} (h : OkP w A) {x : Nat} (hx : x ≤ 27) : OkP w (upC A 0 1 x) := by
  obtain ⟨h1, h2, h3, h4, h5, h6⟩ := h
  have e : ∀ a b, a ≠ 0 → upC A 0 1 x a b = A a b := fun a b q => upC_ne (by omega)
  have e0 : upC A 0 1 x 0 0 = A 0 0 := upC_ne (by omega)
  refine ⟨by rw [e0]; exact h1, h2, by rw [upC_eq]; exact hx, fun i hi => ?_, fun i hi => ?_, fun hw i hi => ?_⟩
  · rw [e0] at hi
    rw [e 1 i (by omega), e 2 i (by omega), e 3 i (by omega), e 4 i (by omega), e 5 i (by omega)]
    exact h4 i hi
  · rw [e 6 i (by omega), e0]; exact h5 i hi
  · rw [e 6 i (by omega)]; exact h6 hw i hi
theorem OkP.wt {w : Nat} {A : Nat → Nat → Nat} (h : OkP w A) {i j : Nat} (hw : w < 8) (hi : i < A 0 0) (hj : j < A 0 0) (hij : i ≠ j) : OkP (w + 1) (upC A 6 i (bset (A 6 i) j 1)) := by
  obtain ⟨h1, h2, h3, h4, h5, h6⟩ := h
  have e : ∀ a b, a ≠ 6 → upC A 6 i (bset (A 6 i) j 1) a b = A a b := fun a b q => upC_ne (by omega)
  refine ⟨by rw [e 0 0 (by omega)]; exact h1, by omega, by rw [e 0 1 (by omega)]; exact h3, fun q hq => ?_, fun q hq => ?_, fun hw => by omega⟩
  · rw [e 0 0 (by omega)] at hq
    rw [e 1 q (by omega), e 2 q (by omega), e 3 q (by omega), e 4 q (by omega), e 5 q (by omega)]
    exact h4 q hq
  · rw [e 0 0 (by omega)]
    by_cases c : q = i
    · subst c
      have l6 := lt_32 (h5 q hq).1 h1
      rw [upC_eq]
      refine ⟨bset_n _ h1 _ (h5 q hq).1 j hj 1 (by omega), ?_⟩
      rw [bset_bit _ l6 j (by omega) 1 (by omega) q hq, if_neg hij]
      exact (h5 q hq).2
    · rw [upC_ne (by omega)]; exact h5 q hq
theorem addA_z (A : Nat → Nat → Nat) (k a b c d : Nat) : addA A k a b c d 0 0 = A 0 0 + 1 := upC_eq _ _ _ _
theorem addA_o {A : Nat → Nat → Nat} {k a b c d q i : Nat} (h : q ≠ 0 ∨ i ≠ 0) (h2 : i ≠ A 0 0 ∨ q = 0 ∨ 6 ≤ q) : addA A k a b c d q i = A q i := by
  unfold addA
  rw [upC_ne h, upC_ne (by omega), upC_ne (by omega), upC_ne (by omega), upC_ne (by omega), upC_ne (by omega)]
theorem addA_n (A : Nat → Nat → Nat) (k a b c d : Nat) : addA A k a b c d 1 (A 0 0) = k ∧ addA A k a b c d 2 (A 0 0) = a ∧ addA A k a b c d 3 (A 0 0) = b ∧ addA A k a b c d 4 (A 0 0) = c ∧ addA A k a b c d 5 (A 0 0) = d := by
  unfold addA
  refine ⟨?_, ?_, ?_, ?_, ?_⟩
  · rw [upC_ne (by omega), upC_ne (by omega), upC_ne (by omega), upC_ne (by omega), upC_ne (by omega), upC_eq]
  · rw [upC_ne (by omega), upC_ne (by omega), upC_ne (by omega), upC_ne (by omega), upC_eq]
  · rw [upC_ne (by omega), upC_ne (by omega), upC_ne (by omega), upC_eq]
  · rw [upC_ne (by omega), upC_ne (by omega), upC_eq]
  · rw [upC_ne (by omega), upC_eq]
theorem OkP.am {A : Nat → Nat → Nat} (h : OkP 0 A) {k a b c d : Nat} (hn : A 0 0 < 5) (hk : k < 6) (ha : 1 ≤ a ∧ a ≤ 9) (hb : b ≤ 9) (hc : 1 ≤ c ∧ c ≤ 6) (hd : d < c) : OkP 0 (addA A k a b c d) := by
  obtain ⟨h1, h2, h3, h4, h5, h6⟩ := h
  have z := h6 rfl
  obtain ⟨e1, e2, e3, e4, e5⟩ := addA_n A k a b c d
  refine ⟨by rw [addA_z]; omega, by omega, by rw [addA_o (by omega) (by omega)]; exact h3, fun i hi => ?_, fun i hi => ?_, fun _ i hi => ?_⟩
  · rw [addA_z] at hi
    by_cases v : i = A 0 0
    · subst v
      rw [e1, e2, e3, e4, e5]
      exact ⟨hk, ha, hb, hc, hd⟩
    · rw [addA_o (by omega) (by omega), addA_o (by omega) (by omega), addA_o (by omega) (by omega), addA_o (by omega) (by omega), addA_o (by omega) (by omega)]
      exact h4 i (by omega)
  · rw [addA_o (by omega) (by omega), z i hi]
    exact ⟨Nat.two_pow_pos _, by rw [Nat.zero_div]⟩
  · rw [addA_o (by omega) (by omega)]; exact z i hi
theorem itm_ok {t : Nat → Int32} {m p w : Nat} {A : Nat → Nat → Nat} (h : OkP w A) (h0 : (itm t m p w A).1 = 0) : OkP (itm t m p w A).2.2.1 (itm t m p w A).2.2.2 := by
  have hn := h.1
  unfold itm at h0 ⊢
  by_cases c1 : A 0 1 = 0
  · rw [if_pos c1] at h0 ⊢
    split at h0
    · rename_i a
      split at h0
      · simp at h0
      · rename_i b; rw [if_pos a, if_neg b]
        rcases fg_c t m 1 9 (p + 1) (by omega) (by omega) with q | ⟨d, q1, q2, q3, q4, q5⟩
        · exact absurd q.1 b
        · exact h.riv (by omega)
    · simp at h0
  · rw [if_neg c1] at h0 ⊢
    split at h0
    · rename_i a
      rw [if_pos a]
      split at h0
      · simp at h0
      · rename_i b; rw [if_neg b]
        split at h0
        · simp at h0
        · rename_i b2; rw [if_neg b2]
          split at h0
          · simp at h0
          · rename_i b3; rw [if_neg b3]
            split at h0
            · simp at h0
            · rename_i b4; rw [if_neg b4]
              rcases fg_c t m 0 (A 0 0 - 1) (p + 1) (by omega) (by omega) with q | ⟨d, q1, q2, q3, q4, q5⟩
              · exact absurd q.1 b2
              · rcases fg_c t m 0 (A 0 0 - 1) (p + 2) (by omega) (by omega) with r | ⟨e, r1, r2, r3, r4, r5⟩
                · exact absurd r.1 b3
                · rw [q1, r1] at b4 ⊢
                  have := h.2.1
                  exact h.wt (by omega) (by omega) (by omega) (by omega)
    · rename_i a
      rw [if_neg a]
      split at h0
      · simp at h0
      · rename_i b; rw [if_neg b]
        split at h0
        · simp at h0
        · rename_i b2; rw [if_neg b2]
          split at h0
          · simp at h0
          · rename_i b3; rw [if_neg b3]
            split at h0
            · simp at h0
            · rename_i b4; rw [if_neg b4]
              split at h0
              · simp at h0
              · rename_i b5; rw [if_neg b5]
                have hw : w = 0 := by omega
                subst hw
                have hk := kdl_lt (t p)
                rcases fg_c t m 1 9 (p + 1) (by omega) (by omega) with q | ⟨d, q1, q2, q3, q4, q5⟩
                · exact absurd q.1 b2
                · rcases fg_c t m 0 9 (p + 2) (by omega) (by omega) with r | ⟨e, r1, r2, r3, r4, r5⟩
                  · exact absurd r.1 b3
                  · rcases fg_c t m 1 6 (p + 3) (by omega) (by omega) with s | ⟨f, s1, s2, s3, s4, s5⟩
                    · exact absurd s.1 b4
                    · rcases fg_c t m 0 (fg t m 1 6 (p + 3) - 1 - 1) (p + 4) (by omega) (by omega) with u | ⟨g, u1, u2, u3, u4, u5⟩
                      · exact absurd u.1 b5
                      · exact h.am (by omega) (by omega) (by omega) (by omega) (by omega) (by omega)
theorem pr_ok {t : Nat → Int32} {m : Nat} : ∀ f p w A, m ≤ p + f → OkP w A → (pr t m p w A).1 = 0 → OkP (pr t m p w A).2.2.1 (pr t m p w A).2.2.2 := by
  intro f
  induction f with
  | zero => intro p w A h1 h2 h3; rw [pr_end (by omega)] at h3 ⊢; exact h2
  | succ f ih =>
    intro p w A h1 h2 h3
    by_cases c : m ≤ p
    · rw [pr_end c]; exact h2
    · by_cases c2 : t p = nI 32
      · rw [pr_bl (by omega) c2] at h3 ⊢; exact ih (p + 1) w A (by omega) h2 h3
      · rw [pr_it (by omega) c2] at h3 ⊢
        by_cases c3 : (itm t m p w A).1 = 0
        · rw [if_pos c3] at h3 ⊢
          have := itm_p c3
          exact ih _ _ _ (by omega) (itm_ok h2 c3) h3
        · rw [if_neg c3] at h3; exact absurd h3 c3
