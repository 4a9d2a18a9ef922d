/-! what a season does, and stamps -/
def en (C : Nat → Nat → Nat) (s i : Nat) : Nat := if wat C s i < C 3 i then 0 else 1
def hb (C : Nat → Nat → Nat) (F : Nat → Nat) (s i : Nat) : Nat := if wat C s i < C 3 i ∨ F (25 + i) = 1 ∨ 4 < F (5 + i) then 0 else 1
def hv (C : Nat → Nat → Nat) (F : Nat → Nat) : Nat := ps (hb C F (mk F 0)) 0 (C 0 0)
def sal (C : Nat → Nat → Nat) (G : Nat → Nat) (i x : Nat) : Nat := if x = 1 then G (5 + i) - 1 else if G (5 + i) + (if C 1 i = 1 then 2 else 1) < 9 then G (5 + i) + (if C 1 i = 1 then 2 else 1) else 9
def slo (C : Nat → Nat → Nat) (G : Nat → Nat) (i : Nat) : Nat := if G i = 1 then G (10 + i) - 1 else G (10 + i) + (if C 1 i = 2 ∨ C 1 i = 4 then 2 else 1)
def slt (C : Nat → Nat → Nat) (G : Nat → Nat) (i : Nat) : Nat → Nat := if slo C G i < 9 then up G (10 + i) (slo C G i) else up (up (up (up G (10 + i) 9) (25 + i) 1) (20 + i) 0) i 0
def hup (C : Nat → Nat → Nat) (F : Nat → Nat) (s : Nat) (G : Nat → Nat) (i : Nat) : Nat → Nat := up G (15 + i) (G (15 + i) + hb C F s i)
def sup (C : Nat → Nat → Nat) (s : Nat) (G : Nat → Nat) (i : Nat) : Nat → Nat := up G (5 + i) (sal C G i (en C s i))
def gb (C : Nat → Nat → Nat) (F : Nat → Nat) (s : Nat) : Nat → Nat → Nat
  | 0 => F
  | m + 1 => slt C (sup C s (hup C F s (gb C F s m) m) m) m
def gob (C : Nat → Nat → Nat) (F : Nat → Nat) : Nat → Nat := up (gb C F (mk F 0) (C 0 0)) 30 (F 30 + 1)
abbrev fol (C : Nat → Nat → Nat) (F : Nat → Nat) (i : Nat) : Prop := C 1 i = 5 ∧ i + 1 < C 0 0 ∧ F (25 + (i + 1)) = 0 ∧ F (20 + (i + 1)) = 0
def stp (C : Nat → Nat → Nat) (F : Nat → Nat) (i : Nat) : Nat → Nat := if fol C F i then up (up F i (1 - F i)) (i + 1) (1 - F i) else up F i (1 - F i)
def ssF (C : Nat → Nat → Nat) (s : Nat) (F : Nat → Nat) : Nat → Nat → Nat
  | 0 => F
  | m + 1 => if s / 2 ^ m % 2 = 1 ∧ may C (ssF C s F m) m = 1 then stp C (ssF C s F m) m else ssF C s F m
def ssD (C : Nat → Nat → Nat) (s : Nat) (F : Nat → Nat) : Nat → Nat
  | 0 => 0
  | m + 1 => ssD C s F m + (if s / 2 ^ m % 2 = 1 ∧ may C (ssF C s F m) m = 1 then 1 else 0) * 2 ^ m
theorem hb_le (C : Nat → Nat → Nat) (F : Nat → Nat) (s i : Nat) : hb C F s i ≤ 1 := by unfold hb; split <;> omega
theorem en_le (C : Nat → Nat → Nat) (s i : Nat) : en C s i ≤ 1 := by unfold en; split <;> omega
theorem hv_lt {C : Nat → Nat → Nat} (hC : OkC C) (F : Nat → Nat) : hv C F < 32 := by
  have h1 := ps_lt (F := hb C F (mk F 0)) (b := 0) (fun i _ => hb_le _ _ _ _) (C 0 0) hC.1
  have h2 : 2 ^ C 0 0 ≤ 2 ^ 5 := Nat.pow_le_pow_right (by omega) hC.1
  unfold hv
  omega
theorem add_bit : ∀ m, m < 5 → ∀ p, p < 2 ^ m → ∀ x, x < 2 → ∀ j, j < 5 → (p + x * 2 ^ m) / 2 ^ j % 2 = if j = m then x else p / 2 ^ j % 2 := by decide +kernel
theorem ps_bit {G : Nat → Nat} (hG : ∀ i, G i ≤ 1) : ∀ m, m ≤ 5 → ∀ j, j < 5 → ps G 0 m / 2 ^ j % 2 = if j < m then G j else 0 := by
  intro m
  induction m with
  | zero => intro _ j _; rw [if_neg (by omega)]; show 0 / 2 ^ j % 2 = 0; rw [Nat.zero_div]
  | succ m ih =>
    intro hm j hj
    show (ps G 0 m + G (0 + m) * 2 ^ m) / 2 ^ j % 2 = _
    have := hG (0 + m)
    rw [add_bit m (by omega) _ (ps_lt (fun i _ => hG _) m (by omega)) _ (by omega) j hj, ih (by omega) j hj]
    by_cases e : j = m
    · subst e; rw [if_pos rfl, if_pos (by omega), Nat.zero_add]
    · rw [if_neg e]
      by_cases e2 : j < m
      · rw [if_pos e2, if_pos (by omega)]
      · rw [if_neg e2, if_neg (by omega)]
theorem srv_ps (C : Nat → Nat → Nat) (s : Nat) : ∀ m, srv C s m = ps (en C s) 0 m := by
  intro m
  induction m with
  | zero => rfl
  | succ m ih =>
    show srv C s m + _ = ps (en C s) 0 m + en C s (0 + m) * 2 ^ m
    rw [ih, Nat.zero_add]
    unfold en
    split
    · rw [Nat.zero_mul]
    · rw [Nat.one_mul]
theorem srv_lt {C : Nat → Nat → Nat} (hC : OkC C) (s : Nat) : srv C s (C 0 0) < 32 := by
  have h1 := ps_lt (F := en C s) (b := 0) (fun i _ => en_le _ _ _) (C 0 0) hC.1
  have h2 : 2 ^ C 0 0 ≤ 2 ^ 5 := Nat.pow_le_pow_right (by omega) hC.1
  rw [srv_ps]
  omega
theorem hv_bit {C : Nat → Nat → Nat} (hC : OkC C) (F : Nat → Nat) {j : Nat} (hj : j < C 0 0) : hv C F / 2 ^ j % 2 = hb C F (mk F 0) j := by
  have := hC.1
  unfold hv
  rw [ps_bit (fun i => hb_le _ _ _ _) _ hC.1 j (by omega), if_pos hj]
theorem srv_bit {C : Nat → Nat → Nat} (hC : OkC C) (s : Nat) {j : Nat} (hj : j < C 0 0) : srv C s (C 0 0) / 2 ^ j % 2 = en C s j := by
  have := hC.1
  rw [srv_ps, ps_bit (fun i => en_le _ _ _) _ hC.1 j (by omega), if_pos hj]
/-- a flow on the way through a season -/
def OkQ (n : Nat) (G : Nat → Nat) : Prop := (∀ i, i < 5 → G i ≤ 1 ∧ G (5 + i) ≤ 9 ∧ G (10 + i) ≤ 9 ∧ G (20 + i) ≤ 1 ∧ G (25 + i) ≤ 1) ∧ ∀ i, n ≤ i → i < 5 → G i = 0 ∧ G (5 + i) = 0 ∧ G (10 + i) = 0 ∧ G (15 + i) = 0 ∧ G (20 + i) = 0 ∧ G (25 + i) = 0
theorem OkF.q {n : Nat} {F : Nat → Nat} (h : OkF n F) : OkQ n F := ⟨fun i hi => by have := h.1 i hi; omega, h.2.2⟩
theorem OkQ.o {n : Nat} {F : Nat → Nat} (h : OkQ n F) : ∀ i, i < 5 → F (0 + i) ≤ 1 := fun i hi => by rw [Nat.zero_add]; exact (h.1 i hi).1
theorem OkQ.s {n : Nat} {F : Nat → Nat} (h : OkQ n F) : ∀ i, i < 5 → F (5 + i) < 16 := fun i hi => by have := (h.1 i hi).2.1; omega
theorem OkQ.t {n : Nat} {F : Nat → Nat} (h : OkQ n F) : ∀ i, i < 5 → F (10 + i) < 16 := fun i hi => by have := (h.1 i hi).2.2.1; omega
theorem OkQ.b {n : Nat} {F : Nat → Nat} (h : OkQ n F) : ∀ i, i < 5 → F (20 + i) ≤ 1 := fun i hi => (h.1 i hi).2.2.2.1
theorem OkQ.d {n : Nat} {F : Nat → Nat} (h : OkQ n F) : ∀ i, i < 5 → F (25 + i) ≤ 1 := fun i hi => (h.1 i hi).2.2.2.2
theorem OkQ.ob {n : Nat} {F : Nat → Nat} (h : OkQ n F) {i : Nat} (hi : i < 5) : mk F 0 / 2 ^ i % 2 = F i := by
  have := mk_bit h.o hi
  rwa [Nat.zero_add] at this
theorem OkQ.u {n : Nat} {G : Nat → Nat} (h : OkQ n G) {j x : Nat} (hx : (j < 5 → x ≤ 1) ∧ (5 ≤ j → j < 15 → x ≤ 9) ∧ (20 ≤ j → j < 30 → x ≤ 1)) (hz : (j < 5 → j < n) ∧ (5 ≤ j → j < 10 → j < n + 5) ∧ (10 ≤ j → j < 15 → j < n + 10) ∧ (15 ≤ j → j < 20 → j < n + 15) ∧ (20 ≤ j → j < 25 → j < n + 20) ∧ (25 ≤ j → j < 30 → j < n + 25)) : OkQ n (up G j x) := by
  refine ⟨fun i hi => ?_, fun i h1 h2 => ?_⟩
  · have := h.1 i hi
    unfold up
    refine ⟨?_, ?_, ?_, ?_, ?_⟩ <;> split <;> omega
  · have := h.2 i h1 h2
    unfold up
    refine ⟨?_, ?_, ?_, ?_, ?_, ?_⟩ <;> split <;> omega
theorem sal_le {C : Nat → Nat → Nat} {G : Nat → Nat} {i x : Nat} (h : G (5 + i) ≤ 9) : sal C G i x ≤ 9 := by
  unfold sal
  split
  · omega
  · split <;> split <;> omega
theorem OkQ.l {n : Nat} {C : Nat → Nat → Nat} {G : Nat → Nat} (h : OkQ n G) {i : Nat} (hi : i < n) (hn : n ≤ 5) : OkQ n (slt C G i) := by
  unfold slt
  split
  · rename_i w
    exact h.u (by omega) (by omega)
  · exact (((h.u (by omega) (by omega)).u (by omega) (by omega)).u (by omega) (by omega)).u (by omega) (by omega)
theorem OkQ.g {n : Nat} {C : Nat → Nat → Nat} {F : Nat → Nat} {s : Nat} (h : OkQ n F) (hn : n ≤ 5) : ∀ m, m ≤ n → OkQ n (gb C F s m) := by
  intro m
  induction m with
  | zero => intro _; exact h
  | succ m ih =>
    intro hm
    have h1 := ih (by omega)
    have h2 : OkQ n (hup C F s (gb C F s m) m) := h1.u (by omega) (by omega)
    have h3 : OkQ n (sup C s (hup C F s (gb C F s m) m) m) := by
      have := sal_le (C := C) (x := en C s m) (h2.1 m (by omega)).2.1
      exact h2.u (by omega) (by omega)
    exact h3.l (by omega) hn
theorem slt_un {C : Nat → Nat → Nat} {G : Nat → Nat} {i j : Nat} (hi : i < 5) (h : j ≠ i) (h1 : j ≠ 10 + i) (h2 : j ≠ 20 + i) (h3 : j ≠ 25 + i) : slt C G i j = G j := by
  unfold slt
  split
  · rw [up_ne h1]
  · rw [up_ne h, up_ne h2, up_ne h3, up_ne h1]
theorem gb_un {C : Nat → Nat → Nat} {F : Nat → Nat} {s : Nat} : ∀ m, m ≤ 5 → ∀ q j, q < 6 → m ≤ j → j < 5 → gb C F s m (5 * q + j) = F (5 * q + j) := by
  intro m
  induction m with
  | zero => intro _ _ _ _ _ _; rfl
  | succ m ih =>
    intro hm q j hq h1 h2
    show slt C _ m (5 * q + j) = _
    rw [slt_un (by omega) (by omega) (by omega) (by omega) (by omega)]
    unfold sup hup
    rw [up_ne (by omega), up_ne (by omega)]
    exact ih (by omega) q j hq (by omega) h2
theorem gb_30 {C : Nat → Nat → Nat} {F : Nat → Nat} {s : Nat} : ∀ m, m ≤ 5 → gb C F s m 30 = F 30 := by
  intro m
  induction m with
  | zero => intro _; rfl
  | succ m ih =>
    intro hm
    show slt C _ m 30 = _
    rw [slt_un (by omega) (by omega) (by omega) (by omega) (by omega)]
    unfold sup hup
    rw [up_ne (by omega), up_ne (by omega)]
    exact ih (by omega)
theorem gb_15 {C : Nat → Nat → Nat} {F : Nat → Nat} {s : Nat} : ∀ m, m ≤ 5 → ∀ i, i < 5 → gb C F s m (15 + i) ≤ F (15 + i) + 1 ∧ (m ≤ i → gb C F s m (15 + i) = F (15 + i)) := by
  intro m
  induction m with
  | zero => intro _ i _; exact ⟨Nat.le_succ _, fun _ => rfl⟩
  | succ m ih =>
    intro hm i hi
    have h1 := ih (by omega) i hi
    have e : gb C F s (m + 1) (15 + i) = hup C F s (gb C F s m) m (15 + i) := by
      show slt C _ m (15 + i) = _
      rw [slt_un (by omega) (by omega) (by omega) (by omega) (by omega)]
      unfold sup
      rw [up_ne (by omega)]
    rw [e]
    unfold hup
    have h2 := hb_le C F s m
    by_cases w : i = m
    · subst w
      rw [up_eq, h1.2 (Nat.le_refl _)]
      exact ⟨by omega, fun v => by omega⟩
    · rw [up_ne (by omega)]
      exact ⟨h1.1, fun v => h1.2 (by omega)⟩
theorem OkF.go {C : Nat → Nat → Nat} {F : Nat → Nat} (hC : OkC C) (h : OkF (C 0 0) F) (hb : F 30 < 150) : OkF (C 0 0) (gob C F) := by
  have hq := h.q.g (C := C) (s := mk F 0) hC.1 (C 0 0) (Nat.le_refl _)
  refine ⟨fun i hi => ?_, ?_, fun i h1 h2 => ?_⟩
  · have h1 := hq.1 i hi
    have h2 := (gb_15 (C := C) (F := F) (s := mk F 0) (C 0 0) hC.1 i hi).1
    have h3 := (h.1 i hi).2.2.2.1
    unfold gob
    rw [up_eq, up_ne (by omega), up_ne (by omega), up_ne (by omega), up_ne (by omega), up_ne (by omega), up_ne (by omega)]
    exact ⟨h1.1, h1.2.1, h1.2.2.1, by omega, h1.2.2.2.1, h1.2.2.2.2⟩
  · unfold gob; rw [up_eq]; omega
  · unfold gob
    rw [up_ne (by omega), up_ne (by omega), up_ne (by omega), up_ne (by omega), up_ne (by omega), up_ne (by omega)]
    exact hq.2 i h1 h2
theorem gob_30 (C : Nat → Nat → Nat) (F : Nat → Nat) : gob C F 30 = F 30 + 1 := up_eq _ _ _
theorem OkF.upo {n : Nat} {F : Nat → Nat} (h : OkF n F) {i x : Nat} (hi : i < n) (hn : n ≤ 5) (hx : x ≤ 1) : OkF n (up F i x) := by
  refine ⟨fun j hj => ?_, ?_, fun j h1 h2 => ?_⟩
  · have := h.1 j hj
    rw [up_ne (q := 5 + j) (by omega), up_ne (q := 10 + j) (by omega), up_ne (q := 15 + j) (by omega), up_ne (q := 20 + j) (by omega), up_ne (q := 25 + j) (by omega), up_ne (q := 30) (by omega)]
    refine ⟨?_, this.2⟩
    unfold up
    split <;> omega
  · rw [up_ne (by omega)]; exact h.2.1
  · have := h.2.2 j h1 h2
    rw [up_ne (q := 5 + j) (by omega), up_ne (q := 10 + j) (by omega), up_ne (q := 15 + j) (by omega), up_ne (q := 20 + j) (by omega), up_ne (q := 25 + j) (by omega), up_ne (q := j) (by omega)]
    exact this
theorem OkF.st {C : Nat → Nat → Nat} {F : Nat → Nat} (hC : OkC C) (h : OkF (C 0 0) F) {i : Nat} (hi : i < C 0 0) : OkF (C 0 0) (stp C F i) := by
  unfold stp
  split
  · rename_i w
    exact (h.upo hi hC.1 (by omega)).upo w.2.1 hC.1 (by omega)
  · exact h.upo hi hC.1 (by omega)
theorem stp_30 {C : Nat → Nat → Nat} {F : Nat → Nat} {i : Nat} (hi : i < 5) : stp C F i 30 = F 30 := by
  unfold stp
  split
  · rw [up_ne (by omega), up_ne (by omega)]
  · rw [up_ne (by omega)]
theorem OkF.ss {C : Nat → Nat → Nat} {F : Nat → Nat} {s : Nat} (hC : OkC C) (h : OkF (C 0 0) F) : ∀ m, m ≤ C 0 0 → OkF (C 0 0) (ssF C s F m) ∧ ssF C s F m 30 = F 30 := by
  intro m
  induction m with
  | zero => intro _; exact ⟨h, rfl⟩
  | succ m ih =>
    intro hm
    have h1 := ih (by omega)
    have := hC.1
    unfold ssF
    split
    · exact ⟨h1.1.st hC (by omega), (stp_30 (by omega)).trans h1.2⟩
    · exact h1
theorem ssD_lt {C : Nat → Nat → Nat} {F : Nat → Nat} {s : Nat} : ∀ m, m ≤ 5 → ssD C s F m < 2 ^ m := by
  intro m
  induction m with
  | zero => intro _; exact Nat.one_pos
  | succ m ih =>
    intro hm
    have h1 := ih (by omega)
    show ssD C s F m + (if s / 2 ^ m % 2 = 1 ∧ may C (ssF C s F m) m = 1 then 1 else 0) * 2 ^ m < 2 ^ (m + 1)
    rw [Nat.pow_succ]
    split
    · omega
    · omega
theorem lt_32 {m x : Nat} (h : x < 2 ^ m) (hm : m ≤ 5) : x < 32 := by
  have : 2 ^ m ≤ 2 ^ 5 := Nat.pow_le_pow_right (by omega) hm
  omega
/-! writes into flows -/
theorem p16_un {F : Nat → Nat} {b j x : Nat} (h : j < b ∨ b + 5 ≤ j) : p16 (up F j x) b = p16 F b := by
  unfold p16
  rw [up_ne (by omega), up_ne (by omega), up_ne (by omega), up_ne (by omega), up_ne (by omega)]
theorem p256_un {F : Nat → Nat} {b j x : Nat} (h : j < b ∨ b + 5 ≤ j) : p256 (up F j x) b = p256 F b := by
  unfold p256
  rw [up_ne (by omega), up_ne (by omega), up_ne (by omega), up_ne (by omega), up_ne (by omega)]
theorem mk_un {F : Nat → Nat} {b j x : Nat} (h : j < b ∨ b + 5 ≤ j) : mk (up F j x) b = mk F b := by
  unfold mk
  rw [up_ne (by omega), up_ne (by omega), up_ne (by omega), up_ne (by omega), up_ne (by omega)]
theorem FlB.w1 {G : Nat → Nat} {M : Mm} {k i x : Nat} (h : FlB G M k) (hi : i < 5) : FlB (up G i x) (si M k 1 (nI (mk (up G i x) 0))) k := by
  obtain ⟨h0, h1, h2, h3, h4, h5, h6⟩ := h
  unfold FlB
  simp (disch := omega) only [fa_lit0, xI_le_T, xI_le_F, xI_lt_T, xI_lt_F, xI_eq_T, xI_eq_F, xN_a, xN_b, xN_c, xN_d, xN_e, xN_f, xN_g, xN_h, xI_add, xI_mul, xI_sub, xI_tn, xI_in, xI_ofNat, gi_si_eq, gi_n1, gi_n2, gl_sl_eq, gl_n1, gl_n2, gi_sl, gl_si, forall_eq, true_implies, false_implies, not_true_eq_false, not_false_eq_true, and_true, true_and, implies_true, and_self, up_ne, mk_un, p16_un, p256_un, h0, h2, h3, h4, h5, h6]
theorem FlB.w2 {G : Nat → Nat} {M : Mm} {k i x : Nat} (h : FlB G M k) (hi : i < 5) : FlB (up G (20 + i) x) (si M k 2 (nI (mk (up G (20 + i) x) 20))) k := by
  obtain ⟨h0, h1, h2, h3, h4, h5, h6⟩ := h
  unfold FlB
  simp (disch := omega) only [fa_lit0, xI_le_T, xI_le_F, xI_lt_T, xI_lt_F, xI_eq_T, xI_eq_F, xN_a, xN_b, xN_c, xN_d, xN_e, xN_f, xN_g, xN_h, xI_add, xI_mul, xI_sub, xI_tn, xI_in, xI_ofNat, gi_si_eq, gi_n1, gi_n2, gl_sl_eq, gl_n1, gl_n2, gi_sl, gl_si, forall_eq, true_implies, false_implies, not_true_eq_false, not_false_eq_true, and_true, true_and, implies_true, and_self, up_ne, mk_un, p16_un, p256_un, h0, h1, h3, h4, h5, h6]
theorem FlB.w3 {G : Nat → Nat} {M : Mm} {k i x : Nat} (h : FlB G M k) (hi : i < 5) : FlB (up G (25 + i) x) (si M k 3 (nI (mk (up G (25 + i) x) 25))) k := by
  obtain ⟨h0, h1, h2, h3, h4, h5, h6⟩ := h
  unfold FlB
  simp (disch := omega) only [fa_lit0, xI_le_T, xI_le_F, xI_lt_T, xI_lt_F, xI_eq_T, xI_eq_F, xN_a, xN_b, xN_c, xN_d, xN_e, xN_f, xN_g, xN_h, xI_add, xI_mul, xI_sub, xI_tn, xI_in, xI_ofNat, gi_si_eq, gi_n1, gi_n2, gl_sl_eq, gl_n1, gl_n2, gi_sl, gl_si, forall_eq, true_implies, false_implies, not_true_eq_false, not_false_eq_true, and_true, true_and, implies_true, and_self, up_ne, mk_un, p16_un, p256_un, h0, h1, h2, h4, h5, h6]
theorem FlB.w4 {G : Nat → Nat} {M : Mm} {k i x : Nat} (h : FlB G M k) (hi : i < 5) : FlB (up G (5 + i) x) (si M k 4 (nI (p16 (up G (5 + i) x) 5))) k := by
  obtain ⟨h0, h1, h2, h3, h4, h5, h6⟩ := h
  unfold FlB
  simp (disch := omega) only [fa_lit0, xI_le_T, xI_le_F, xI_lt_T, xI_lt_F, xI_eq_T, xI_eq_F, xN_a, xN_b, xN_c, xN_d, xN_e, xN_f, xN_g, xN_h, xI_add, xI_mul, xI_sub, xI_tn, xI_in, xI_ofNat, gi_si_eq, gi_n1, gi_n2, gl_sl_eq, gl_n1, gl_n2, gi_sl, gl_si, forall_eq, true_implies, false_implies, not_true_eq_false, not_false_eq_true, and_true, true_and, implies_true, and_self, up_ne, mk_un, p16_un, p256_un, h0, h1, h2, h3, h5, h6]
theorem FlB.w5 {G : Nat → Nat} {M : Mm} {k i x : Nat} (h : FlB G M k) (hi : i < 5) : FlB (up G (10 + i) x) (si M k 5 (nI (p16 (up G (10 + i) x) 10))) k := by
  obtain ⟨h0, h1, h2, h3, h4, h5, h6⟩ := h
  unfold FlB
  simp (disch := omega) only [fa_lit0, xI_le_T, xI_le_F, xI_lt_T, xI_lt_F, xI_eq_T, xI_eq_F, xN_a, xN_b, xN_c, xN_d, xN_e, xN_f, xN_g, xN_h, xI_add, xI_mul, xI_sub, xI_tn, xI_in, xI_ofNat, gi_si_eq, gi_n1, gi_n2, gl_sl_eq, gl_n1, gl_n2, gi_sl, gl_si, forall_eq, true_implies, false_implies, not_true_eq_false, not_false_eq_true, and_true, true_and, implies_true, and_self, up_ne, mk_un, p16_un, p256_un, h0, h1, h2, h3, h4, h6]
theorem FlB.w6 {G : Nat → Nat} {M : Mm} {k i x : Nat} (h : FlB G M k) (hi : i < 5) : FlB (up G (15 + i) x) (sl M k 6 (lN (p256 (up G (15 + i) x) 15))) k := by
  obtain ⟨h0, h1, h2, h3, h4, h5, h6⟩ := h
  unfold FlB
  simp (disch := omega) only [fa_lit0, xI_le_T, xI_le_F, xI_lt_T, xI_lt_F, xI_eq_T, xI_eq_F, xN_a, xN_b, xN_c, xN_d, xN_e, xN_f, xN_g, xN_h, xI_add, xI_mul, xI_sub, xI_tn, xI_in, xI_ofNat, gi_si_eq, gi_n1, gi_n2, gl_sl_eq, gl_n1, gl_n2, gi_sl, gl_si, forall_eq, true_implies, false_implies, not_true_eq_false, not_false_eq_true, and_true, true_and, implies_true, and_self, up_ne, mk_un, p16_un, p256_un, h0, h1, h2, h3, h4, h5]
theorem FlB.w0 {G : Nat → Nat} {M : Mm} {k x : Nat} (h : FlB G M k) : FlB (up G 30 x) (si M k 0 (nI x)) k := by
  obtain ⟨h0, h1, h2, h3, h4, h5, h6⟩ := h
  unfold FlB
  simp (disch := omega) only [fa_lit0, xI_le_T, xI_le_F, xI_lt_T, xI_lt_F, xI_eq_T, xI_eq_F, xN_a, xN_b, xN_c, xN_d, xN_e, xN_f, xN_g, xN_h, xI_add, xI_mul, xI_sub, xI_tn, xI_in, xI_ofNat, gi_si_eq, gi_n1, gi_n2, gl_sl_eq, gl_n1, gl_n2, gi_sl, gl_si, forall_eq, true_implies, false_implies, not_true_eq_false, not_false_eq_true, and_true, true_and, implies_true, and_self, up_eq, mk_un, p16_un, p256_un, h1, h2, h3, h4, h5, h6]
theorem FM.w {G : Nat → Nat} {M : Mm} {f j x : Nat} (h : FM G M f) : FM (up G j x) (si M 327 (31 * f + j) (nI x)) f := by
  intro q hq
  show gi (si M 327 (31 * f + j) (nI x)) 327 (31 * f + q) = nI (up G j x q)
  by_cases e : q = j
  · subst e; rw [gi_si_eq, up_eq]
  · rw [gi_n2 (by omega), up_ne e]; exact h q hq
