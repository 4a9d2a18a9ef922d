/-- M' is M but for the places of S -/
def Sm (S : Nat → Nat → Prop) (M M' : Mm) : Prop := ∀ a b, ¬ S a b → gi M' a b = gi M a b ∧ gl M' a b = gl M a b
theorem Sm.refl (S : Nat → Nat → Prop) (M : Mm) : Sm S M M := fun _ _ _ => ⟨rfl, rfl⟩
theorem Sm.trans {S : Nat → Nat → Prop} {M M1 M2 : Mm} (h : Sm S M M1) (h2 : Sm S M1 M2) : Sm S M M2 := fun a b q => ⟨(h2 a b q).1.trans (h a b q).1, (h2 a b q).2.trans (h a b q).2⟩
theorem Sm.mono {S T : Nat → Nat → Prop} {M M' : Mm} (h : Sm S M M') (hs : ∀ a b, S a b → T a b) : Sm T M M' := fun a b q => h a b (fun w => q (hs a b w))
theorem Sm.wi {S : Nat → Nat → Prop} {M M' : Mm} (h : Sm S M M') {k j : Nat} {x : Int32} (hk : S k j) : Sm S M (si M' k j x) := fun a b q => by
  refine ⟨?_, ?_⟩
  · rw [gi_si_ne]
    · exact (h a b q).1
    · refine Classical.byContradiction fun w => q ?_
      have h1 : a = k := Classical.byContradiction fun v => w (Or.inl v)
      have h2 : b = j := Classical.byContradiction fun v => w (Or.inr v)
      rw [h1, h2]
      exact hk
  · rw [gl_si]; exact (h a b q).2
theorem Sm.wl {S : Nat → Nat → Prop} {M M' : Mm} (h : Sm S M M') {k j : Nat} {x : Int64} (hk : S k j) : Sm S M (sl M' k j x) := fun a b q => by
  refine ⟨?_, ?_⟩
  · rw [gi_sl]; exact (h a b q).1
  · rw [gl_sl_ne]
    · exact (h a b q).2
    · refine Classical.byContradiction fun w => q ?_
      have h1 : a = k := Classical.byContradiction fun v => w (Or.inl v)
      have h2 : b = j := Classical.byContradiction fun v => w (Or.inr v)
      rw [h1, h2]
      exact hk
theorem Sm.g {S : Nat → Nat → Prop} {M M' : Mm} (h : Sm S M M') {a b : Nat} (q : ¬ S a b) : gi M' a b = gi M a b := (h a b q).1
theorem Sm.l {S : Nat → Nat → Prop} {M M' : Mm} (h : Sm S M M') {a b : Nat} (q : ¬ S a b) : gl M' a b = gl M a b := (h a b q).2
/-- class's places of a flow at cell k, and what is known of water -/
def SB (k : Nat) (a b : Nat) : Prop := a = k ∨ a = 27
/-- reference's places of flow f -/
def SM (f : Nat) (a b : Nat) : Prop := (a = 327 ∧ 31 * f ≤ b ∧ b < 31 * f + 31) ∨ a = 328 ∨ (a = 312 ∧ b = 26)
def CW (C : Nat → Nat → Nat) (M : Mm) : Prop := OkC C ∧ ChB C M ∧ ChS C M
def MW (C : Nat → Nat → Nat) (M : Mm) : Prop := OkC C ∧ ChM C M
def FM (F : Nat → Nat) (M : Mm) (f : Nat) : Prop := FlM F (fun j => gi M 327 (31 * f + j))
theorem ChB.sm {C : Nat → Nat → Nat} {M M' : Mm} {S : Nat → Nat → Prop} (h : ChB C M) (s : Sm S M M') (q : ∀ a b, ((a = 20 ∧ (b = 7 ∨ b = 8)) ∨ (21 ≤ a ∧ a ≤ 26)) → ¬ S a b) : ChB C M' := by
  obtain ⟨h1, h2, h3⟩ := h
  refine ⟨(s.g (q _ _ (by omega))).trans h1, (s.g (q _ _ (by omega))).trans h2, fun i hi => ?_⟩
  rw [s.g (q 21 i (by omega)), s.g (q 22 i (by omega)), s.g (q 23 i (by omega)), s.g (q 24 i (by omega)), s.g (q 25 i (by omega)), s.g (q 26 i (by omega))]
  exact h3 i hi
theorem ChS.sm {C : Nat → Nat → Nat} {M M' : Mm} {S : Nat → Nat → Prop} (h : ChS C M) (s : Sm S M M') (q : ∀ b, ¬ S 27 b) : ChS C M' := by
  intro b hb
  rw [s.g (q b)]
  exact h b hb
theorem CW.sm {C : Nat → Nat → Nat} {M M' : Mm} {S : Nat → Nat → Prop} (h : CW C M) (s : Sm S M M') (q : ∀ a b, ((a = 20 ∧ (b = 7 ∨ b = 8)) ∨ (21 ≤ a ∧ a ≤ 27)) → ¬ S a b) : CW C M' :=
  ⟨h.1, h.2.1.sm s (fun a b w => q a b (by omega)), h.2.2.sm s (fun b => q _ _ (by omega))⟩
theorem MW.sm {C : Nat → Nat → Nat} {M M' : Mm} {S : Nat → Nat → Prop} (h : MW C M) (s : Sm S M M') (q : ∀ a b, ((a = 312 ∧ (b = 10 ∨ b = 11)) ∨ (319 ≤ a ∧ a ≤ 324)) → ¬ S a b) : MW C M' := by
  obtain ⟨h0, h1, h2, h3⟩ := h
  refine ⟨h0, (s.g (q _ _ (by omega))).trans h1, (s.g (q _ _ (by omega))).trans h2, fun i hi => ?_⟩
  rw [s.g (q 319 i (by omega)), s.g (q 320 i (by omega)), s.g (q 321 i (by omega)), s.g (q 322 i (by omega)), s.g (q 323 i (by omega)), s.g (q 324 i (by omega))]
  exact h3 i hi
theorem FlB.sm {F : Nat → Nat} {M M' : Mm} {k : Nat} {S : Nat → Nat → Prop} (h : FlB F M k) (s : Sm S M M') (q : ∀ b, ¬ S k b) : FlB F M' k := h.keep (fun j => s.g (q j)) (s.l (q 6))
theorem FM.sm {F : Nat → Nat} {M M' : Mm} {f : Nat} {S : Nat → Nat → Prop} (h : FM F M f) (s : Sm S M M') (q : ∀ b, 31 * f ≤ b → b < 31 * f + 31 → ¬ S 327 b) : FM F M' f := FlM.keep h (fun j hj => s.g (q _ (by omega) (by omega)))
/-- may arm i be stamped -/
def may (C : Nat → Nat → Nat) (F : Nat → Nat) (i : Nat) : Nat :=
  if F 30 % C 4 i = C 5 i ∧ F (25 + i) = 0 ∧ ¬ (F i = 1 ∧ F (20 + i) = 1) ∧ (nI (C 6 i) &&& (nI (mk F 0) ^^^ (-nI 1))) = nI 0 then 1 else 0
theorem may_le (C : Nat → Nat → Nat) (F : Nat → Nat) (i : Nat) : may C F i ≤ 1 := by unfold may; split <;> omega
/-! the class -/
theorem B_has {s i : Nat} (hs : s < 32) (hi : i < 8) {M : Mm} {Q : Int32 → Mm → Prop} (h : Q (nI (s / 2 ^ i % 2)) M) : wp_B_hasBit (nI s) (nI i) M Q := by
  rcases (show s / 2 ^ i % 2 = 0 ∨ s / 2 ^ i % 2 = 1 by omega) with e | e
  · rw [e] at h
    simp (disch := omega) only [fa_lit0, xI_le_T, xI_le_F, xI_lt_T, xI_lt_F, xI_eq_T, xI_eq_F, xN_a, xN_b, xN_c, xN_d, xN_e, xN_f, xN_g, xN_h, xI_add, xI_mul, xI_sub, xI_tn, xI_in, xI_ofNat, gi_si_eq, gi_n1, gi_n2, gl_sl_eq, gl_n1, gl_n2, gi_sl, gl_si, forall_eq, true_implies, false_implies, not_true_eq_false, not_false_eq_true, and_true, true_and, implies_true, and_self, wp_B_hasBit, bs_r, e]
    exact h
  · rw [e] at h
    simp (disch := omega) only [fa_lit0, xI_le_T, xI_le_F, xI_lt_T, xI_lt_F, xI_eq_T, xI_eq_F, xN_a, xN_b, xN_c, xN_d, xN_e, xN_f, xN_g, xN_h, xI_add, xI_mul, xI_sub, xI_tn, xI_in, xI_ofNat, gi_si_eq, gi_n1, gi_n2, gl_sl_eq, gl_n1, gl_n2, gi_sl, gl_si, forall_eq, true_implies, false_implies, not_true_eq_false, not_false_eq_true, and_true, true_and, implies_true, and_self, wp_B_hasBit, bs_r, e]
    exact h
theorem B_with {s i x : Nat} (hs : s < 32) (hi : i < 5) (hx : x ≤ 1) {M : Mm} {Q : Int32 → Mm → Prop} (h : Q (nI (bset s i x)) M) : wp_B_withBit (nI s) (nI i) (nI x) M Q := by
  rcases (show x = 0 ∨ x = 1 by omega) with e | e
  · subst e
    have := bset_an s hs i hi
    simp (disch := omega) only [fa_lit0, xI_le_T, xI_le_F, xI_lt_T, xI_lt_F, xI_eq_T, xI_eq_F, xN_a, xN_b, xN_c, xN_d, xN_e, xN_f, xN_g, xN_h, xI_add, xI_mul, xI_sub, xI_tn, xI_in, xI_ofNat, gi_si_eq, gi_n1, gi_n2, gl_sl_eq, gl_n1, gl_n2, gi_sl, gl_si, forall_eq, true_implies, false_implies, not_true_eq_false, not_false_eq_true, and_true, true_and, implies_true, and_self, wp_B_withBit]
    rw [this]
    exact h
  · subst e
    have := bset_or s hs i hi
    simp (disch := omega) only [fa_lit0, xI_le_T, xI_le_F, xI_lt_T, xI_lt_F, xI_eq_T, xI_eq_F, xN_a, xN_b, xN_c, xN_d, xN_e, xN_f, xN_g, xN_h, xI_add, xI_mul, xI_sub, xI_tn, xI_in, xI_ofNat, gi_si_eq, gi_n1, gi_n2, gl_sl_eq, gl_n1, gl_n2, gi_sl, gl_si, forall_eq, true_implies, false_implies, not_true_eq_false, not_false_eq_true, and_true, true_and, implies_true, and_self, wp_B_withBit]
    rw [this]
    exact h
theorem OkF.s {n : Nat} {F : Nat → Nat} (h : OkF n F) : ∀ i, i < 5 → F (5 + i) < 16 := fun i hi => by have := (h.1 i hi).2.1; omega
theorem OkF.t {n : Nat} {F : Nat → Nat} (h : OkF n F) : ∀ i, i < 5 → F (10 + i) < 16 := fun i hi => by have := (h.1 i hi).2.2.1; omega
theorem OkF.h {n : Nat} {F : Nat → Nat} (h : OkF n F) : ∀ i, i < 5 → F (15 + i) < 256 := fun i hi => by
  have h1 := (h.1 i hi).2.2.2.1
  have h2 := h.2.1
  omega
theorem B_salt {F : Nat → Nat} (hs : ∀ i, i < 5 → F (5 + i) < 16) {M : Mm} {k i : Nat} (hF : FlB F M k) (hi : i < 5) {Q : Int32 → Mm → Prop} (h : Q (nI (F (5 + i))) M) : wp_Fl_saltOf k (nI i) M Q := by
  have hb := p16_lt hs
  have e := dg_s (s := p16 F 5) (i := i) (by omega) hi
  rw [p16_dig hs hi] at e
  unfold wp_Fl_saltOf
  rw [hF.2.2.2.2.1]
  simp (disch := omega) only [fa_lit0, xI_le_T, xI_le_F, xI_lt_T, xI_lt_F, xI_eq_T, xI_eq_F, xN_a, xN_b, xN_c, xN_d, xN_e, xN_f, xN_g, xN_h, xI_add, xI_mul, xI_sub, xI_tn, xI_in, xI_ofNat, gi_si_eq, gi_n1, gi_n2, gl_sl_eq, gl_n1, gl_n2, gi_sl, gl_si, forall_eq, true_implies, false_implies, not_true_eq_false, not_false_eq_true, and_true, true_and, implies_true, and_self, e]
  exact h
theorem B_silt {F : Nat → Nat} (hs : ∀ i, i < 5 → F (10 + i) < 16) {M : Mm} {k i : Nat} (hF : FlB F M k) (hi : i < 5) {Q : Int32 → Mm → Prop} (h : Q (nI (F (10 + i))) M) : wp_Fl_siltOf k (nI i) M Q := by
  have hb := p16_lt hs
  have e := dg_s (s := p16 F 10) (i := i) (by omega) hi
  rw [p16_dig hs hi] at e
  unfold wp_Fl_siltOf
  rw [hF.2.2.2.2.2.1]
  simp (disch := omega) only [fa_lit0, xI_le_T, xI_le_F, xI_lt_T, xI_lt_F, xI_eq_T, xI_eq_F, xN_a, xN_b, xN_c, xN_d, xN_e, xN_f, xN_g, xN_h, xI_add, xI_mul, xI_sub, xI_tn, xI_in, xI_ofNat, gi_si_eq, gi_n1, gi_n2, gl_sl_eq, gl_n1, gl_n2, gi_sl, gl_si, forall_eq, true_implies, false_implies, not_true_eq_false, not_false_eq_true, and_true, true_and, implies_true, and_self, e]
  exact h
theorem B_harv {n : Nat} {F : Nat → Nat} (hO : OkF n F) {M : Mm} {k i : Nat} (hF : FlB F M k) (hi : i < 5) {Q : Int32 → Mm → Prop} (h : Q (nI (F (15 + i))) M) : wp_Fl_harvestsOf k (nI i) M Q := by
  have hb := p256_lt hO.h
  have e := dg_h (s := p256 F 15) (i := i) (by omega) hi
  rw [p256_dig hO.h hi] at e
  unfold wp_Fl_harvestsOf
  rw [hF.2.2.2.2.2.2]
  simp (disch := omega) only [fa_lit0, xI_le_T, xI_le_F, xI_lt_T, xI_lt_F, xI_eq_T, xI_eq_F, xN_a, xN_b, xN_c, xN_d, xN_e, xN_f, xN_g, xN_h, xI_add, xI_mul, xI_sub, xI_tn, xI_in, xI_ofNat, gi_si_eq, gi_n1, gi_n2, gl_sl_eq, gl_n1, gl_n2, gi_sl, gl_si, forall_eq, true_implies, false_implies, not_true_eq_false, not_false_eq_true, and_true, true_and, implies_true, and_self, e]
  exact h
theorem OkF.bb {n : Nat} {F : Nat → Nat} (h : OkF n F) {i : Nat} (hi : i < 5) : mk F 20 / 2 ^ i % 2 = F (20 + i) := mk_bit h.b hi
theorem OkF.db {n : Nat} {F : Nat → Nat} (h : OkF n F) {i : Nat} (hi : i < 5) : mk F 25 / 2 ^ i % 2 = F (25 + i) := mk_bit h.d hi
theorem B_may {C : Nat → Nat → Nat} {F : Nat → Nat} {M : Mm} {k i : Nat} (hC : OkC C) (hB : ChB C M) (hO : OkF (C 0 0) F) (hF : FlB F M k) (hi : i < C 0 0) {Q : Int32 → Mm → Prop} (h : Q (nI (may C F i)) M) : wp_Fl_mayBeStamped k 20 (nI i) M Q := by
  obtain ⟨b1, b2, b3⟩ := hB
  obtain ⟨-, -, -, k4, k5, k6⟩ := b3 i hi
  obtain ⟨f0, f1, f2, f3, -, -, -⟩ := hF
  have hn := hC.1
  obtain ⟨-, -, -, o4, o5, -, -⟩ := hC.2.2 i hi
  have hm : F 30 % C 4 i < C 4 i := Nat.mod_lt _ (by omega)
  have h30 := hO.2.1
  have lo := mk_lt hO.o
  have lb := mk_lt hO.b
  have ld := mk_lt hO.d
  have eb := or_bit (mk F 25) ld _ (and_lt _ lo _ lb) i (by omega)
  rw [and_bit _ lo _ lb i (by omega), hO.ob (by omega), hO.bb (by omega), hO.db (by omega)] at eb
  have ob := or_lt _ ld _ (and_lt _ lo _ lb)
  have q1 := hO.o i (by omega)
  rw [Nat.zero_add] at q1
  have q2 := hO.b i (by omega)
  have q3 := hO.d i (by omega)
  unfold wp_Fl_mayBeStamped
  simp (disch := omega) only [fa_lit0, xI_le_T, xI_le_F, xI_lt_T, xI_lt_F, xI_eq_T, xI_eq_F, xN_a, xN_b, xN_c, xN_d, xN_e, xN_f, xN_g, xN_h, xI_add, xI_mul, xI_sub, xI_tn, xI_in, xI_ofNat, gi_si_eq, gi_n1, gi_n2, gl_sl_eq, gl_n1, gl_n2, gi_sl, gl_si, forall_eq, true_implies, false_implies, not_true_eq_false, not_false_eq_true, and_true, true_and, implies_true, and_self, k4, k5, f0, f1, f2, f3, xI_rem, bs_and, bs_or]
  unfold may at h
  by_cases c1 : F 30 % C 4 i = C 5 i
  · simp (disch := omega) only [fa_lit0, xI_le_T, xI_le_F, xI_lt_T, xI_lt_F, xI_eq_T, xI_eq_F, xN_a, xN_b, xN_c, xN_d, xN_e, xN_f, xN_g, xN_h, xI_add, xI_mul, xI_sub, xI_tn, xI_in, xI_ofNat, gi_si_eq, gi_n1, gi_n2, gl_sl_eq, gl_n1, gl_n2, gi_sl, gl_si, forall_eq, true_implies, false_implies, not_true_eq_false, not_false_eq_true, and_true, true_and, implies_true, and_self, c1]
    refine B_has ob (by omega) ?_
    rw [eb]
    by_cases c2 : F (25 + i) = 1 ∨ F i * F (20 + i) = 1
    · rw [if_pos c2]
      rw [if_neg] at h
      · simp (disch := omega) only [fa_lit0, xI_le_T, xI_le_F, xI_lt_T, xI_lt_F, xI_eq_T, xI_eq_F, xN_a, xN_b, xN_c, xN_d, xN_e, xN_f, xN_g, xN_h, xI_add, xI_mul, xI_sub, xI_tn, xI_in, xI_ofNat, gi_si_eq, gi_n1, gi_n2, gl_sl_eq, gl_n1, gl_n2, gi_sl, gl_si, forall_eq, true_implies, false_implies, not_true_eq_false, not_false_eq_true, and_true, true_and, implies_true, and_self]
        exact h
      · rintro ⟨-, w1, w2, -⟩
        rcases c2 with w | w
        · omega
        · rcases (show F i = 0 ∨ F i = 1 by omega) with v | v
          · rw [v, Nat.zero_mul] at w; omega
          · rw [v, Nat.one_mul] at w; exact w2 ⟨v, w⟩
    · rw [if_neg c2]
      have w1 : F (25 + i) = 0 := by omega
      have w2 : ¬ (F i = 1 ∧ F (20 + i) = 1) := by
        rintro ⟨a, b⟩
        rw [a, b] at c2
        omega
      simp (disch := omega) only [fa_lit0, xI_le_T, xI_le_F, xI_lt_T, xI_lt_F, xI_eq_T, xI_eq_F, xN_a, xN_b, xN_c, xN_d, xN_e, xN_f, xN_g, xN_h, xI_add, xI_mul, xI_sub, xI_tn, xI_in, xI_ofNat, gi_si_eq, gi_n1, gi_n2, gl_sl_eq, gl_n1, gl_n2, gi_sl, gl_si, forall_eq, true_implies, false_implies, not_true_eq_false, not_false_eq_true, and_true, true_and, implies_true, and_self, k6, f1]
      by_cases c3 : (nI (C 6 i) &&& (nI (mk F 0) ^^^ (-nI 1))) = nI 0
      · rw [if_pos ⟨c1, w1, w2, c3⟩] at h
        simp (disch := omega) only [fa_lit0, xI_le_T, xI_le_F, xI_lt_T, xI_lt_F, xI_eq_T, xI_eq_F, xN_a, xN_b, xN_c, xN_d, xN_e, xN_f, xN_g, xN_h, xI_add, xI_mul, xI_sub, xI_tn, xI_in, xI_ofNat, gi_si_eq, gi_n1, gi_n2, gl_sl_eq, gl_n1, gl_n2, gi_sl, gl_si, forall_eq, true_implies, false_implies, not_true_eq_false, not_false_eq_true, and_true, true_and, implies_true, and_self, c3]
        exact h
      · rw [if_neg (fun q => c3 q.2.2.2)] at h
        simp (disch := omega) only [fa_lit0, xI_le_T, xI_le_F, xI_lt_T, xI_lt_F, xI_eq_T, xI_eq_F, xN_a, xN_b, xN_c, xN_d, xN_e, xN_f, xN_g, xN_h, xI_add, xI_mul, xI_sub, xI_tn, xI_in, xI_ofNat, gi_si_eq, gi_n1, gi_n2, gl_sl_eq, gl_n1, gl_n2, gi_sl, gl_si, forall_eq, true_implies, false_implies, not_true_eq_false, not_false_eq_true, and_true, true_and, implies_true, and_self, c3]
        exact h
  · rw [if_neg (fun q => c1 q.1)] at h
    simp (disch := omega) only [fa_lit0, xI_le_T, xI_le_F, xI_lt_T, xI_lt_F, xI_eq_T, xI_eq_F, xN_a, xN_b, xN_c, xN_d, xN_e, xN_f, xN_g, xN_h, xI_add, xI_mul, xI_sub, xI_tn, xI_in, xI_ofNat, gi_si_eq, gi_n1, gi_n2, gl_sl_eq, gl_n1, gl_n2, gi_sl, gl_si, forall_eq, true_implies, false_implies, not_true_eq_false, not_false_eq_true, and_true, true_and, implies_true, and_self]
    exact h
/-! the reference -/
theorem M_dead {F : Nat → Nat} {M : Mm} {f i : Nat} (hw : F (25 + i) ≤ 1) (hF : FM F M f) (hf : f < 6) (hi : i < 5) {Q : Int32 → Mm → Prop} (h : Q (nI (F (25 + i))) M) : wp_M_isDead (nI f) (nI i) M Q := by
  have e : gi M 327 (31 * f + 25 + i) = nI (F (25 + i)) := by rw [Nat.add_assoc]; exact hF _ (by omega)
  rcases (show F (25 + i) = 0 ∨ F (25 + i) = 1 by omega) with w | w
  · rw [w] at h e
    simp (disch := omega) only [fa_lit0, xI_le_T, xI_le_F, xI_lt_T, xI_lt_F, xI_eq_T, xI_eq_F, xN_a, xN_b, xN_c, xN_d, xN_e, xN_f, xN_g, xN_h, xI_add, xI_mul, xI_sub, xI_tn, xI_in, xI_ofNat, gi_si_eq, gi_n1, gi_n2, gl_sl_eq, gl_n1, gl_n2, gi_sl, gl_si, forall_eq, true_implies, false_implies, not_true_eq_false, not_false_eq_true, and_true, true_and, implies_true, and_self, wp_M_isDead, e]
    exact h
  · rw [w] at h e
    simp (disch := omega) only [fa_lit0, xI_le_T, xI_le_F, xI_lt_T, xI_lt_F, xI_eq_T, xI_eq_F, xN_a, xN_b, xN_c, xN_d, xN_e, xN_f, xN_g, xN_h, xI_add, xI_mul, xI_sub, xI_tn, xI_in, xI_ofNat, gi_si_eq, gi_n1, gi_n2, gl_sl_eq, gl_n1, gl_n2, gi_sl, gl_si, forall_eq, true_implies, false_implies, not_true_eq_false, not_false_eq_true, and_true, true_and, implies_true, and_self, wp_M_isDead, e]
    exact h
theorem M_barge {F : Nat → Nat} {M : Mm} {f i : Nat} (hw : F (20 + i) ≤ 1) (hF : FM F M f) (hf : f < 6) (hi : i < 5) {Q : Int32 → Mm → Prop} (h : Q (nI (F (20 + i))) M) : wp_M_isBarge (nI f) (nI i) M Q := by
  have e : gi M 327 (31 * f + 20 + i) = nI (F (20 + i)) := by rw [Nat.add_assoc]; exact hF _ (by omega)
  rcases (show F (20 + i) = 0 ∨ F (20 + i) = 1 by omega) with w | w
  · rw [w] at h e
    simp (disch := omega) only [fa_lit0, xI_le_T, xI_le_F, xI_lt_T, xI_lt_F, xI_eq_T, xI_eq_F, xN_a, xN_b, xN_c, xN_d, xN_e, xN_f, xN_g, xN_h, xI_add, xI_mul, xI_sub, xI_tn, xI_in, xI_ofNat, gi_si_eq, gi_n1, gi_n2, gl_sl_eq, gl_n1, gl_n2, gi_sl, gl_si, forall_eq, true_implies, false_implies, not_true_eq_false, not_false_eq_true, and_true, true_and, implies_true, and_self, wp_M_isBarge, e]
    exact h
  · rw [w] at h e
    simp (disch := omega) only [fa_lit0, xI_le_T, xI_le_F, xI_lt_T, xI_lt_F, xI_eq_T, xI_eq_F, xN_a, xN_b, xN_c, xN_d, xN_e, xN_f, xN_g, xN_h, xI_add, xI_mul, xI_sub, xI_tn, xI_in, xI_ofNat, gi_si_eq, gi_n1, gi_n2, gl_sl_eq, gl_n1, gl_n2, gi_sl, gl_si, forall_eq, true_implies, false_implies, not_true_eq_false, not_false_eq_true, and_true, true_and, implies_true, and_self, wp_M_isBarge, e]
    exact h
theorem M_open {F : Nat → Nat} {M : Mm} {f i : Nat} (hw : F i ≤ 1) (hF : FM F M f) (hf : f < 6) (hi : i < 5) {Q : Int32 → Mm → Prop} (h : Q (nI (F i)) M) : wp_M_isOpen (nI f) (nI i) M Q := by
  have e : gi M 327 (31 * f + i) = nI (F i) := hF _ (by omega)
  rcases (show F i = 0 ∨ F i = 1 by omega) with w | w
  · rw [w] at h e
    simp (disch := omega) only [fa_lit0, xI_le_T, xI_le_F, xI_lt_T, xI_lt_F, xI_eq_T, xI_eq_F, xN_a, xN_b, xN_c, xN_d, xN_e, xN_f, xN_g, xN_h, xI_add, xI_mul, xI_sub, xI_tn, xI_in, xI_ofNat, gi_si_eq, gi_n1, gi_n2, gl_sl_eq, gl_n1, gl_n2, gi_sl, gl_si, forall_eq, true_implies, false_implies, not_true_eq_false, not_false_eq_true, and_true, true_and, implies_true, and_self, wp_M_isOpen, e]
    exact h
  · rw [w] at h e
    simp (disch := omega) only [fa_lit0, xI_le_T, xI_le_F, xI_lt_T, xI_lt_F, xI_eq_T, xI_eq_F, xN_a, xN_b, xN_c, xN_d, xN_e, xN_f, xN_g, xN_h, xI_add, xI_mul, xI_sub, xI_tn, xI_in, xI_ofNat, gi_si_eq, gi_n1, gi_n2, gl_sl_eq, gl_n1, gl_n2, gi_sl, gl_si, forall_eq, true_implies, false_implies, not_true_eq_false, not_false_eq_true, and_true, true_and, implies_true, and_self, wp_M_isOpen, e]
    exact h
def ps (F : Nat → Nat) (b : Nat) : Nat → Nat
  | 0 => 0
  | m + 1 => ps F b m + F (b + m) * 2 ^ m
theorem ps_lt {F : Nat → Nat} {b : Nat} (h : ∀ i, i < 5 → F (b + i) ≤ 1) : ∀ m, m ≤ 5 → ps F b m < 2 ^ m := by
  intro m
  induction m with
  | zero => intro _; exact Nat.one_pos
  | succ m ih =>
    intro hm
    have h1 := ih (by omega)
    have h2 := Nat.mul_le_mul_right (2 ^ m) (h m (by omega))
    show ps F b m + F (b + m) * 2 ^ m < 2 ^ (m + 1)
    rw [Nat.pow_succ]
    omega
theorem ps_5 (F : Nat → Nat) (b : Nat) : ps F b 5 = mk F b := by
  show 0 + F (b + 0) * 2 ^ 0 + F (b + 1) * 2 ^ 1 + F (b + 2) * 2 ^ 2 + F (b + 3) * 2 ^ 3 + F (b + 4) * 2 ^ 4 = _
  unfold mk
  simp only [Nat.reducePow, Nat.add_zero]
  omega
theorem ps_n {F : Nat → Nat} {b n : Nat} (h : ∀ i, n ≤ i → i < 5 → F (b + i) = 0) (hn : n ≤ 5) : ps F b n = mk F b := by
  have : ∀ d, n + d ≤ 5 → ps F b (n + d) = ps F b n := by
    intro d
    induction d with
    | zero => intro _; rfl
    | succ d ih =>
      intro hd
      show ps F b (n + d) + F (b + (n + d)) * 2 ^ (n + d) = _
      rw [h (n + d) (by omega) (by omega), Nat.zero_mul, ih (by omega), Nat.add_zero]
  rw [← ps_5, ← this (5 - n) (by omega), show n + (5 - n) = 5 by omega]
theorem or_top : ∀ m, m < 5 → ∀ s, s < 2 ^ m → (nI s ||| nI (2 ^ m)) = nI (s + 2 ^ m) := by decide +kernel
theorem or_top0 (s : Nat) : (nI s ||| nI 0) = nI s := by rw [bs_or, Nat.or_zero]
theorem M_openSet {C : Nat → Nat → Nat} {F : Nat → Nat} {M : Mm} {f : Nat} (hW : MW C M) (hO : OkF (C 0 0) F) (hF : FM F M f) (hf : f < 6) {Q : Int32 → Mm → Prop} (h : Q (nI (mk F 0)) M) : wp_M_openSet (nI f) M Q := by
  obtain ⟨hC, m1, m2, m3⟩ := hW
  have hn := hC.1
  have key : ∀ (d m : Nat), m + d = C 0 0 → lp_M_openSet_4 (nI f) Q (d + 1) (nI (ps F 0 m)) (nI m) M := by
    intro d
    induction d with
    | zero =>
      intro m hm
      have hm : m = C 0 0 := by omega
      subst hm
      show k_M_openSet_4 (nI f) Q _ _ _ M
      unfold k_M_openSet_4
      simp (disch := omega) only [fa_lit0, xI_le_T, xI_le_F, xI_lt_T, xI_lt_F, xI_eq_T, xI_eq_F, xN_a, xN_b, xN_c, xN_d, xN_e, xN_f, xN_g, xN_h, xI_add, xI_mul, xI_sub, xI_tn, xI_in, xI_ofNat, gi_si_eq, gi_n1, gi_n2, gl_sl_eq, gl_n1, gl_n2, gi_sl, gl_si, forall_eq, true_implies, false_implies, not_true_eq_false, not_false_eq_true, and_true, true_and, implies_true, and_self, m1]
      rw [ps_n (fun i h1 h2 => by rw [Nat.zero_add]; exact (hO.2.2 i h1 h2).1) hn]
      exact h
    | succ d ih =>
      intro m hm
      show k_M_openSet_4 (nI f) Q _ _ _ M
      unfold k_M_openSet_4
      simp (disch := omega) only [fa_lit0, xI_le_T, xI_le_F, xI_lt_T, xI_lt_F, xI_eq_T, xI_eq_F, xN_a, xN_b, xN_c, xN_d, xN_e, xN_f, xN_g, xN_h, xI_add, xI_mul, xI_sub, xI_tn, xI_in, xI_ofNat, gi_si_eq, gi_n1, gi_n2, gl_sl_eq, gl_n1, gl_n2, gi_sl, gl_si, forall_eq, true_implies, false_implies, not_true_eq_false, not_false_eq_true, and_true, true_and, implies_true, and_self, m1]
      refine M_open (hO.1 m (by omega)).1 hF hf (by omega) ?_
      have e : ps F 0 (m + 1) = ps F 0 m + F m * 2 ^ m := by show ps F 0 m + F (0 + m) * 2 ^ m = _; rw [Nat.zero_add]
      have ih1 := ih (m + 1) (by omega)
      rcases (show F m = 0 ∨ F m = 1 by have := hO.o m (by omega); rw [Nat.zero_add] at this; omega) with w | w
      · rw [e, w, Nat.zero_mul, Nat.add_zero] at ih1
        simp (disch := omega) only [fa_lit0, xI_le_T, xI_le_F, xI_lt_T, xI_lt_F, xI_eq_T, xI_eq_F, xN_a, xN_b, xN_c, xN_d, xN_e, xN_f, xN_g, xN_h, xI_add, xI_mul, xI_sub, xI_tn, xI_in, xI_ofNat, gi_si_eq, gi_n1, gi_n2, gl_sl_eq, gl_n1, gl_n2, gi_sl, gl_si, forall_eq, true_implies, false_implies, not_true_eq_false, not_false_eq_true, and_true, true_and, implies_true, and_self, w, k_M_openSet_29, or_top0]
        exact ih1
      · rw [e, w, Nat.one_mul] at ih1
        simp (disch := omega) only [fa_lit0, xI_le_T, xI_le_F, xI_lt_T, xI_lt_F, xI_eq_T, xI_eq_F, xN_a, xN_b, xN_c, xN_d, xN_e, xN_f, xN_g, xN_h, xI_add, xI_mul, xI_sub, xI_tn, xI_in, xI_ofNat, gi_si_eq, gi_n1, gi_n2, gl_sl_eq, gl_n1, gl_n2, gi_sl, gl_si, forall_eq, true_implies, false_implies, not_true_eq_false, not_false_eq_true, and_true, true_and, implies_true, and_self, w, k_M_openSet_29, bs_l]
        rw [or_top m (by omega) _ (ps_lt hO.o m (by omega))]
        exact ih1
  exact ⟨_, key (C 0 0) 0 (by omega)⟩
theorem M_may {C : Nat → Nat → Nat} {F : Nat → Nat} {M : Mm} {f i : Nat} (hW : MW C M) (hO : OkF (C 0 0) F) (hF : FM F M f) (hf : f < 6) (hi : i < C 0 0) {Q : Int32 → Mm → Prop} (h : Q (nI (may C F i)) M) : wp_M_mayBe (nI f) (nI i) M Q := by
  have hW' := hW
  obtain ⟨hC, m1, m2, m3⟩ := hW'
  obtain ⟨-, -, -, k4, k5, k6⟩ := m3 i hi
  have hn := hC.1
  obtain ⟨-, -, -, o4, o5, -, -⟩ := hC.2.2 i hi
  have hm : F 30 % C 4 i < C 4 i := Nat.mod_lt _ (by omega)
  have h30 := hO.2.1
  have e30 : gi M 327 (31 * f + 30) = nI (F 30) := hF 30 (by omega)
  have q1 := hO.o i (by omega)
  rw [Nat.zero_add] at q1
  have q2 := hO.b i (by omega)
  have q3 := hO.d i (by omega)
  have tail : F 30 % C 4 i = C 5 i → F (25 + i) = 0 → ¬ (F i = 1 ∧ F (20 + i) = 1) → k_M_mayBe_55 (nI f) (nI i) Q M := by
    intro c1 w1 w2
    unfold may at h
    unfold k_M_mayBe_55
    simp (disch := omega) only [fa_lit0, xI_le_T, xI_le_F, xI_lt_T, xI_lt_F, xI_eq_T, xI_eq_F, xN_a, xN_b, xN_c, xN_d, xN_e, xN_f, xN_g, xN_h, xI_add, xI_mul, xI_sub, xI_tn, xI_in, xI_ofNat, gi_si_eq, gi_n1, gi_n2, gl_sl_eq, gl_n1, gl_n2, gi_sl, gl_si, forall_eq, true_implies, false_implies, not_true_eq_false, not_false_eq_true, and_true, true_and, implies_true, and_self]
    refine M_openSet hW hO hF hf ?_
    by_cases c3 : (nI (C 6 i) &&& (nI (mk F 0) ^^^ (-nI 1))) = nI 0
    · rw [if_pos ⟨c1, w1, w2, c3⟩] at h
      simp (disch := omega) only [fa_lit0, xI_le_T, xI_le_F, xI_lt_T, xI_lt_F, xI_eq_T, xI_eq_F, xN_a, xN_b, xN_c, xN_d, xN_e, xN_f, xN_g, xN_h, xI_add, xI_mul, xI_sub, xI_tn, xI_in, xI_ofNat, gi_si_eq, gi_n1, gi_n2, gl_sl_eq, gl_n1, gl_n2, gi_sl, gl_si, forall_eq, true_implies, false_implies, not_true_eq_false, not_false_eq_true, and_true, true_and, implies_true, and_self, k6, c3]
      exact h
    · rw [if_neg (fun q => c3 q.2.2.2)] at h
      simp (disch := omega) only [fa_lit0, xI_le_T, xI_le_F, xI_lt_T, xI_lt_F, xI_eq_T, xI_eq_F, xN_a, xN_b, xN_c, xN_d, xN_e, xN_f, xN_g, xN_h, xI_add, xI_mul, xI_sub, xI_tn, xI_in, xI_ofNat, gi_si_eq, gi_n1, gi_n2, gl_sl_eq, gl_n1, gl_n2, gi_sl, gl_si, forall_eq, true_implies, false_implies, not_true_eq_false, not_false_eq_true, and_true, true_and, implies_true, and_self, k6, c3]
      exact h
  have no : ¬ (F 30 % C 4 i = C 5 i ∧ F (25 + i) = 0 ∧ ¬ (F i = 1 ∧ F (20 + i) = 1)) → Q (nI 0) M := by
    intro q
    unfold may at h
    rw [if_neg (fun w => q ⟨w.1, w.2.1, w.2.2.1⟩)] at h
    exact h
  unfold wp_M_mayBe
  simp (disch := omega) only [fa_lit0, xI_le_T, xI_le_F, xI_lt_T, xI_lt_F, xI_eq_T, xI_eq_F, xN_a, xN_b, xN_c, xN_d, xN_e, xN_f, xN_g, xN_h, xI_add, xI_mul, xI_sub, xI_tn, xI_in, xI_ofNat, gi_si_eq, gi_n1, gi_n2, gl_sl_eq, gl_n1, gl_n2, gi_sl, gl_si, forall_eq, true_implies, false_implies, not_true_eq_false, not_false_eq_true, and_true, true_and, implies_true, and_self, k4, k5, e30, xI_rem]
  by_cases c1 : F 30 % C 4 i = C 5 i
  · simp (disch := omega) only [fa_lit0, xI_le_T, xI_le_F, xI_lt_T, xI_lt_F, xI_eq_T, xI_eq_F, xN_a, xN_b, xN_c, xN_d, xN_e, xN_f, xN_g, xN_h, xI_add, xI_mul, xI_sub, xI_tn, xI_in, xI_ofNat, gi_si_eq, gi_n1, gi_n2, gl_sl_eq, gl_n1, gl_n2, gi_sl, gl_si, forall_eq, true_implies, false_implies, not_true_eq_false, not_false_eq_true, and_true, true_and, implies_true, and_self, c1]
    refine M_dead q3 hF hf (by omega) ?_
    rcases (show F (25 + i) = 0 ∨ F (25 + i) = 1 by omega) with w | w
    · simp (disch := omega) only [fa_lit0, xI_le_T, xI_le_F, xI_lt_T, xI_lt_F, xI_eq_T, xI_eq_F, xN_a, xN_b, xN_c, xN_d, xN_e, xN_f, xN_g, xN_h, xI_add, xI_mul, xI_sub, xI_tn, xI_in, xI_ofNat, gi_si_eq, gi_n1, gi_n2, gl_sl_eq, gl_n1, gl_n2, gi_sl, gl_si, forall_eq, true_implies, false_implies, not_true_eq_false, not_false_eq_true, and_true, true_and, implies_true, and_self, w]
      refine M_open q1 hF hf (by omega) ?_
      rcases (show F i = 0 ∨ F i = 1 by omega) with v | v
      · simp (disch := omega) only [fa_lit0, xI_le_T, xI_le_F, xI_lt_T, xI_lt_F, xI_eq_T, xI_eq_F, xN_a, xN_b, xN_c, xN_d, xN_e, xN_f, xN_g, xN_h, xI_add, xI_mul, xI_sub, xI_tn, xI_in, xI_ofNat, gi_si_eq, gi_n1, gi_n2, gl_sl_eq, gl_n1, gl_n2, gi_sl, gl_si, forall_eq, true_implies, false_implies, not_true_eq_false, not_false_eq_true, and_true, true_and, implies_true, and_self, v]
        exact tail c1 w (by omega)
      · simp (disch := omega) only [fa_lit0, xI_le_T, xI_le_F, xI_lt_T, xI_lt_F, xI_eq_T, xI_eq_F, xN_a, xN_b, xN_c, xN_d, xN_e, xN_f, xN_g, xN_h, xI_add, xI_mul, xI_sub, xI_tn, xI_in, xI_ofNat, gi_si_eq, gi_n1, gi_n2, gl_sl_eq, gl_n1, gl_n2, gi_sl, gl_si, forall_eq, true_implies, false_implies, not_true_eq_false, not_false_eq_true, and_true, true_and, implies_true, and_self, v]
        refine M_barge q2 hF hf (by omega) ?_
        rcases (show F (20 + i) = 0 ∨ F (20 + i) = 1 by omega) with u | u
        · simp (disch := omega) only [fa_lit0, xI_le_T, xI_le_F, xI_lt_T, xI_lt_F, xI_eq_T, xI_eq_F, xN_a, xN_b, xN_c, xN_d, xN_e, xN_f, xN_g, xN_h, xI_add, xI_mul, xI_sub, xI_tn, xI_in, xI_ofNat, gi_si_eq, gi_n1, gi_n2, gl_sl_eq, gl_n1, gl_n2, gi_sl, gl_si, forall_eq, true_implies, false_implies, not_true_eq_false, not_false_eq_true, and_true, true_and, implies_true, and_self, u]
          exact tail c1 w (by omega)
        · simp (disch := omega) only [fa_lit0, xI_le_T, xI_le_F, xI_lt_T, xI_lt_F, xI_eq_T, xI_eq_F, xN_a, xN_b, xN_c, xN_d, xN_e, xN_f, xN_g, xN_h, xI_add, xI_mul, xI_sub, xI_tn, xI_in, xI_ofNat, gi_si_eq, gi_n1, gi_n2, gl_sl_eq, gl_n1, gl_n2, gi_sl, gl_si, forall_eq, true_implies, false_implies, not_true_eq_false, not_false_eq_true, and_true, true_and, implies_true, and_self, u]
          exact no (by omega)
    · simp (disch := omega) only [fa_lit0, xI_le_T, xI_le_F, xI_lt_T, xI_lt_F, xI_eq_T, xI_eq_F, xN_a, xN_b, xN_c, xN_d, xN_e, xN_f, xN_g, xN_h, xI_add, xI_mul, xI_sub, xI_tn, xI_in, xI_ofNat, gi_si_eq, gi_n1, gi_n2, gl_sl_eq, gl_n1, gl_n2, gi_sl, gl_si, forall_eq, true_implies, false_implies, not_true_eq_false, not_false_eq_true, and_true, true_and, implies_true, and_self, w]
      exact no (by omega)
  · simp (disch := omega) only [fa_lit0, xI_le_T, xI_le_F, xI_lt_T, xI_lt_F, xI_eq_T, xI_eq_F, xN_a, xN_b, xN_c, xN_d, xN_e, xN_f, xN_g, xN_h, xI_add, xI_mul, xI_sub, xI_tn, xI_in, xI_ofNat, gi_si_eq, gi_n1, gi_n2, gl_sl_eq, gl_n1, gl_n2, gi_sl, gl_si, forall_eq, true_implies, false_implies, not_true_eq_false, not_false_eq_true, and_true, true_and, implies_true, and_self]
    exact no (by omega)
