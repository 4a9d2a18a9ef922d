/-! deeds -/
def upL (L : Nat → Nat → Nat) (D : Nat) (F : Nat → Nat) : Nat → Nat → Nat := fun d => if d = D then F else L d
theorem upL_eq (L : Nat → Nat → Nat) (D : Nat) (F : Nat → Nat) : upL L D F D = F := if_pos rfl
theorem upL_ne {L : Nat → Nat → Nat} {D d : Nat} {F : Nat → Nat} (h : d ≠ D) : upL L D F d = L d := if_neg h
def OkS (C : Nat → Nat → Nat) (F : Nat → Nat) (D : Nat) (L : Nat → Nat → Nat) : Prop := OkF (C 0 0) F ∧ F 30 ≤ D ∧ D ≤ 60 ∧ ∀ d, d < D → OkF (C 0 0) (L d) ∧ L d 30 ≤ d
def BS (C : Nat → Nat → Nat) (F : Nat → Nat) (D : Nat) (L : Nat → Nat → Nat) (M : Mm) : Prop := CW C M ∧ FlB F M 61 ∧ gi M 60 2 = nI D ∧ ∀ d, d < D → FlB (L d) M (63 + d)
def MS (C : Nat → Nat → Nat) (F : Nat → Nat) (D : Nat) (L : Nat → Nat → Nat) (M : Mm) : Prop := MW C M ∧ FM F M 0 ∧ gi M 312 28 = nI D ∧ ∀ d, d < D → FlM (L d) (fun j => gi M 329 (31 * d + j))
def SBd (a b : Nat) : Prop := a = 27 ∨ (a = 60 ∧ b = 2) ∨ a = 61 ∨ (63 ≤ a ∧ a < 123)
def SMd (a b : Nat) : Prop := (a = 327 ∧ b < 31) ∨ a = 328 ∨ (a = 312 ∧ (b = 26 ∨ b = 28)) ∨ a = 329
def SDt (a b : Nat) : Prop := SBd a b ∨ SMd a b ∨ (a = 0 ∧ b = 13) ∨ (a = 312 ∧ b = 2)
theorem OkS.note {C : Nat → Nat → Nat} {F : Nat → Nat} {D : Nat} {L : Nat → Nat → Nat} (h : OkS C F D L) (hD : D < 60) : OkS C F (D + 1) (upL L D F) := by
  obtain ⟨h1, h2, h3, h4⟩ := h
  refine ⟨h1, by omega, by omega, fun d hd => ?_⟩
  by_cases e : d = D
  · subst e; rw [upL_eq]; exact ⟨h1, h2⟩
  · rw [upL_ne e]; exact h4 d (by omega)
theorem OkS.flow {C : Nat → Nat → Nat} {F F' : Nat → Nat} {D : Nat} {L : Nat → Nat → Nat} (h : OkS C F D L) (h1 : OkF (C 0 0) F') (h2 : F' 30 ≤ D) : OkS C F' D L := ⟨h1, h2, h.2.2.1, h.2.2.2⟩
theorem BS.sm {C : Nat → Nat → Nat} {F : Nat → Nat} {D : Nat} {L : Nat → Nat → Nat} {M M' : Mm} {S : Nat → Nat → Prop} (h : BS C F D L M) (hD : D ≤ 60) (s : Sm S M M') (q : ∀ a b, ((a = 20 ∧ (b = 7 ∨ b = 8)) ∨ (21 ≤ a ∧ a ≤ 27) ∨ (a = 60 ∧ b = 2) ∨ a = 61 ∨ (63 ≤ a ∧ a < 123)) → ¬ S a b) : BS C F D L M' := by
  obtain ⟨h1, h2, h3, h4⟩ := h
  exact ⟨h1.sm s (fun a b w => q a b (by omega)), h2.sm s (fun b => q _ _ (by omega)), (s.g (q _ _ (by omega))).trans h3, fun d hd => (h4 d hd).sm s (fun b => q _ _ (by omega))⟩
theorem MS.sm {C : Nat → Nat → Nat} {F : Nat → Nat} {D : Nat} {L : Nat → Nat → Nat} {M M' : Mm} {S : Nat → Nat → Prop} (h : MS C F D L M) (s : Sm S M M') (q : ∀ a b, ((a = 312 ∧ (b = 10 ∨ b = 11 ∨ b = 28)) ∨ (319 ≤ a ∧ a ≤ 324) ∨ (a = 327 ∧ b < 31) ∨ a = 329) → ¬ S a b) : MS C F D L M' := by
  obtain ⟨h1, h2, h3, h4⟩ := h
  exact ⟨h1.sm s (fun a b w => q a b (by omega)), h2.sm s (fun b w1 w2 => q _ _ (by omega)), (s.g (q _ _ (by omega))).trans h3, fun d hd => (h4 d hd).keep (fun j hj => s.g (q _ _ (by omega)))⟩
theorem BS.flow {C : Nat → Nat → Nat} {F F' : Nat → Nat} {D : Nat} {L : Nat → Nat → Nat} {M M' : Mm} (h : BS C F D L M) (hD : D ≤ 60) (s : Sm (SB 61) M M') (w : CW C M') (f : FlB F' M' 61) : BS C F' D L M' :=
  ⟨w, f, (s.g (by unfold SB; omega)).trans h.2.2.1, fun d hd => (h.2.2.2 d hd).sm s (fun b => by unfold SB; omega)⟩
theorem MS.flow {C : Nat → Nat → Nat} {F F' : Nat → Nat} {D : Nat} {L : Nat → Nat → Nat} {M M' : Mm} (h : MS C F D L M) (s : Sm (SM 0) M M') (w : MW C M') (f : FM F' M' 0) : MS C F' D L M' :=
  ⟨w, f, (s.g (by unfold SM; omega)).trans h.2.2.1, fun d hd => (h.2.2.2 d hd).keep (fun j hj => s.g (by unfold SM; omega))⟩
theorem SB_d {M M' : Mm} (s : Sm (SB 61) M M') : Sm SBd M M' := s.mono (fun a b w => by unfold SB at w; unfold SBd; omega)
theorem SM_d {M M' : Mm} (s : Sm (SM 0) M M') : Sm SMd M M' := s.mono (fun a b w => by unfold SM at w; unfold SMd; omega)
theorem B_note {C : Nat → Nat → Nat} {F : Nat → Nat} {D : Nat} {L : Nat → Nat → Nat} {M : Mm} (h : BS C F D L M) (hD : D < 60) {Q : Mm → Prop} (hQ : ∀ M', Sm SBd M M' → BS C F (D + 1) (upL L D F) M' → Q M') : wp_St_noteDeed 60 M Q := by
  obtain ⟨h1, h2, h3, h4⟩ := h
  simp (disch := omega) only [fa_lit0, xI_le_T, xI_le_F, xI_lt_T, xI_lt_F, xI_eq_T, xI_eq_F, xN_a, xN_b, xN_c, xN_d, xN_e, xN_f, xN_g, xN_h, xI_add, xI_mul, xI_sub, xI_tn, xI_in, xI_ofNat, gi_si_eq, gi_n1, gi_n2, gl_sl_eq, gl_n1, gl_n2, gi_sl, gl_si, forall_eq, true_implies, false_implies, not_true_eq_false, not_false_eq_true, and_true, true_and, implies_true, and_self, wp_St_noteDeed, wp_St_isFull, h3]
  refine B_copy h2 (by omega) fun M1 s1 f1 => ?_
  have e1 : gi M1 60 2 = nI D := (s1.g (by omega)).trans h3
  simp (disch := omega) only [fa_lit0, xI_le_T, xI_le_F, xI_lt_T, xI_lt_F, xI_eq_T, xI_eq_F, xN_a, xN_b, xN_c, xN_d, xN_e, xN_f, xN_g, xN_h, xI_add, xI_mul, xI_sub, xI_tn, xI_in, xI_ofNat, gi_si_eq, gi_n1, gi_n2, gl_sl_eq, gl_n1, gl_n2, gi_sl, gl_si, forall_eq, true_implies, false_implies, not_true_eq_false, not_false_eq_true, and_true, true_and, implies_true, and_self, e1]
  have s2 : Sm SBd M (si M1 60 2 (nI (D + 1))) := (s1.mono (fun a b w => by unfold SBd; omega)).wi (Or.inr (Or.inl ⟨rfl, rfl⟩))
  have s3 : Sm (fun a b => a = 63 + D ∨ (a = 60 ∧ b = 2)) M (si M1 60 2 (nI (D + 1))) := (s1.mono (fun a b w => Or.inl w)).wi (Or.inr ⟨rfl, rfl⟩)
  refine hQ _ s2 ⟨h1.sm s3 (fun a b w => by omega), h2.sm s3 (fun b => by omega), gi_si_eq _ _ _ _, fun d hd => ?_⟩
  by_cases e : d = D
  · subst e
    rw [upL_eq]
    exact f1.sm (S := fun a b => a = 60 ∧ b = 2) ((Sm.refl _ M1).wi ⟨rfl, rfl⟩) (fun b => by omega)
  · rw [upL_ne e]
    exact (h4 d (by omega)).sm s3 (fun b => by omega)
theorem M_note {C : Nat → Nat → Nat} {F : Nat → Nat} {D : Nat} {L : Nat → Nat → Nat} {M : Mm} (h : MS C F D L M) (hD : D < 60) {Q : Mm → Prop} (hQ : ∀ M', Sm SMd M M' → MS C F (D + 1) (upL L D F) M' → Q M') : wp_M_remember M Q := by
  obtain ⟨h1, h2, h3, h4⟩ := h
  have rd : ∀ j, j < 31 → gi M 327 j = nI (F j) := fun j hj => by
    have := h2 j hj
    dsimp only at this
    rwa [Nat.mul_zero, Nat.zero_add] at this
  have key : ∀ (K : Mm → Prop), (∀ M', Sm (fun a b => a = 329 ∧ 31 * D ≤ b ∧ b < 31 * D + 31) M M' → (∀ j, j < 31 → gi M' 329 (31 * D + j) = nI (F j)) → K M') → ∀ (d m : Nat), m + d = 31 → ∀ M1, Sm (fun a b => a = 329 ∧ 31 * D ≤ b ∧ b < 31 * D + 31) M M1 → (∀ j, j < m → gi M1 329 (31 * D + j) = nI (F j)) → lp_M_remember_2 Q K (d + 1) (nI m) M1 := by
    intro K hK d
    induction d with
    | zero =>
      intro m hm M1 s1 e1
      have hm : m = 31 := by omega
      subst hm
      show k_M_remember_2 Q _ K _ M1
      unfold k_M_remember_2
      simp (disch := omega) only [fa_lit0, xI_le_T, xI_le_F, xI_lt_T, xI_lt_F, xI_eq_T, xI_eq_F, xN_a, xN_b, xN_c, xN_d, xN_e, xN_f, xN_g, xN_h, xI_add, xI_mul, xI_sub, xI_tn, xI_in, xI_ofNat, gi_si_eq, gi_n1, gi_n2, gl_sl_eq, gl_n1, gl_n2, gi_sl, gl_si, forall_eq, true_implies, false_implies, not_true_eq_false, not_false_eq_true, and_true, true_and, implies_true, and_self]
      exact hK M1 s1 e1
    | succ d ih =>
      intro m hm M1 s1 e1
      have e : gi M1 327 m = nI (F m) := (s1.g (by omega)).trans (rd m (by omega))
      have e28 : gi M1 312 28 = nI D := (s1.g (by omega)).trans h3
      show k_M_remember_2 Q _ K _ M1
      unfold k_M_remember_2
      simp (disch := omega) only [fa_lit0, xI_le_T, xI_le_F, xI_lt_T, xI_lt_F, xI_eq_T, xI_eq_F, xN_a, xN_b, xN_c, xN_d, xN_e, xN_f, xN_g, xN_h, xI_add, xI_mul, xI_sub, xI_tn, xI_in, xI_ofNat, gi_si_eq, gi_n1, gi_n2, gl_sl_eq, gl_n1, gl_n2, gi_sl, gl_si, forall_eq, true_implies, false_implies, not_true_eq_false, not_false_eq_true, and_true, true_and, implies_true, and_self, e, e28]
      refine ih (m + 1) (by omega) _ (s1.wi ⟨rfl, by omega, by omega⟩) fun j hj => ?_
      by_cases w : j = m
      · subst w; exact gi_si_eq _ _ _ _
      · rw [gi_n2 (by omega)]; exact e1 j (by omega)
  unfold wp_M_remember
  refine ⟨_, key _ ?_ 31 0 (by omega) M (Sm.refl _ M) (fun j hj => absurd hj (by omega))⟩
  intro M1 s1 e1
  have e28 : gi M1 312 28 = nI D := (s1.g (by omega)).trans h3
  simp (disch := omega) only [fa_lit0, xI_le_T, xI_le_F, xI_lt_T, xI_lt_F, xI_eq_T, xI_eq_F, xN_a, xN_b, xN_c, xN_d, xN_e, xN_f, xN_g, xN_h, xI_add, xI_mul, xI_sub, xI_tn, xI_in, xI_ofNat, gi_si_eq, gi_n1, gi_n2, gl_sl_eq, gl_n1, gl_n2, gi_sl, gl_si, forall_eq, true_implies, false_implies, not_true_eq_false, not_false_eq_true, and_true, true_and, implies_true, and_self, e28]
  have s2 : Sm SMd M (si M1 312 28 (nI (D + 1))) := (s1.mono (fun a b w => by unfold SMd; omega)).wi (by unfold SMd; omega)
  have s3 : Sm (fun a b => (a = 329 ∧ 31 * D ≤ b ∧ b < 31 * D + 31) ∨ (a = 312 ∧ b = 28)) M (si M1 312 28 (nI (D + 1))) := (s1.mono (fun a b w => Or.inl w)).wi (Or.inr ⟨rfl, rfl⟩)
  refine hQ _ s2 ⟨h1.sm s3 (fun a b w => by omega), h2.sm s3 (fun b w1 w2 => by omega), gi_si_eq _ _ _ _, fun d hd => ?_⟩
  by_cases e : d = D
  · subst e
    rw [upL_eq]
    intro j hj
    dsimp only
    rw [gi_n1 (by omega)]
    exact e1 j hj
  · rw [upL_ne e]
    exact (h4 d (by omega)).keep (fun j hj => s3.g (by omega))
theorem Sta.bs {C : Nat → Nat → Nat} {F : Nat → Nat} {D : Nat} {L T N V : Nat → Nat → Nat} {KL : Nat → Nat → Nat → Nat} {M : Mm} (h : Sta C F D L T N V KL M) (hp : 0 < C 0 0) : OkS C F D L ∧ BS C F D L M ∧ MS C F D L M := by
  obtain ⟨hC, hB, hW, hO, hF, hG, hc⟩ := h.parts
  obtain ⟨-, -, h3, ⟨l1, l2, l3, l4⟩, -, -⟩ := h
  exact ⟨⟨hO, h3, l1, fun d hd => ⟨(l4 d hd).1, (l4 d hd).2.1⟩⟩, ⟨hc hp, hF, l2, fun d hd => (l4 d hd).2.2.1⟩, hW, hG, l3, fun d hd => (l4 d hd).2.2.2⟩
theorem deed_fin {C : Nat → Nat → Nat} {F F' : Nat → Nat} {D D' : Nat} {L L' T N V : Nat → Nat → Nat} {KL : Nat → Nat → Nat → Nat} {M M' : Mm} (h : Rel RDel M) (hd : Sta C F D L T N V KL M) (s : Sm SDt M M') (ok : OkS C F' D' L') (b : BS C F' D' L' M') (m : MS C F' D' L' M') (ht : Rtld M') : Rel RDel M' := by
  obtain ⟨h1, h2, h3, h4, h5, h6, h7⟩ := h
  obtain ⟨d1, d2, d3, d4, d5, d6⟩ := hd
  refine ⟨h1.sm s (fun a b w => by unfold SDt SBd SMd; omega), h2.keep (fun k j w => s.g (by unfold SDt SBd SMd; omega)), h3.keep (fun k w => s.g (by unfold SDt SBd SMd; omega)) (s.l (by unfold SDt SBd SMd; omega)), h4.keep (fun k j w => s.g (by unfold SDt SBd SMd; omega)), ht, h6.sm s (fun a b w => by unfold SDt SBd SMd; omega), C, F', D', L', T, N, V, KL, ⟨d1.1, b.1.2.1, m.1.2, fun _ => b.1.2.2⟩, ⟨ok.1, b.2.1, fun j hj => ?_⟩, ok.2.1, ⟨ok.2.2.1, b.2.2.1, m.2.2.1, fun d hd => ⟨(ok.2.2.2 d hd).1, (ok.2.2.2 d hd).2, b.2.2.2 d hd, m.2.2.2 d hd⟩⟩, d5.keep (fun k j w => s.g (by unfold SDt SBd SMd; omega)) (fun k j w1 w2 => s.l (by unfold SDt SBd SMd; omega)), d6⟩
  have := m.2.1 j hj
  dsimp only at this
  rwa [Nat.mul_zero, Nat.zero_add] at this
theorem tld2 {M : Mm} {x : Int32} (h : gi M 0 13 = x) : Rtld (si M 312 2 x) := by
  show gi (si M 312 2 x) 0 13 = gi (si M 312 2 x) 312 2
  simp (disch := omega) only [fa_lit0, xI_le_T, xI_le_F, xI_lt_T, xI_lt_F, xI_eq_T, xI_eq_F, xN_a, xN_b, xN_c, xN_d, xN_e, xN_f, xN_g, xN_h, xI_add, xI_mul, xI_sub, xI_tn, xI_in, xI_ofNat, gi_si_eq, gi_n1, gi_n2, gl_sl_eq, gl_n1, gl_n2, gi_sl, gl_si, forall_eq, true_implies, false_implies, not_true_eq_false, not_false_eq_true, and_true, true_and, implies_true, and_self, h]
theorem BS_sMd {C : Nat → Nat → Nat} {F : Nat → Nat} {D : Nat} {L : Nat → Nat → Nat} {M M' : Mm} (h : BS C F D L M) (hD : D ≤ 60) (s : Sm SMd M M') : BS C F D L M' := h.sm hD s (fun a b w => by unfold SMd; omega)
theorem MS_sBd {C : Nat → Nat → Nat} {F : Nat → Nat} {D : Nat} {L : Nat → Nat → Nat} {M M' : Mm} (h : MS C F D L M) (s : Sm SBd M M') : MS C F D L M' := h.sm s (fun a b w => by unfold SBd; omega)
theorem op_stamp {a1 : Int32} {M : Mm} (h : Rel RDel M) : wp_B_stamp a1 M (fun r M1 => wp_M_stamp a1 M1 (fun r2 M2 => r = r2 ∧ Rel RDel M2)) := by
  obtain ⟨C, F, D, L, T, N, V, KL, hd⟩ := h.2.2.2.2.2.2.out
  obtain ⟨hC, hB, hW, hO, hF, hG, -⟩ := hd.parts
  have hn := hC.1
  unfold wp_B_stamp
  rcases arm_cases a1 hC.1 with g | ⟨i, hi, rfl⟩
  · refine B_noArm hC.1 hB.1 g ?_
    simp (disch := omega) only [fa_lit0, xI_le_T, xI_le_F, xI_lt_T, xI_lt_F, xI_eq_T, xI_eq_F, xN_a, xN_b, xN_c, xN_d, xN_e, xN_f, xN_g, xN_h, xI_add, xI_mul, xI_sub, xI_tn, xI_in, xI_ofNat, gi_si_eq, gi_n1, gi_n2, gl_sl_eq, gl_n1, gl_n2, gi_sl, gl_si, forall_eq, true_implies, false_implies, not_true_eq_false, not_false_eq_true, and_true, true_and, implies_true, and_self, wp_M_stamp]
    refine M_noArm hC.1 hW.2.1 g ?_
    simp (disch := omega) only [fa_lit0, xI_le_T, xI_le_F, xI_lt_T, xI_lt_F, xI_eq_T, xI_eq_F, xN_a, xN_b, xN_c, xN_d, xN_e, xN_f, xN_g, xN_h, xI_add, xI_mul, xI_sub, xI_tn, xI_in, xI_ofNat, gi_si_eq, gi_n1, gi_n2, gl_sl_eq, gl_n1, gl_n2, gi_sl, gl_si, forall_eq, true_implies, false_implies, not_true_eq_false, not_false_eq_true, and_true, true_and, implies_true, and_self]
    exact h
  · obtain ⟨ok, bs, ms⟩ := hd.bs (by omega)
    have hD := ok.2.2.1
    refine B_anArm hC.1 hB.1 hi ?_
    simp (disch := omega) only [fa_lit0, xI_le_T, xI_le_F, xI_lt_T, xI_lt_F, xI_eq_T, xI_eq_F, xN_a, xN_b, xN_c, xN_d, xN_e, xN_f, xN_g, xN_h, xI_add, xI_mul, xI_sub, xI_tn, xI_in, xI_ofNat, gi_si_eq, gi_n1, gi_n2, gl_sl_eq, gl_n1, gl_n2, gi_sl, gl_si, forall_eq, true_implies, false_implies, not_true_eq_false, not_false_eq_true, and_true, true_and, implies_true, and_self]
    refine B_may hC hB hO hF hi ?_
    rcases (show may C F i = 0 ∨ may C F i = 1 by have := may_le C F i; omega) with v | v
    · simp (disch := omega) only [fa_lit0, xI_le_T, xI_le_F, xI_lt_T, xI_lt_F, xI_eq_T, xI_eq_F, xN_a, xN_b, xN_c, xN_d, xN_e, xN_f, xN_g, xN_h, xI_add, xI_mul, xI_sub, xI_tn, xI_in, xI_ofNat, gi_si_eq, gi_n1, gi_n2, gl_sl_eq, gl_n1, gl_n2, gi_sl, gl_si, forall_eq, true_implies, false_implies, not_true_eq_false, not_false_eq_true, and_true, true_and, implies_true, and_self, v, wp_M_stamp]
      refine M_anArm hC.1 hW.2.1 hi ?_
      simp (disch := omega) only [fa_lit0, xI_le_T, xI_le_F, xI_lt_T, xI_lt_F, xI_eq_T, xI_eq_F, xN_a, xN_b, xN_c, xN_d, xN_e, xN_f, xN_g, xN_h, xI_add, xI_mul, xI_sub, xI_tn, xI_in, xI_ofNat, gi_si_eq, gi_n1, gi_n2, gl_sl_eq, gl_n1, gl_n2, gi_sl, gl_si, forall_eq, true_implies, false_implies, not_true_eq_false, not_false_eq_true, and_true, true_and, implies_true, and_self]
      refine M_may hW hO hG (by omega) hi ?_
      simp (disch := omega) only [fa_lit0, xI_le_T, xI_le_F, xI_lt_T, xI_lt_F, xI_eq_T, xI_eq_F, xN_a, xN_b, xN_c, xN_d, xN_e, xN_f, xN_g, xN_h, xI_add, xI_mul, xI_sub, xI_tn, xI_in, xI_ofNat, gi_si_eq, gi_n1, gi_n2, gl_sl_eq, gl_n1, gl_n2, gi_sl, gl_si, forall_eq, true_implies, false_implies, not_true_eq_false, not_false_eq_true, and_true, true_and, implies_true, and_self, v]
      exact h
    · by_cases c : D = 60
      · simp (disch := omega) only [fa_lit0, xI_le_T, xI_le_F, xI_lt_T, xI_lt_F, xI_eq_T, xI_eq_F, xN_a, xN_b, xN_c, xN_d, xN_e, xN_f, xN_g, xN_h, xI_add, xI_mul, xI_sub, xI_tn, xI_in, xI_ofNat, gi_si_eq, gi_n1, gi_n2, gl_sl_eq, gl_n1, gl_n2, gi_sl, gl_si, forall_eq, true_implies, false_implies, not_true_eq_false, not_false_eq_true, and_true, true_and, implies_true, and_self, v, wp_St_isFull, bs.2.2.1, c, wp_M_stamp]
        refine M_anArm hC.1 hW.2.1 hi ?_
        simp (disch := omega) only [fa_lit0, xI_le_T, xI_le_F, xI_lt_T, xI_lt_F, xI_eq_T, xI_eq_F, xN_a, xN_b, xN_c, xN_d, xN_e, xN_f, xN_g, xN_h, xI_add, xI_mul, xI_sub, xI_tn, xI_in, xI_ofNat, gi_si_eq, gi_n1, gi_n2, gl_sl_eq, gl_n1, gl_n2, gi_sl, gl_si, forall_eq, true_implies, false_implies, not_true_eq_false, not_false_eq_true, and_true, true_and, implies_true, and_self]
        refine M_may hW hO hG (by omega) hi ?_
        simp (disch := omega) only [fa_lit0, xI_le_T, xI_le_F, xI_lt_T, xI_lt_F, xI_eq_T, xI_eq_F, xN_a, xN_b, xN_c, xN_d, xN_e, xN_f, xN_g, xN_h, xI_add, xI_mul, xI_sub, xI_tn, xI_in, xI_ofNat, gi_si_eq, gi_n1, gi_n2, gl_sl_eq, gl_n1, gl_n2, gi_sl, gl_si, forall_eq, true_implies, false_implies, not_true_eq_false, not_false_eq_true, and_true, true_and, implies_true, and_self, v, ms.2.2.1, c]
        exact h
      · simp (disch := omega) only [fa_lit0, xI_le_T, xI_le_F, xI_lt_T, xI_lt_F, xI_eq_T, xI_eq_F, xN_a, xN_b, xN_c, xN_d, xN_e, xN_f, xN_g, xN_h, xI_add, xI_mul, xI_sub, xI_tn, xI_in, xI_ofNat, gi_si_eq, gi_n1, gi_n2, gl_sl_eq, gl_n1, gl_n2, gi_sl, gl_si, forall_eq, true_implies, false_implies, not_true_eq_false, not_false_eq_true, and_true, true_and, implies_true, and_self, v, wp_St_isFull, bs.2.2.1, wp_B_doStamp]
        refine B_note bs (by omega) fun M1 s1 b1 => ?_
        refine B_stampArm b1.1 hO b1.2.1 (by omega) hi fun M2 s2 w2 f2 => ?_
        have b2 := b1.flow (by omega) s2 w2 f2
        have ok2 := (ok.note (by omega)).flow (hO.st hC hi) (by rw [stp_30 (by omega)]; have := ok.2.1; omega)
        have s12 := s1.trans (SB_d s2)
        have m2 := MS_sBd ms s12
        rw [f2.2.1]
        unfold wp_M_stamp
        refine M_anArm hC.1 m2.1.2.1 hi ?_
        simp (disch := omega) only [fa_lit0, xI_le_T, xI_le_F, xI_lt_T, xI_lt_F, xI_eq_T, xI_eq_F, xN_a, xN_b, xN_c, xN_d, xN_e, xN_f, xN_g, xN_h, xI_add, xI_mul, xI_sub, xI_tn, xI_in, xI_ofNat, gi_si_eq, gi_n1, gi_n2, gl_sl_eq, gl_n1, gl_n2, gi_sl, gl_si, forall_eq, true_implies, false_implies, not_true_eq_false, not_false_eq_true, and_true, true_and, implies_true, and_self]
        refine M_may m2.1 hO m2.2.1 (by omega) hi ?_
        simp (disch := omega) only [fa_lit0, xI_le_T, xI_le_F, xI_lt_T, xI_lt_F, xI_eq_T, xI_eq_F, xN_a, xN_b, xN_c, xN_d, xN_e, xN_f, xN_g, xN_h, xI_add, xI_mul, xI_sub, xI_tn, xI_in, xI_ofNat, gi_si_eq, gi_n1, gi_n2, gl_sl_eq, gl_n1, gl_n2, gi_sl, gl_si, forall_eq, true_implies, false_implies, not_true_eq_false, not_false_eq_true, and_true, true_and, implies_true, and_self, v, m2.2.2.1]
        refine M_note m2 (by omega) fun M3 s3 m3 => ?_
        refine M_stamps m3.1 hO m3.2.1 (by omega) hi fun M4 s4 w4 f4 => ?_
        have m4 := m3.flow s4 w4 f4
        have s34 := s3.trans (SM_d s4)
        refine M_openSet w4 (hO.st hC hi) f4 (by omega) ⟨rfl, ?_⟩
        have st : Sm SDt M M4 := (s12.mono (fun a b w => Or.inl w)).trans (s34.mono (fun a b w => Or.inr (Or.inl w)))
        refine deed_fin h hd st ok2 (BS_sMd b2 (by omega) s34) m4 ?_
        exact h.2.2.2.2.1.sm (S := fun a b => SBd a b ∨ SMd a b) ((s12.mono (fun a b w => Or.inl w)).trans (s34.mono (fun a b w => Or.inr w))) (by unfold SBd SMd; omega) (by unfold SBd SMd; omega)
theorem op_season {M : Mm} (h : Rel RDel M) : wp_B_season M (fun r M1 => wp_M_season M1 (fun r2 M2 => r = r2 ∧ Rel RDel M2)) := by
  obtain ⟨C, F, D, L, T, N, V, KL, hd⟩ := h.2.2.2.2.2.2.out
  obtain ⟨hC, hB, hW, hO, hF, hG, -⟩ := hd.parts
  have hn := hC.1
  have b1 := hB.1
  have m1 := hW.2.1
  unfold wp_B_season
  by_cases c : C 0 0 = 0
  · simp (disch := omega) only [fa_lit0, xI_le_T, xI_le_F, xI_lt_T, xI_lt_F, xI_eq_T, xI_eq_F, xN_a, xN_b, xN_c, xN_d, xN_e, xN_f, xN_g, xN_h, xI_add, xI_mul, xI_sub, xI_tn, xI_in, xI_ofNat, gi_si_eq, gi_n1, gi_n2, gl_sl_eq, gl_n1, gl_n2, gi_sl, gl_si, forall_eq, true_implies, false_implies, not_true_eq_false, not_false_eq_true, and_true, true_and, implies_true, and_self, b1, m1, c, wp_M_season]
    exact h
  · obtain ⟨ok, bs, ms⟩ := hd.bs (by omega)
    have hD := ok.2.2.1
    by_cases c2 : D = 60
    · simp (disch := omega) only [fa_lit0, xI_le_T, xI_le_F, xI_lt_T, xI_lt_F, xI_eq_T, xI_eq_F, xN_a, xN_b, xN_c, xN_d, xN_e, xN_f, xN_g, xN_h, xI_add, xI_mul, xI_sub, xI_tn, xI_in, xI_ofNat, gi_si_eq, gi_n1, gi_n2, gl_sl_eq, gl_n1, gl_n2, gi_sl, gl_si, forall_eq, true_implies, false_implies, not_true_eq_false, not_false_eq_true, and_true, true_and, implies_true, and_self, b1, wp_St_isFull, bs.2.2.1, c2, wp_M_season, m1, ms.2.2.1]
      exact h
    · simp (disch := omega) only [fa_lit0, xI_le_T, xI_le_F, xI_lt_T, xI_lt_F, xI_eq_T, xI_eq_F, xN_a, xN_b, xN_c, xN_d, xN_e, xN_f, xN_g, xN_h, xI_add, xI_mul, xI_sub, xI_tn, xI_in, xI_ofNat, gi_si_eq, gi_n1, gi_n2, gl_sl_eq, gl_n1, gl_n2, gi_sl, gl_si, forall_eq, true_implies, false_implies, not_true_eq_false, not_false_eq_true, and_true, true_and, implies_true, and_self, b1, wp_St_isFull, bs.2.2.1, wp_B_doSeason]
      refine B_note bs (by omega) fun M1 s1 b1 => ?_
      refine B_goBy b1.1 hO b1.2.1 (by omega) fun M2 s2 w2 f2 => ?_
      have b2 := b1.flow (by omega) s2 w2 f2
      have h30 := ok.2.1
      have ok2 := (ok.note (by omega)).flow (hO.go hC (by omega)) (by rw [gob_30]; omega)
      have s12 := s1.trans (SB_d s2)
      have lh := hv_lt hC F
      refine J_bits_ok lh ?_
      have s0 : Sm (fun a b => a = 0 ∧ b = 13) M2 (si M2 0 13 (nI (hv C F))) := (Sm.refl _ M2).wi ⟨rfl, rfl⟩
      have m2 := (MS_sBd ms s12).sm s0 (fun a b w => by omega)
      have b2' := b2.sm (by omega) s0 (fun a b w => by omega)
      unfold wp_M_season
      simp (disch := omega) only [fa_lit0, xI_le_T, xI_le_F, xI_lt_T, xI_lt_F, xI_eq_T, xI_eq_F, xN_a, xN_b, xN_c, xN_d, xN_e, xN_f, xN_g, xN_h, xI_add, xI_mul, xI_sub, xI_tn, xI_in, xI_ofNat, gi_si_eq, gi_n1, gi_n2, gl_sl_eq, gl_n1, gl_n2, gi_sl, gl_si, forall_eq, true_implies, false_implies, not_true_eq_false, not_false_eq_true, and_true, true_and, implies_true, and_self, m2.1.2.1, m2.2.2.1]
      refine M_note m2 (by omega) fun M3 s3 m3 => ?_
      refine M_passes m3.1 hO m3.2.1 (by omega) fun M4 s4 w4 f4 i4 => ?_
      have m4 := m3.flow s4 w4 f4
      have s34 := s3.trans (SM_d s4)
      simp (disch := omega) only [fa_lit0, xI_le_T, xI_le_F, xI_lt_T, xI_lt_F, xI_eq_T, xI_eq_F, xN_a, xN_b, xN_c, xN_d, xN_e, xN_f, xN_g, xN_h, xI_add, xI_mul, xI_sub, xI_tn, xI_in, xI_ofNat, gi_si_eq, gi_n1, gi_n2, gl_sl_eq, gl_n1, gl_n2, gi_sl, gl_si, forall_eq, true_implies, false_implies, not_true_eq_false, not_false_eq_true, and_true, true_and, implies_true, and_self, wp_M_tells, i4]
      have st : Sm SDt M M4 := ((s12.mono (fun a b w => Or.inl w)).trans (s0.mono (fun a b w => Or.inr (Or.inr (Or.inl w))))).trans (s34.mono (fun a b w => Or.inr (Or.inl w)))
      have s5 : Sm (fun a b => a = 312 ∧ b = 2) M4 (si M4 312 2 (nI (hv C F))) := (Sm.refl _ M4).wi ⟨rfl, rfl⟩
      refine deed_fin h hd (st.wi (Or.inr (Or.inr (Or.inr ⟨rfl, rfl⟩)))) ok2 ((BS_sMd b2' (by omega) s34).sm (by omega) s5 (fun a b w => by omega)) (m4.sm s5 (fun a b w => by omega)) (tld2 ?_)
      rw [s34.g (by unfold SMd; omega)]
      exact gi_si_eq _ _ _ _
theorem OkF.dr {n : Nat} {F : Nat → Nat} (h : OkF n F) {i : Nat} (hi : i < n) (hn : n ≤ 5) : OkF n (up (up F (20 + i) 0) i 0) := by
  have h1 : OkF n (up F (20 + i) 0) := by
    refine ⟨fun j hj => ?_, ?_, fun j q1 q2 => ?_⟩
    · have := h.1 j hj
      rw [up_ne (q := 5 + j) (by omega), up_ne (q := 10 + j) (by omega), up_ne (q := 15 + j) (by omega), up_ne (q := j) (by omega), up_ne (q := 25 + j) (by omega), up_ne (q := 30) (by omega)]
      refine ⟨this.1, this.2.1, this.2.2.1, this.2.2.2.1, ?_, this.2.2.2.2.2⟩
      unfold up
      split <;> omega
    · rw [up_ne (by omega)]; exact h.2.1
    · have := h.2.2 j q1 q2
      rw [up_ne (q := 5 + j) (by omega), up_ne (q := 10 + j) (by omega), up_ne (q := 15 + j) (by omega), up_ne (q := 20 + j) (by omega), up_ne (q := 25 + j) (by omega), up_ne (q := j) (by omega)]
      exact this
  exact h1.upo hi hn (by omega)
theorem dr_30 {F : Nat → Nat} {i : Nat} (hi : i < 5) : up (up F (20 + i) 0) i 0 30 = F 30 := by rw [up_ne (by omega), up_ne (by omega)]
theorem op_leave {a1 : Int32} {M : Mm} (h : Rel RDel M) : wp_B_leave a1 M (fun r M1 => wp_M_leave a1 M1 (fun r2 M2 => r = r2 ∧ Rel RDel M2)) := by
  obtain ⟨C, F, D, L, T, N, V, KL, hd⟩ := h.2.2.2.2.2.2.out
  obtain ⟨hC, hB, hW, hO, hF, hG, -⟩ := hd.parts
  have hn := hC.1
  unfold wp_B_leave
  rcases arm_cases a1 hC.1 with g | ⟨i, hi, rfl⟩
  · refine B_noArm hC.1 hB.1 g ?_
    simp (disch := omega) only [fa_lit0, xI_le_T, xI_le_F, xI_lt_T, xI_lt_F, xI_eq_T, xI_eq_F, xN_a, xN_b, xN_c, xN_d, xN_e, xN_f, xN_g, xN_h, xI_add, xI_mul, xI_sub, xI_tn, xI_in, xI_ofNat, gi_si_eq, gi_n1, gi_n2, gl_sl_eq, gl_n1, gl_n2, gi_sl, gl_si, forall_eq, true_implies, false_implies, not_true_eq_false, not_false_eq_true, and_true, true_and, implies_true, and_self, wp_M_leave]
    refine M_noArm hC.1 hW.2.1 g ?_
    simp (disch := omega) only [fa_lit0, xI_le_T, xI_le_F, xI_lt_T, xI_lt_F, xI_eq_T, xI_eq_F, xN_a, xN_b, xN_c, xN_d, xN_e, xN_f, xN_g, xN_h, xI_add, xI_mul, xI_sub, xI_tn, xI_in, xI_ofNat, gi_si_eq, gi_n1, gi_n2, gl_sl_eq, gl_n1, gl_n2, gi_sl, gl_si, forall_eq, true_implies, false_implies, not_true_eq_false, not_false_eq_true, and_true, true_and, implies_true, and_self]
    exact h
  · obtain ⟨ok, bs, ms⟩ := hd.bs (by omega)
    have hD := ok.2.2.1
    have lb := mk_lt hO.b
    refine B_anArm hC.1 hB.1 hi ?_
    simp (disch := omega) only [fa_lit0, xI_le_T, xI_le_F, xI_lt_T, xI_lt_F, xI_eq_T, xI_eq_F, xN_a, xN_b, xN_c, xN_d, xN_e, xN_f, xN_g, xN_h, xI_add, xI_mul, xI_sub, xI_tn, xI_in, xI_ofNat, gi_si_eq, gi_n1, gi_n2, gl_sl_eq, gl_n1, gl_n2, gi_sl, gl_si, forall_eq, true_implies, false_implies, not_true_eq_false, not_false_eq_true, and_true, true_and, implies_true, and_self, hF.2.2.1]
    refine B_has lb (by omega) ?_
    rw [hO.bb (by omega)]
    have q2 := hO.b i (by omega)
    rcases (show F (20 + i) = 0 ∨ F (20 + i) = 1 by omega) with v | v
    · simp (disch := omega) only [fa_lit0, xI_le_T, xI_le_F, xI_lt_T, xI_lt_F, xI_eq_T, xI_eq_F, xN_a, xN_b, xN_c, xN_d, xN_e, xN_f, xN_g, xN_h, xI_add, xI_mul, xI_sub, xI_tn, xI_in, xI_ofNat, gi_si_eq, gi_n1, gi_n2, gl_sl_eq, gl_n1, gl_n2, gi_sl, gl_si, forall_eq, true_implies, false_implies, not_true_eq_false, not_false_eq_true, and_true, true_and, implies_true, and_self, v, wp_M_leave]
      refine M_anArm hC.1 hW.2.1 hi ?_
      simp (disch := omega) only [fa_lit0, xI_le_T, xI_le_F, xI_lt_T, xI_lt_F, xI_eq_T, xI_eq_F, xN_a, xN_b, xN_c, xN_d, xN_e, xN_f, xN_g, xN_h, xI_add, xI_mul, xI_sub, xI_tn, xI_in, xI_ofNat, gi_si_eq, gi_n1, gi_n2, gl_sl_eq, gl_n1, gl_n2, gi_sl, gl_si, forall_eq, true_implies, false_implies, not_true_eq_false, not_false_eq_true, and_true, true_and, implies_true, and_self]
      refine M_barge q2 hG (by omega) (by omega) ?_
      simp (disch := omega) only [fa_lit0, xI_le_T, xI_le_F, xI_lt_T, xI_lt_F, xI_eq_T, xI_eq_F, xN_a, xN_b, xN_c, xN_d, xN_e, xN_f, xN_g, xN_h, xI_add, xI_mul, xI_sub, xI_tn, xI_in, xI_ofNat, gi_si_eq, gi_n1, gi_n2, gl_sl_eq, gl_n1, gl_n2, gi_sl, gl_si, forall_eq, true_implies, false_implies, not_true_eq_false, not_false_eq_true, and_true, true_and, implies_true, and_self, v]
      exact h
    · by_cases c : D = 60
      · simp (disch := omega) only [fa_lit0, xI_le_T, xI_le_F, xI_lt_T, xI_lt_F, xI_eq_T, xI_eq_F, xN_a, xN_b, xN_c, xN_d, xN_e, xN_f, xN_g, xN_h, xI_add, xI_mul, xI_sub, xI_tn, xI_in, xI_ofNat, gi_si_eq, gi_n1, gi_n2, gl_sl_eq, gl_n1, gl_n2, gi_sl, gl_si, forall_eq, true_implies, false_implies, not_true_eq_false, not_false_eq_true, and_true, true_and, implies_true, and_self, v, wp_St_isFull, bs.2.2.1, c, wp_M_leave]
        refine M_anArm hC.1 hW.2.1 hi ?_
        simp (disch := omega) only [fa_lit0, xI_le_T, xI_le_F, xI_lt_T, xI_lt_F, xI_eq_T, xI_eq_F, xN_a, xN_b, xN_c, xN_d, xN_e, xN_f, xN_g, xN_h, xI_add, xI_mul, xI_sub, xI_tn, xI_in, xI_ofNat, gi_si_eq, gi_n1, gi_n2, gl_sl_eq, gl_n1, gl_n2, gi_sl, gl_si, forall_eq, true_implies, false_implies, not_true_eq_false, not_false_eq_true, and_true, true_and, implies_true, and_self]
        refine M_barge q2 hG (by omega) (by omega) ?_
        simp (disch := omega) only [fa_lit0, xI_le_T, xI_le_F, xI_lt_T, xI_lt_F, xI_eq_T, xI_eq_F, xN_a, xN_b, xN_c, xN_d, xN_e, xN_f, xN_g, xN_h, xI_add, xI_mul, xI_sub, xI_tn, xI_in, xI_ofNat, gi_si_eq, gi_n1, gi_n2, gl_sl_eq, gl_n1, gl_n2, gi_sl, gl_si, forall_eq, true_implies, false_implies, not_true_eq_false, not_false_eq_true, and_true, true_and, implies_true, and_self, v, ms.2.2.1, c]
        exact h
      · simp (disch := omega) only [fa_lit0, xI_le_T, xI_le_F, xI_lt_T, xI_lt_F, xI_eq_T, xI_eq_F, xN_a, xN_b, xN_c, xN_d, xN_e, xN_f, xN_g, xN_h, xI_add, xI_mul, xI_sub, xI_tn, xI_in, xI_ofNat, gi_si_eq, gi_n1, gi_n2, gl_sl_eq, gl_n1, gl_n2, gi_sl, gl_si, forall_eq, true_implies, false_implies, not_true_eq_false, not_false_eq_true, and_true, true_and, implies_true, and_self, v, wp_St_isFull, bs.2.2.1]
        refine B_note bs (by omega) fun M1 s1 b1 => ?_
        refine B_drop b1.1 hO.q b1.2.1 (by omega) (by omega) fun M2 s2 w2 f2 => ?_
        have b2 := b1.flow (by omega) s2 w2 f2
        have ok2 := (ok.note (by omega)).flow (hO.dr hi hn) (by rw [dr_30 (by omega)]; have := ok.2.1; omega)
        have s12 := s1.trans (SB_d s2)
        have m2 := MS_sBd ms s12
        unfold wp_M_leave
        refine M_anArm hC.1 m2.1.2.1 hi ?_
        simp (disch := omega) only [fa_lit0, xI_le_T, xI_le_F, xI_lt_T, xI_lt_F, xI_eq_T, xI_eq_F, xN_a, xN_b, xN_c, xN_d, xN_e, xN_f, xN_g, xN_h, xI_add, xI_mul, xI_sub, xI_tn, xI_in, xI_ofNat, gi_si_eq, gi_n1, gi_n2, gl_sl_eq, gl_n1, gl_n2, gi_sl, gl_si, forall_eq, true_implies, false_implies, not_true_eq_false, not_false_eq_true, and_true, true_and, implies_true, and_self]
        refine M_barge q2 m2.2.1 (by omega) (by omega) ?_
        simp (disch := omega) only [fa_lit0, xI_le_T, xI_le_F, xI_lt_T, xI_lt_F, xI_eq_T, xI_eq_F, xN_a, xN_b, xN_c, xN_d, xN_e, xN_f, xN_g, xN_h, xI_add, xI_mul, xI_sub, xI_tn, xI_in, xI_ofNat, gi_si_eq, gi_n1, gi_n2, gl_sl_eq, gl_n1, gl_n2, gi_sl, gl_si, forall_eq, true_implies, false_implies, not_true_eq_false, not_false_eq_true, and_true, true_and, implies_true, and_self, v, m2.2.2.1]
        refine M_note m2 (by omega) fun M3 s3 m3 => ?_
        refine M_leaves m3.1 m3.2.1 (by omega) (by omega) fun M4 s4 w4 f4 => ?_
        have m4 := m3.flow s4 w4 f4
        have s34 := s3.trans (SM_d s4)
        have st : Sm SDt M M4 := (s12.mono (fun a b w => Or.inl w)).trans (s34.mono (fun a b w => Or.inr (Or.inl w)))
        refine deed_fin h hd st ok2 (BS_sMd b2 (by omega) s34) m4 ?_
        exact h.2.2.2.2.1.sm (S := fun a b => SBd a b ∨ SMd a b) ((s12.mono (fun a b w => Or.inl w)).trans (s34.mono (fun a b w => Or.inr w))) (by unfold SBd SMd; omega) (by unfold SBd SMd; omega)
theorem undo_fin {C : Nat → Nat → Nat} {F F' : Nat → Nat} {D D' : Nat} {L T N V : Nat → Nat → Nat} {KL : Nat → Nat → Nat → Nat} {M M' : Mm} (h : Rel RDel M) (hd : Sta C F D L T N V KL M) (s : Sm (fun a b => a = 61 ∨ (a = 60 ∧ b = 2) ∨ (a = 327 ∧ b < 31) ∨ (a = 312 ∧ b = 28)) M M') (hD : D' ≤ D) (hO : OkF (C 0 0) F') (h30 : F' 30 ≤ D') (f : FlB F' M' 61) (g : FM F' M' 0) (e1 : gi M' 60 2 = nI D') (e2 : gi M' 312 28 = nI D') : Rel RDel M' := by
  obtain ⟨h1, h2, h3, h4, h5, h6, h7⟩ := h
  obtain ⟨d1, d2, d3, ⟨l1, l2, l3, l4⟩, d5, d6⟩ := hd
  refine ⟨h1.sm s (fun a b w => by omega), h2.keep (fun k j w => s.g (by omega)), h3.keep (fun k w => s.g (by omega)) (s.l (by omega)), h4.keep (fun k j w => s.g (by omega)), h5.sm s (by omega) (by omega), h6.sm s (fun a b w => by omega), C, F', D', L, T, N, V, KL, d1.keep (fun k j w => s.g (by omega)), ⟨hO, f, fun j hj => ?_⟩, h30, ⟨by omega, e1, e2, fun d hd => ?_⟩, d5.keep (fun k j w => s.g (by omega)) (fun k j w1 w2 => s.l (by omega)), d6⟩
  · have := g j hj
    dsimp only at this
    rwa [Nat.mul_zero, Nat.zero_add] at this
  · obtain ⟨q1, q2, q3, q4⟩ := l4 d (by omega)
    exact ⟨q1, q2, q3.sm s (fun b => by omega), q4.keep (fun j hj => s.g (by omega))⟩
theorem op_undo {a1 : Int32} {M : Mm} (h : Rel RDel M) : wp_B_undo a1 M (fun r M1 => wp_M_undo a1 M1 (fun r2 M2 => r = r2 ∧ Rel RDel M2)) := by
  obtain ⟨C, F, D, L, T, N, V, KL, hd⟩ := h.2.2.2.2.2.2.out
  obtain ⟨hC, hB, hW, hO, hF, hG, -⟩ := hd.parts
  have hd' := hd
  obtain ⟨-, -, h30, ⟨l1, l2, l3, l4⟩, -, -⟩ := hd'
  rcases pk_ix a1 (n := D + 1) (by omega) with g | g | ⟨a, ha, rfl⟩
  · simp (disch := omega) only [fa_lit0, xI_le_T, xI_le_F, xI_lt_T, xI_lt_F, xI_eq_T, xI_eq_F, xN_a, xN_b, xN_c, xN_d, xN_e, xN_f, xN_g, xN_h, xI_add, xI_mul, xI_sub, xI_tn, xI_in, xI_ofNat, gi_si_eq, gi_n1, gi_n2, gl_sl_eq, gl_n1, gl_n2, gi_sl, gl_si, forall_eq, true_implies, false_implies, not_true_eq_false, not_false_eq_true, and_true, true_and, implies_true, and_self, wp_B_undo, wp_M_undo, wp_M_in, ng_a g]
    exact h
  · simp (disch := omega) only [fa_lit0, xI_le_T, xI_le_F, xI_lt_T, xI_lt_F, xI_eq_T, xI_eq_F, xN_a, xN_b, xN_c, xN_d, xN_e, xN_f, xN_g, xN_h, xI_add, xI_mul, xI_sub, xI_tn, xI_in, xI_ofNat, gi_si_eq, gi_n1, gi_n2, gl_sl_eq, gl_n1, gl_n2, gi_sl, gl_si, forall_eq, true_implies, false_implies, not_true_eq_false, not_false_eq_true, and_true, true_and, implies_true, and_self, wp_B_undo, wp_M_undo, wp_M_in, bg_a g, bg_c g, bg_d g, l2, l3]
    exact h
  · simp (disch := omega) only [fa_lit0, xI_le_T, xI_le_F, xI_lt_T, xI_lt_F, xI_eq_T, xI_eq_F, xN_a, xN_b, xN_c, xN_d, xN_e, xN_f, xN_g, xN_h, xI_add, xI_mul, xI_sub, xI_tn, xI_in, xI_ofNat, gi_si_eq, gi_n1, gi_n2, gl_sl_eq, gl_n1, gl_n2, gi_sl, gl_si, forall_eq, true_implies, false_implies, not_true_eq_false, not_false_eq_true, and_true, true_and, implies_true, and_self, wp_B_undo, l2]
    by_cases c : a = D
    · subst c
      simp (disch := omega) only [fa_lit0, xI_le_T, xI_le_F, xI_lt_T, xI_lt_F, xI_eq_T, xI_eq_F, xN_a, xN_b, xN_c, xN_d, xN_e, xN_f, xN_g, xN_h, xI_add, xI_mul, xI_sub, xI_tn, xI_in, xI_ofNat, gi_si_eq, gi_n1, gi_n2, gl_sl_eq, gl_n1, gl_n2, gi_sl, gl_si, forall_eq, true_implies, false_implies, not_true_eq_false, not_false_eq_true, and_true, true_and, implies_true, and_self, wp_St_goBackTo, l2, wp_M_undo, wp_M_in, l3]
      refine ⟨a + 1, ?_⟩
      show k_M_undo_23 (nI a) (fun r2 M2 => nI (a - a) = r2 ∧ Rel RDel M2) (lp_M_undo_23 (nI a) (fun r2 M2 => nI (a - a) = r2 ∧ Rel RDel M2) a) (nI (a - a)) (nI 0) M
      simp (disch := omega) only [fa_lit0, xI_le_T, xI_le_F, xI_lt_T, xI_lt_F, xI_eq_T, xI_eq_F, xN_a, xN_b, xN_c, xN_d, xN_e, xN_f, xN_g, xN_h, xI_add, xI_mul, xI_sub, xI_tn, xI_in, xI_ofNat, gi_si_eq, gi_n1, gi_n2, gl_sl_eq, gl_n1, gl_n2, gi_sl, gl_si, forall_eq, true_implies, false_implies, not_true_eq_false, not_false_eq_true, and_true, true_and, implies_true, and_self, k_M_undo_23]
      refine undo_fin h hd ((Sm.refl _ M).wi (by omega)) (Nat.le_refl _) hO h30 ?_ ?_ ?_ ?_
      · exact hF.sm (S := fun a b => a = 312) ((Sm.refl _ M).wi rfl) (fun b => by omega)
      · exact hG.sm (S := fun a b => a = 312) ((Sm.refl _ M).wi rfl) (fun b w1 w2 => by omega)
      · simp (disch := omega) only [fa_lit0, xI_le_T, xI_le_F, xI_lt_T, xI_lt_F, xI_eq_T, xI_eq_F, xN_a, xN_b, xN_c, xN_d, xN_e, xN_f, xN_g, xN_h, xI_add, xI_mul, xI_sub, xI_tn, xI_in, xI_ofNat, gi_si_eq, gi_n1, gi_n2, gl_sl_eq, gl_n1, gl_n2, gi_sl, gl_si, forall_eq, true_implies, false_implies, not_true_eq_false, not_false_eq_true, and_true, true_and, implies_true, and_self, l2]
      · simp (disch := omega) only [fa_lit0, xI_le_T, xI_le_F, xI_lt_T, xI_lt_F, xI_eq_T, xI_eq_F, xN_a, xN_b, xN_c, xN_d, xN_e, xN_f, xN_g, xN_h, xI_add, xI_mul, xI_sub, xI_tn, xI_in, xI_ofNat, gi_si_eq, gi_n1, gi_n2, gl_sl_eq, gl_n1, gl_n2, gi_sl, gl_si, forall_eq, true_implies, false_implies, not_true_eq_false, not_false_eq_true, and_true, true_and, implies_true, and_self]
    · obtain ⟨q1, q2, q3, q4⟩ := l4 a (by omega)
      simp (disch := omega) only [fa_lit0, xI_le_T, xI_le_F, xI_lt_T, xI_lt_F, xI_eq_T, xI_eq_F, xN_a, xN_b, xN_c, xN_d, xN_e, xN_f, xN_g, xN_h, xI_add, xI_mul, xI_sub, xI_tn, xI_in, xI_ofNat, gi_si_eq, gi_n1, gi_n2, gl_sl_eq, gl_n1, gl_n2, gi_sl, gl_si, forall_eq, true_implies, false_implies, not_true_eq_false, not_false_eq_true, and_true, true_and, implies_true, and_self, wp_St_goBackTo, l2]
      refine B_copy q3 (by omega) fun M1 s1 f1 => ?_
      have s2 : Sm (fun a b => a = 61 ∨ (a = 60 ∧ b = 2)) M (si M1 60 2 (nI a)) := (s1.mono (fun a b w => Or.inl w)).wi (Or.inr ⟨rfl, rfl⟩)
      have f2 : FlB (L a) (si M1 60 2 (nI a)) 61 := f1.sm (S := fun a b => a = 60) ((Sm.refl _ M1).wi rfl) (fun b => by omega)
      have e2 : gi (si M1 60 2 (nI a)) 60 2 = nI a := gi_si_eq _ _ _ _
      generalize si M1 60 2 (nI a) = M2 at *
      have e28 : gi M2 312 28 = nI D := (s2.g (by omega)).trans l3
      simp (disch := omega) only [fa_lit0, xI_le_T, xI_le_F, xI_lt_T, xI_lt_F, xI_eq_T, xI_eq_F, xN_a, xN_b, xN_c, xN_d, xN_e, xN_f, xN_g, xN_h, xI_add, xI_mul, xI_sub, xI_tn, xI_in, xI_ofNat, gi_si_eq, gi_n1, gi_n2, gl_sl_eq, gl_n1, gl_n2, gi_sl, gl_si, forall_eq, true_implies, false_implies, not_true_eq_false, not_false_eq_true, and_true, true_and, implies_true, and_self, wp_M_undo, wp_M_in, e28]
      have key : ∀ (Q : Int32 → Mm → Prop), (∀ M', Sm (fun a b => a = 327 ∧ b < 31) M2 M' → (∀ j, j < 31 → gi M' 327 j = nI (L a j)) → Q (nI (D - a)) (si M' 312 28 (nI a))) → ∀ (d m : Nat), m + d = 31 → ∀ M3, Sm (fun a b => a = 327 ∧ b < 31) M2 M3 → (∀ j, j < m → gi M3 327 j = nI (L a j)) → lp_M_undo_23 (nI a) Q (d + 1) (nI (D - a)) (nI m) M3 := by
        intro Q hQ d
        induction d with
        | zero =>
          intro m hm M3 s3 e3
          have hm : m = 31 := by omega
          subst hm
          show k_M_undo_23 (nI a) Q _ _ _ M3
          unfold k_M_undo_23
          simp (disch := omega) only [fa_lit0, xI_le_T, xI_le_F, xI_lt_T, xI_lt_F, xI_eq_T, xI_eq_F, xN_a, xN_b, xN_c, xN_d, xN_e, xN_f, xN_g, xN_h, xI_add, xI_mul, xI_sub, xI_tn, xI_in, xI_ofNat, gi_si_eq, gi_n1, gi_n2, gl_sl_eq, gl_n1, gl_n2, gi_sl, gl_si, forall_eq, true_implies, false_implies, not_true_eq_false, not_false_eq_true, and_true, true_and, implies_true, and_self]
          exact hQ M3 s3 e3
        | succ d ih =>
          intro m hm M3 s3 e3
          have e : gi M3 329 (31 * a + m) = nI (L a m) := (s3.g (by omega)).trans ((s2.g (by omega)).trans (q4 m (by omega)))
          show k_M_undo_23 (nI a) Q _ _ _ M3
          unfold k_M_undo_23
          simp (disch := omega) only [fa_lit0, xI_le_T, xI_le_F, xI_lt_T, xI_lt_F, xI_eq_T, xI_eq_F, xN_a, xN_b, xN_c, xN_d, xN_e, xN_f, xN_g, xN_h, xI_add, xI_mul, xI_sub, xI_tn, xI_in, xI_ofNat, gi_si_eq, gi_n1, gi_n2, gl_sl_eq, gl_n1, gl_n2, gi_sl, gl_si, forall_eq, true_implies, false_implies, not_true_eq_false, not_false_eq_true, and_true, true_and, implies_true, and_self, e]
          refine ih (m + 1) (by omega) _ (s3.wi ⟨rfl, by omega⟩) fun j hj => ?_
          by_cases w : j = m
          · subst w; exact gi_si_eq _ _ _ _
          · rw [gi_n2 w]; exact e3 j (by omega)
      refine ⟨_, key _ ?_ 31 0 (by omega) M2 (Sm.refl _ M2) (fun j hj => absurd hj (by omega))⟩
      intro M4 s4 e4
      refine ⟨rfl, ?_⟩
      have st : Sm (fun a b => a = 61 ∨ (a = 60 ∧ b = 2) ∨ (a = 327 ∧ b < 31) ∨ (a = 312 ∧ b = 28)) M (si M4 312 28 (nI a)) := ((s2.mono (fun a b w => by omega)).trans (s4.mono (fun a b w => by omega))).wi (by omega)
      have s5 : Sm (fun a b => (a = 327 ∧ b < 31) ∨ (a = 312 ∧ b = 28)) M2 (si M4 312 28 (nI a)) := (s4.mono (fun a b w => Or.inl w)).wi (Or.inr ⟨rfl, rfl⟩)
      refine undo_fin h hd st (by omega) q1 q2 (f2.sm s5 (fun b => by omega)) (fun j hj => ?_) ((s5.g (by omega)).trans e2) (gi_si_eq _ _ _ _)
      dsimp only
      rw [Nat.mul_zero, Nat.zero_add, gi_n1 (by omega)]
      exact e4 j hj
