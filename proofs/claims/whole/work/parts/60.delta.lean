/-! the delta: C 0 0 how many arms, C 0 1 the river; C 1 kinds, 2 widths, 3 needs, 4 years, 5 days, 6 waits (bits).
    F: a flow: 0.. open, 5.. salt, 10.. silt, 15.. harvests, 20.. barges, 25.. dead, 30 the season -/
def OkC (C : Nat → Nat → Nat) : Prop := C 0 0 ≤ 5 ∧ C 0 1 ≤ 27 ∧ ∀ i, i < C 0 0 → C 1 i < 6 ∧ (1 ≤ C 2 i ∧ C 2 i ≤ 9) ∧ C 3 i ≤ 9 ∧ (1 ≤ C 4 i ∧ C 4 i ≤ 6) ∧ C 5 i < C 4 i ∧ C 6 i < 2 ^ C 0 0 ∧ C 6 i / 2 ^ i % 2 = 0
def OkF (n : Nat) (F : Nat → Nat) : Prop := (∀ i, i < 5 → F i ≤ 1 ∧ F (5 + i) ≤ 9 ∧ F (10 + i) ≤ 9 ∧ F (15 + i) ≤ F 30 ∧ F (20 + i) ≤ 1 ∧ F (25 + i) ≤ 1) ∧ F 30 ≤ 150 ∧ ∀ i, n ≤ i → i < 5 → F i = 0 ∧ F (5 + i) = 0 ∧ F (10 + i) = 0 ∧ F (15 + i) = 0 ∧ F (20 + i) = 0 ∧ F (25 + i) = 0
def mk (F : Nat → Nat) (b : Nat) : Nat := F b + 2 * F (b + 1) + 4 * F (b + 2) + 8 * F (b + 3) + 16 * F (b + 4)
def p16 (F : Nat → Nat) (b : Nat) : Nat := F b + 16 * F (b + 1) + 256 * F (b + 2) + 4096 * F (b + 3) + 65536 * F (b + 4)
def p256 (F : Nat → Nat) (b : Nat) : Nat := F b + 256 * F (b + 1) + 65536 * F (b + 2) + 16777216 * F (b + 3) + 4294967296 * F (b + 4)
def FlB (F : Nat → Nat) (M : Mm) (k : Nat) : Prop := gi M k 0 = nI (F 30) ∧ gi M k 1 = nI (mk F 0) ∧ gi M k 2 = nI (mk F 20) ∧ gi M k 3 = nI (mk F 25) ∧ gi M k 4 = nI (p16 F 5) ∧ gi M k 5 = nI (p16 F 10) ∧ gl M k 6 = lN (p256 F 15)
def FlM (F : Nat → Nat) (g : Nat → Int32) : Prop := ∀ j, j < 31 → g j = nI (F j)
/-- water by the set s of open arms -/
def wsum (C : Nat → Nat → Nat) (s : Nat) : Nat → Nat
  | 0 => 0
  | m + 1 => wsum C s m + s / 2 ^ m % 2 * C 2 m
def shr (C : Nat → Nat → Nat) (s w : Nat) : Nat → Nat
  | 0 => 0
  | m + 1 => shr C s w m + (if s / 2 ^ m % 2 = 0 then 0 else C 0 1 * C 2 m / w)
def cnt (s : Nat) : Nat → Nat
  | 0 => 0
  | m + 1 => cnt s m + s / 2 ^ m % 2
def wat (C : Nat → Nat → Nat) (s i : Nat) : Nat :=
  if s / 2 ^ i % 2 = 0 then (if C 1 i = 4 then 1 else 0)
  else C 0 1 * C 2 i / wsum C s (C 0 0) + (if C 0 1 - shr C s (wsum C s (C 0 0)) (C 0 0) ≤ cnt s i then 0 else 1)
def srv (C : Nat → Nat → Nat) (s : Nat) : Nat → Nat
  | 0 => 0
  | m + 1 => srv C s m + (if wat C s m < C 3 m then 0 else 2 ^ m)
/-- chart, on the class's side and on the reference's -/
def ChB (C : Nat → Nat → Nat) (M : Mm) : Prop := gi M 20 7 = nI (C 0 0) ∧ gi M 20 8 = nI (C 0 1) ∧ ∀ i, i < C 0 0 → gi M 21 i = nI (C 1 i) ∧ gi M 22 i = nI (C 2 i) ∧ gi M 23 i = nI (C 3 i) ∧ gi M 24 i = nI (C 4 i) ∧ gi M 25 i = nI (C 5 i) ∧ gi M 26 i = nI (C 6 i)
def ChS (C : Nat → Nat → Nat) (M : Mm) : Prop := ∀ s, s < 32 → gi M 27 s = -nI 1 ∨ gi M 27 s = nI (srv C s (C 0 0))
def ChM (C : Nat → Nat → Nat) (M : Mm) : Prop := gi M 312 10 = nI (C 0 0) ∧ gi M 312 11 = nI (C 0 1) ∧ ∀ i, i < C 0 0 → gi M 319 i = nI (C 1 i) ∧ gi M 320 i = nI (C 2 i) ∧ gi M 321 i = nI (C 3 i) ∧ gi M 322 i = nI (C 4 i) ∧ gi M 323 i = nI (C 5 i) ∧ gi M 324 i = nI (C 6 i)
def RC (C : Nat → Nat → Nat) (M : Mm) : Prop := OkC C ∧ ChB C M ∧ ChM C M ∧ (0 < C 0 0 → ChS C M)
def RF (n : Nat) (F : Nat → Nat) (M : Mm) : Prop := OkF n F ∧ FlB F M 61 ∧ FlM F (gi M 327)
def RLg (n D : Nat) (L : Nat → Nat → Nat) (M : Mm) : Prop := D ≤ 60 ∧ gi M 60 2 = nI D ∧ gi M 312 28 = nI D ∧ ∀ d, d < D → OkF n (L d) ∧ L d 30 ≤ d ∧ FlB (L d) M (63 + d) ∧ FlM (L d) (fun j => gi M 329 (31 * d + j))
/-- a kept delta: T k: 0 whether it is there, 1 its deeds; N k its needs, V k its flow, L k its log -/
def RK (n : Nat) (T N V : Nat → Nat → Nat) (L : Nat → Nat → Nat → Nat) (M : Mm) : Prop := ∀ k, k < 3 → T k 0 ≤ 1 ∧ gi M (54 + 2 * k) 2 = nI (T k 0) ∧ gi M 330 k = nI (T k 0) ∧ (T k 0 = 1 → T k 1 ≤ 60 ∧ gi M (123 + 63 * k) 2 = nI (T k 1) ∧ gi M 331 k = nI (T k 1) ∧ OkF n (V k) ∧ V k 30 ≤ T k 1 ∧ FlB (V k) M (124 + 63 * k) ∧ FlM (V k) (fun j => gi M 332 (31 * k + j)) ∧ (∀ i, i < n → N k i ≤ 9 ∧ gi M (55 + 2 * k) i = nI (N k i) ∧ gi M 333 (5 * k + i) = nI (N k i)) ∧ ∀ d, d < T k 1 → OkF n (L k d) ∧ L k d 30 ≤ d ∧ FlB (L k d) M (126 + 63 * k + d) ∧ FlM (L k d) (fun j => gi M 334 (1860 * k + (31 * d + j))))
def RDel (M : Mm) : Prop := ∃ (C : Nat → Nat → Nat) (F : Nat → Nat) (D : Nat) (L : Nat → Nat → Nat) (T N V : Nat → Nat → Nat) (KL : Nat → Nat → Nat → Nat), RC C M ∧ RF (C 0 0) F M ∧ F 30 ≤ D ∧ RLg (C 0 0) D L M ∧ RK (C 0 0) T N V KL M ∧ ∀ k, k < 3 → T k 0 = 1 → 0 < C 0 0
theorem FlB.keep {F : Nat → Nat} {M M' : Mm} {k : Nat} (h : FlB F M k) (e : ∀ j, gi M' k j = gi M k j) (e2 : gl M' k 6 = gl M k 6) : FlB F M' k := by
  unfold FlB
  rw [e, e, e, e, e, e, e2]
  exact h
theorem FlM.keep {F : Nat → Nat} {g g' : Nat → Int32} (h : FlM F g) (e : ∀ j, j < 31 → g' j = g j) : FlM F g' := fun j hj => (e j hj).trans (h j hj)
theorem RC.keep {C : Nat → Nat → Nat} {M M' : Mm} (h : RC C M) (e : ∀ k j, ((k = 20 ∧ (j = 7 ∨ j = 8)) ∨ (21 ≤ k ∧ k ≤ 27) ∨ (k = 312 ∧ (j = 10 ∨ j = 11)) ∨ (319 ≤ k ∧ k ≤ 324)) → gi M' k j = gi M k j) : RC C M' := by
  obtain ⟨h1, ⟨a1, a2, a3⟩, ⟨b1, b2, b3⟩, h4⟩ := h
  refine ⟨h1, ⟨?_, ?_, fun i hi => ?_⟩, ⟨?_, ?_, fun i hi => ?_⟩, fun hn s hs => ?_⟩
  · rw [e 20 7 (by omega)]; exact a1
  · rw [e 20 8 (by omega)]; exact a2
  · rw [e 21 i (by omega), e 22 i (by omega), e 23 i (by omega), e 24 i (by omega), e 25 i (by omega), e 26 i (by omega)]; exact a3 i hi
  · rw [e 312 10 (by omega)]; exact b1
  · rw [e 312 11 (by omega)]; exact b2
  · rw [e 319 i (by omega), e 320 i (by omega), e 321 i (by omega), e 322 i (by omega), e 323 i (by omega), e 324 i (by omega)]; exact b3 i hi
  · rw [e 27 s (by omega)]; exact h4 hn s hs
theorem RF.keep {n : Nat} {F : Nat → Nat} {M M' : Mm} (h : RF n F M) (e : ∀ k j, (k = 61 ∨ (k = 327 ∧ j < 31)) → gi M' k j = gi M k j) (e2 : gl M' 61 6 = gl M 61 6) : RF n F M' :=
  ⟨h.1, h.2.1.keep (fun j => e 61 j (by omega)) e2, h.2.2.keep (fun j hj => e 327 j (by omega))⟩
theorem RLg.keep {n D : Nat} {L : Nat → Nat → Nat} {M M' : Mm} (h : RLg n D L M) (e : ∀ k j, ((k = 60 ∧ j = 2) ∨ (k = 312 ∧ j = 28) ∨ (63 ≤ k ∧ k < 123) ∨ k = 329) → gi M' k j = gi M k j) (e2 : ∀ k j, 63 ≤ k → k < 123 → gl M' k j = gl M k j) : RLg n D L M' := by
  obtain ⟨h1, h2, h3, h4⟩ := h
  refine ⟨h1, (e 60 2 (by omega)).trans h2, (e 312 28 (by omega)).trans h3, fun d hd => ?_⟩
  obtain ⟨q1, q2, q3, q4⟩ := h4 d hd
  exact ⟨q1, q2, q3.keep (fun j => e _ _ (by omega)) (e2 _ _ (by omega) (by omega)), q4.keep (fun j _ => e _ _ (by omega))⟩
theorem RK.keep {n : Nat} {T N V : Nat → Nat → Nat} {L : Nat → Nat → Nat → Nat} {M M' : Mm} (h : RK n T N V L M) (e : ∀ k j, ((54 ≤ k ∧ k < 60) ∨ (123 ≤ k ∧ k < 312) ∨ (330 ≤ k ∧ k ≤ 334)) → gi M' k j = gi M k j) (e2 : ∀ k j, 123 ≤ k → k < 312 → gl M' k j = gl M k j) : RK n T N V L M' := by
  intro k hk
  obtain ⟨h1, h2, h3, h4⟩ := h k hk
  refine ⟨h1, (e _ _ (by omega)).trans h2, (e _ _ (by omega)).trans h3, fun ht => ?_⟩
  obtain ⟨a1, a2, a3, a4, a5, a6, a7, a8, a9⟩ := h4 ht
  refine ⟨a1, (e _ _ (by omega)).trans a2, (e _ _ (by omega)).trans a3, a4, a5, a6.keep (fun j => e _ _ (by omega)) (e2 _ _ (by omega) (by omega)), a7.keep (fun j _ => e _ _ (by omega)), fun i hi => ?_, fun d hd => ?_⟩
  · obtain ⟨b1, b2, b3⟩ := a8 i hi
    exact ⟨b1, (e _ _ (by omega)).trans b2, (e _ _ (by omega)).trans b3⟩
  · obtain ⟨b1, b2, b3, b4⟩ := a9 d hd
    exact ⟨b1, b2, b3.keep (fun j => e _ _ (by omega)) (e2 _ _ (by omega) (by omega)), b4.keep (fun j _ => e _ _ (by omega))⟩
theorem RDel_mono : Mono RDel := by
  intro M M' e h
  obtain ⟨C, F, D, L, T, N, V, KL, h1, h2, h3, h4, h5, h6⟩ := h
  have e1 : ∀ k j, Dset k j → gi M' k j = gi M k j := fun k j h => (e k j h).1
  have e2 : ∀ k j, Dset k j → gl M' k j = gl M k j := fun k j h => (e k j h).2
  exact ⟨C, F, D, L, T, N, V, KL, h1.keep (fun k j h => e1 k j (by unfold Dset; omega)), h2.keep (fun k j h => e1 k j (by unfold Dset; omega)) (e2 _ _ (by unfold Dset; omega)), h3, h4.keep (fun k j h => e1 k j (by unfold Dset; omega)) (fun k j _ _ => e2 k j (by unfold Dset; omega)), h5.keep (fun k j h => e1 k j (by unfold Dset; omega)) (fun k j _ _ => e2 k j (by unfold Dset; omega)), h6⟩
/-- the relation holds at the beginning -/
theorem M0_z {k j : Nat} (h : k ≠ 5) (h1 : k ≠ 14) (h2 : k ≠ 314) (h3 : k ≠ 317) (h4 : k ≠ 4) (h5 : k ≠ 13) : gi M0 k j = nI 0 := by
  unfold gi M0
  dsimp only
  rw [if_neg (by omega), if_neg (by omega), if_neg (by omega)]
  rfl
theorem M0_m {k j n : Nat} (h : (k = 5 ∧ n = 6) ∨ (k = 14 ∧ n = 4) ∨ (k = 314 ∧ n = 6) ∨ (k = 317 ∧ n = 4)) (hj : j < n) : gi M0 k j = -nI 1 := by
  unfold gi M0
  dsimp only
  rw [if_pos (by omega)]
  rfl
theorem Rel_0 : Rel RDel M0 := by
  refine ⟨fun r hr => ?_, fun r hr => ?_, ⟨rfl, rfl, rfl, rfl⟩, ⟨rfl, fun f hf => ?_⟩, rfl, ⟨rfl, rfl⟩, ?_⟩
  · have e : gi M0 314 r = -nI 1 := M0_m (n := 6) (by omega) hr
    have e5 : gi M0 5 r = -nI 1 := M0_m (n := 6) (by omega) hr
    refine ⟨e5.trans e.symm, Or.inl e, fun i m hm h4 h5 => ?_⟩
    rw [e] at hm
    exact absurd hm (by simp (disch := omega) only [fa_lit0, xI_le_T, xI_le_F, xI_lt_T, xI_lt_F, xI_eq_T, xI_eq_F, xN_a, xN_b, xN_c, xN_d, xN_e, xN_f, xN_g, xN_h, xI_add, xI_mul, xI_sub, xI_tn, xI_in, xI_ofNat, gi_si_eq, gi_n1, gi_n2, gl_sl_eq, gl_n1, gl_n2, gi_sl, gl_si, forall_eq, true_implies, false_implies, not_true_eq_false, not_false_eq_true, and_true, true_and, implies_true, and_self])
  · have e : gi M0 317 r = -nI 1 := M0_m (n := 4) (by omega) hr
    have e5 : gi M0 14 r = -nI 1 := M0_m (n := 4) (by omega) hr
    refine ⟨e5.trans e.symm, Or.inl e, fun i m hm h4 h5 => ?_⟩
    rw [e] at hm
    exact absurd hm (by simp (disch := omega) only [fa_lit0, xI_le_T, xI_le_F, xI_lt_T, xI_lt_F, xI_eq_T, xI_eq_F, xN_a, xN_b, xN_c, xN_d, xN_e, xN_f, xN_g, xN_h, xI_add, xI_mul, xI_sub, xI_tn, xI_in, xI_ofNat, gi_si_eq, gi_n1, gi_n2, gl_sl_eq, gl_n1, gl_n2, gi_sl, gl_si, forall_eq, true_implies, false_implies, not_true_eq_false, not_false_eq_true, and_true, true_and, implies_true, and_self])
  · rw [M0_z (by omega) (by omega) (by omega) (by omega) (by omega) (by omega), M0_z (by omega) (by omega) (by omega) (by omega) (by omega) (by omega)]
  · refine ⟨fun _ _ => 0, fun _ => 0, 0, fun _ _ => 0, fun _ _ => 0, fun _ _ => 0, fun _ _ => 0, fun _ _ _ => 0, ⟨⟨Nat.zero_le _, Nat.zero_le _, fun i hi => absurd hi (Nat.not_lt_zero i)⟩, ⟨rfl, rfl, fun i hi => absurd hi (Nat.not_lt_zero i)⟩, ⟨rfl, rfl, fun i hi => absurd hi (Nat.not_lt_zero i)⟩, fun h => absurd h (Nat.lt_irrefl 0)⟩, ⟨⟨fun i _ => ⟨Nat.zero_le _, Nat.zero_le _, Nat.zero_le _, Nat.zero_le _, Nat.zero_le _, Nat.zero_le _⟩, Nat.zero_le _, fun i _ _ => ⟨rfl, rfl, rfl, rfl, rfl, rfl⟩⟩, ⟨rfl, rfl, rfl, rfl, rfl, rfl, rfl⟩, fun j hj => ?_⟩, Nat.le_refl _, ⟨Nat.zero_le _, rfl, rfl, fun d hd => absurd hd (Nat.not_lt_zero d)⟩, fun k hk => ⟨Nat.zero_le _, ?_, ?_, fun h => absurd h Nat.zero_ne_one⟩, fun k _ h => absurd h Nat.zero_ne_one⟩
    · exact M0_z (by omega) (by omega) (by omega) (by omega) (by omega) (by omega)
    · exact M0_z (by omega) (by omega) (by omega) (by omega) (by omega) (by omega)
    · exact M0_z (by omega) (by omega) (by omega) (by omega) (by omega) (by omega)
