def wp_Sh_knows (a0 : Nat) (a1 : Int32) (M : Mm) (Q : Int32 → Mm → Prop) : Prop :=
  (a1 < 0 → Q (0 : Int32) M) ∧ (¬ a1 < 0 → ((Int32.ofNat (shN a0)) ≤ a1 → Q (0 : Int32) M) ∧ (¬ (Int32.ofNat (shN a0)) ≤ a1 → Q (1 : Int32) M))
def wp_B_answerFinding (a1 : Int32) (M : Mm) (Q : Int32 → Mm → Prop) : Prop :=
  vp_in a1 6 ∧ (∀ x14 : Int32, x14 = ((gi (si M 0 12 a1) 1 (tn a1)) + (1 : Int32)) → vp_in a1 6 ∧ (Q (-3 : Int32) (si (si M 0 12 a1) 1 (tn a1) x14)))
def k_J_fill_5 (a0 n0 : Nat) (a1 : Int32) (Q : Mm → Prop) (KB : Int32 → Int32 → Mm → Prop) (v2 : Int32) (v3 : Int32) (M : Mm) : Prop :=
  (v3 ≤ v2 → Q M) ∧ (¬ v3 ≤ v2 → vp_in v2 n0 ∧ (∀ x14 : Int32, x14 = v2 + (1 : Int32) → KB x14 v3 (si M a0 (tn v2) a1)))
def lp_J_fill_5 (a0 n0 : Nat) (a1 : Int32) (Q : Mm → Prop)  : Nat → Int32 → Int32 → Mm → Prop
  | 0 => fun _ _ _ => False
  | n + 1 => fun v2 v3 M => k_J_fill_5 a0 n0 a1 Q (lp_J_fill_5 a0 n0 a1 Q n)  v2 v3 M
def wp_J_fill (a0 n0 : Nat) (a1 : Int32) (M : Mm) (Q : Mm → Prop) : Prop :=
  ∀ x4 : Int32, x4 = (Int32.ofNat n0) → ∃ n : Nat, lp_J_fill_5 a0 n0 a1 Q n (0 : Int32) x4 M
def wp_Sh_make (a0 : Nat) (a1 : Int32) (a2 : Int32) (a3 : Int32) (M : Mm) (Q : Mm → Prop) : Prop :=
  wp_Sh_knows a0 a1 M (fun (r2 : Int32) (M2 : Mm) => (r2 = 0 → Q M2) ∧ (¬ r2 = 0 → (a2 < 0 → Q M2) ∧ (¬ a2 < 0 → ((gi M2 a0 0) < a2 → Q M2) ∧ (¬ (gi M2 a0 0) < a2 → vp_in a1 (shN a0) ∧ (wp_J_fill ((a0 + 2) + 1 + tn a1) (shR a0) a3 M2 (fun (M27 : Mm) => vp_in a1 (shN a0) ∧ (Q (si M27 (a0 + 1) (tn a1) a2))))))))
def wp_B_makeIn (a1 : Nat) (a2 : Int32) (a3 : Int32) (a4 : Int32) (M : Mm) (Q : Int32 → Mm → Prop) : Prop :=
  wp_Sh_knows a1 a2 M (fun (r2 : Int32) (M2 : Mm) => (r2 = 0 → Q (-1 : Int32) M2) ∧ (¬ r2 = 0 → (a3 ≤ (gi M2 a1 0) → (0 ≤ a3 → wp_Sh_make a1 a2 a3 a4 M2 (fun (M33 : Mm) => Q a3 M33)) ∧ (¬ 0 ≤ a3 → wp_B_answerFinding (5 : Int32) M2 (fun (r24 : Int32) (M24 : Mm) => Q r24 M24))) ∧ (¬ a3 ≤ (gi M2 a1 0) → Q (-1 : Int32) M2)))
def wp_B_row (a1 : Int32) (a2 : Int32) (M : Mm) (Q : Int32 → Mm → Prop) : Prop :=
  wp_B_makeIn 4 a1 a2 (0 : Int32) M (fun (r8 : Int32) (M8 : Mm) => Q r8 M8)
def wp_Sh_isThere (a0 : Nat) (a1 : Int32) (M : Mm) (Q : Int32 → Mm → Prop) : Prop :=
  wp_Sh_knows a0 a1 M (fun (r2 : Int32) (M2 : Mm) => (r2 = 0 → Q (0 : Int32) M2) ∧ (¬ r2 = 0 → vp_in a1 (shN a0) ∧ (((gi M2 (a0 + 1) (tn a1)) = (-1 : Int32) → Q (0 : Int32) M2) ∧ (¬ (gi M2 (a0 + 1) (tn a1)) = (-1 : Int32) → Q (1 : Int32) M2))))
def wp_B_shelfRefusal (a1 : Nat) (a2 : Int32) (M : Mm) (Q : Int32 → Mm → Prop) : Prop :=
  wp_Sh_knows a1 a2 M (fun (r2 : Int32) (M2 : Mm) => (¬ r2 = 0 → wp_Sh_isThere a1 a2 M2 (fun (r12 : Int32) (M12 : Mm) => (r12 = 0 → wp_B_answerFinding (1 : Int32) M12 (fun (r24 : Int32) (M24 : Mm) => Q r24 M24)) ∧ (¬ r12 = 0 → Q (0 : Int32) M12))) ∧ (r2 = 0 → Q (-1 : Int32) M2))
def wp_Sh_hasStretch (a0 : Nat) (a1 : Int32) (a2 : Int32) (a3 : Int32) (M : Mm) (Q : Int32 → Mm → Prop) : Prop :=
  wp_Sh_knows a0 a1 M (fun (r2 : Int32) (M2 : Mm) => (r2 = 0 → Q (0 : Int32) M2) ∧ (¬ r2 = 0 → (a2 < 0 → Q (0 : Int32) M2) ∧ (¬ a2 < 0 → (a3 < 0 → Q (0 : Int32) M2) ∧ (¬ a3 < 0 → vp_in a1 (shN a0) ∧ ((((gi M2 (a0 + 1) (tn a1)) - a3) < a2 → Q (0 : Int32) M2) ∧ (¬ ((gi M2 (a0 + 1) (tn a1)) - a3) < a2 → Q (1 : Int32) M2))))))
def wp_B_placeRefusal (a1 : Nat) (a2 : Int32) (a3 : Int32) (M : Mm) (Q : Int32 → Mm → Prop) : Prop :=
  wp_B_shelfRefusal a1 a2 M (fun (r3 : Int32) (M3 : Mm) => (r3 = 0 → wp_Sh_hasStretch a1 a2 a3 (1 : Int32) M3 (fun (r20 : Int32) (M20 : Mm) => (r20 = 0 → wp_B_answerFinding (2 : Int32) M20 (fun (r32 : Int32) (M32 : Mm) => Q r32 M32)) ∧ (¬ r20 = 0 → Q (0 : Int32) M20))) ∧ (¬ r3 = 0 → Q r3 M3))
def wp_Sh_valueAt (a0 : Nat) (a1 : Int32) (a2 : Int32) (M : Mm) (Q : Int32 → Mm → Prop) : Prop :=
  wp_Sh_hasStretch a0 a1 a2 (1 : Int32) M (fun (r4 : Int32) (M4 : Mm) => (r4 = 0 → Q (0 : Int32) M4) ∧ (¬ r4 = 0 → vp_in a1 (shN a0) ∧ (vp_in a2 (shR a0) ∧ (Q (gi M4 ((a0 + 2) + 1 + tn a1) (tn a2)) M4))))
def wp_Sh_setValue (a0 : Nat) (a1 : Int32) (a2 : Int32) (a3 : Int32) (M : Mm) (Q : Mm → Prop) : Prop :=
  wp_Sh_hasStretch a0 a1 a2 (1 : Int32) M (fun (r4 : Int32) (M4 : Mm) => (r4 = 0 → Q M4) ∧ (¬ r4 = 0 → vp_in a1 (shN a0) ∧ (vp_in a2 (shR a0) ∧ (Q (si M4 ((a0 + 2) + 1 + tn a1) (tn a2) a3)))))
def wp_B_lay (a1 : Int32) (a2 : Int32) (a3 : Int32) (M : Mm) (Q : Int32 → Mm → Prop) : Prop :=
  wp_B_placeRefusal 4 a1 a2 M (fun (r7 : Int32) (M7 : Mm) => (r7 = 0 → wp_Sh_valueAt 4 a1 a2 M7 (fun (r27 : Int32) (M27 : Mm) => wp_Sh_setValue 4 a1 a2 a3 (si M27 0 13 r27) (fun (M40 : Mm) => Q (1 : Int32) M40))) ∧ (¬ r7 = 0 → Q r7 M7))
def wp_B_at (a1 : Int32) (a2 : Int32) (M : Mm) (Q : Int32 → Mm → Prop) : Prop :=
  wp_B_placeRefusal 4 a1 a2 M (fun (r7 : Int32) (M7 : Mm) => (r7 = 0 → wp_Sh_valueAt 4 a1 a2 M7 (fun (r24 : Int32) (M24 : Mm) => Q (1 : Int32) (si M24 0 13 r24))) ∧ (¬ r7 = 0 → Q r7 M7))
def wp_Sh_drop (a0 : Nat) (a1 : Int32) (M : Mm) (Q : Mm → Prop) : Prop :=
  wp_Sh_knows a0 a1 M (fun (r2 : Int32) (M2 : Mm) => (r2 = 0 → Q M2) ∧ (¬ r2 = 0 → vp_in a1 (shN a0) ∧ (Q (si M2 (a0 + 1) (tn a1) (-1 : Int32)))))
def wp_B_tear (a1 : Int32) (M : Mm) (Q : Int32 → Mm → Prop) : Prop :=
  wp_B_shelfRefusal 4 a1 M (fun (r6 : Int32) (M6 : Mm) => (r6 = 0 → wp_Sh_drop 4 a1 M6 (fun (M21 : Mm) => Q (1 : Int32) M21)) ∧ (¬ r6 = 0 → Q r6 M6))
def wp_Sh_move (a0 : Nat) (a1 : Int32) (a2 : Int32) (a3 : Int32) (a4 : Int32) (a5 : Int32) (M : Mm) (Q : Mm → Prop) : Prop :=
  wp_Sh_hasStretch a0 a1 a2 a5 M (fun (r5 : Int32) (M5 : Mm) => (r5 = 0 → Q M5) ∧ (¬ r5 = 0 → wp_Sh_hasStretch a0 a3 a4 a5 M5 (fun (r17 : Int32) (M17 : Mm) => (r17 = 0 → Q M17) ∧ (¬ r17 = 0 → vp_in a1 (shN a0) ∧ (vp_in a3 (shN a0) ∧ ((¬ a2 < 0) ∧ ((¬ a4 < 0) ∧ ((¬ a5 < 0) ∧ ((tn a2 + tn a5 ≤ shR a0) ∧ ((tn a4 + tn a5 ≤ shR a0) ∧ (Q (cpi M17 ((a0 + 2) + 1 + tn a1) ((a0 + 2) + 1 + tn a3) (tn a2) (tn a4) (tn a5)))))))))))))
def k_B_copy_57 (a1 : Int32) (a2 : Int32) (a3 : Int32) (a4 : Int32) (a5 : Int32) (Q : Int32 → Mm → Prop)   (M : Mm) : Prop :=
  wp_B_answerFinding (1 : Int32) M (fun (r59 : Int32) (M59 : Mm) => Q r59 M59)
def k_B_copy_92 (a1 : Int32) (a2 : Int32) (a3 : Int32) (a4 : Int32) (a5 : Int32) (Q : Int32 → Mm → Prop)   (M : Mm) : Prop :=
  wp_B_answerFinding (2 : Int32) M (fun (r94 : Int32) (M94 : Mm) => Q r94 M94)
def wp_B_copy (a1 : Int32) (a2 : Int32) (a3 : Int32) (a4 : Int32) (a5 : Int32) (M : Mm) (Q : Int32 → Mm → Prop) : Prop :=
  wp_Sh_knows 4 a1 M (fun (r5 : Int32) (M5 : Mm) => (r5 = 0 → Q (-1 : Int32) M5) ∧ (¬ r5 = 0 → wp_Sh_knows 4 a3 M5 (fun (r16 : Int32) (M16 : Mm) => (¬ r16 = 0 → (0 ≤ a5 → wp_Sh_isThere 4 a1 M16 (fun (r40 : Int32) (M40 : Mm) => (r40 = 0 → k_B_copy_57 a1 a2 a3 a4 a5 Q M40) ∧ (¬ r40 = 0 → wp_Sh_isThere 4 a3 M40 (fun (r51 : Int32) (M51 : Mm) => (¬ r51 = 0 → wp_Sh_hasStretch 4 a1 a2 a5 M51 (fun (r71 : Int32) (M71 : Mm) => (r71 = 0 → k_B_copy_92 a1 a2 a3 a4 a5 Q M71) ∧ (¬ r71 = 0 → wp_Sh_hasStretch 4 a3 a4 a5 M71 (fun (r86 : Int32) (M86 : Mm) => (¬ r86 = 0 → wp_Sh_move 4 a1 a2 a3 a4 a5 M86 (fun (M109 : Mm) => Q (1 : Int32) M109)) ∧ (r86 = 0 → k_B_copy_92 a1 a2 a3 a4 a5 Q M86))))) ∧ (r51 = 0 → k_B_copy_57 a1 a2 a3 a4 a5 Q M51))))) ∧ (¬ 0 ≤ a5 → wp_B_answerFinding (5 : Int32) M16 (fun (r31 : Int32) (M31 : Mm) => Q r31 M31))) ∧ (r16 = 0 → Q (-1 : Int32) M16))))
def wp_Sh_sizeOf (a0 : Nat) (a1 : Int32) (M : Mm) (Q : Int32 → Mm → Prop) : Prop :=
  wp_Sh_knows a0 a1 M (fun (r2 : Int32) (M2 : Mm) => (r2 = 0 → Q (-1 : Int32) M2) ∧ (¬ r2 = 0 → vp_in a1 (shN a0) ∧ (Q (gi M2 (a0 + 1) (tn a1)) M2)))
def k_Sh_sumOf_5 (a0 : Nat) (a1 : Int32) (Q : Int64 → Mm → Prop) (KB : Int64 → Int32 → Mm → Prop) (v2 : Int64) (v4 : Int32) (M : Mm) : Prop :=
  wp_Sh_sizeOf a0 a1 M (fun (r9 : Int32) (M9 : Mm) => (r9 ≤ v4 → Q v2 M9) ∧ (¬ r9 ≤ v4 → vp_in a1 (shN a0) ∧ (vp_in v4 (shR a0) ∧ (∀ x27 : Int64, x27 = (v2 + (gi M9 ((a0 + 2) + 1 + tn a1) (tn v4)).toInt64) → ∀ x28 : Int32, x28 = v4 + (1 : Int32) → KB x27 x28 M9))))
def lp_Sh_sumOf_5 (a0 : Nat) (a1 : Int32) (Q : Int64 → Mm → Prop)  : Nat → Int64 → Int32 → Mm → Prop
  | 0 => fun _ _ _ => False
  | n + 1 => fun v2 v4 M => k_Sh_sumOf_5 a0 a1 Q (lp_Sh_sumOf_5 a0 a1 Q n)  v2 v4 M
def wp_Sh_sumOf (a0 : Nat) (a1 : Int32) (M : Mm) (Q : Int64 → Mm → Prop) : Prop :=
  ∃ n : Nat, lp_Sh_sumOf_5 a0 a1 Q n (0 : Int64) (0 : Int32) M
def wp_B_mean (a1 : Int32) (M : Mm) (Q : Int32 → Mm → Prop) : Prop :=
  wp_B_shelfRefusal 4 a1 M (fun (r6 : Int32) (M6 : Mm) => (r6 = 0 → wp_Sh_sizeOf 4 a1 M6 (fun (r21 : Int32) (M21 : Mm) => (0 < r21 → wp_Sh_sumOf 4 a1 M21 (fun (r41 : Int64) (M41 : Mm) => (¬ r21.toInt64 = 0) ∧ (∀ x48 : Int32, x48 = (r41 / r21.toInt64).toInt32 → Q (1 : Int32) (si M41 0 13 x48)))) ∧ (¬ 0 < r21 → wp_B_answerFinding (4 : Int32) M21 (fun (r31 : Int32) (M31 : Mm) => Q r31 M31)))) ∧ (¬ r6 = 0 → Q r6 M6))
def wp_B_text (a1 : Int32) (a2 : Int32) (M : Mm) (Q : Int32 → Mm → Prop) : Prop :=
  wp_B_makeIn 13 a1 a2 (32 : Int32) M (fun (r9 : Int32) (M9 : Mm) => Q r9 M9)
def wp_B_put (a1 : Int32) (a2 : Int32) (a3 : Int32) (M : Mm) (Q : Int32 → Mm → Prop) : Prop :=
  wp_B_placeRefusal 13 a1 a2 M (fun (r7 : Int32) (M7 : Mm) => (r7 = 0 → wp_Sh_valueAt 13 a1 a2 M7 (fun (r26 : Int32) (M26 : Mm) => wp_Sh_setValue 13 a1 a2 a3.toInt8.toInt32 M26 (fun (M39 : Mm) => Q (r26 + (1000 : Int32)) M39))) ∧ (¬ r7 = 0 → Q r7 M7))
def k_Sh_copyOut_18 (a0 : Nat) (a1 : Int32) (a2 n2 : Nat) (Q : Int32 → Mm → Prop) (KB : Int32 → Int32 → Mm → Prop) (v3 : Int32) (v4 : Int32) (M : Mm) : Prop :=
  (v3 ≤ v4 → Q v3 M) ∧ (¬ v3 ≤ v4 → vp_in a1 (shN a0) ∧ (vp_in v4 (shR a0) ∧ (∀ x36 : Int32, x36 = (gi M ((a0 + 2) + 1 + tn a1) (tn v4)) → vp_in v4 n2 ∧ (∀ x37 : Int32, x37 = v4 + (1 : Int32) → KB v3 x37 (si M a2 (tn v4) x36)))))
def lp_Sh_copyOut_18 (a0 : Nat) (a1 : Int32) (a2 n2 : Nat) (Q : Int32 → Mm → Prop)  : Nat → Int32 → Int32 → Mm → Prop
  | 0 => fun _ _ _ => False
  | n + 1 => fun v3 v4 M => k_Sh_copyOut_18 a0 a1 a2 n2 Q (lp_Sh_copyOut_18 a0 a1 a2 n2 Q n)  v3 v4 M
def wp_Sh_copyOut (a0 : Nat) (a1 : Int32) (a2 n2 : Nat) (M : Mm) (Q : Int32 → Mm → Prop) : Prop :=
  wp_Sh_sizeOf a0 a1 M (fun (r5 : Int32) (M5 : Mm) => ∀ x14 : Int32, x14 = (if (if (0 : Int32) < r5 then r5 else (0 : Int32)) < (Int32.ofNat n2) then (if (0 : Int32) < r5 then r5 else (0 : Int32)) else (Int32.ofNat n2)) → ∃ n : Nat, lp_Sh_copyOut_18 a0 a1 a2 n2 Q n x14 (0 : Int32) M5)
def wp_Ch_forgetServed (a0 : Nat) (M : Mm) (Q : Mm → Prop) : Prop :=
  wp_J_fill (a0 + 7) 32 (-1 : Int32) M (fun (M5 : Mm) => Q M5)
def wp_Ch_clear (a0 : Nat) (M : Mm) (Q : Mm → Prop) : Prop :=
  wp_J_fill (a0 + 6) 5 (0 : Int32) (si (si M a0 7 (0 : Int32)) a0 8 (0 : Int32)) (fun (M15 : Mm) => wp_Ch_forgetServed a0 M15 (fun (M19 : Mm) => Q M19))
def wp_Rd_nextSign (a0 : Nat) (M : Mm) (Q : Int32 → Mm → Prop) : Prop :=
  ((gi M a0 2) ≤ (gi M a0 3) → Q (1000 : Int32) M) ∧ (¬ (gi M a0 2) ≤ (gi M a0 3) → ((60 : Int32) ≤ (gi M a0 3) → Q (1000 : Int32) M) ∧ (¬ (60 : Int32) ≤ (gi M a0 3) → vp_in (gi M a0 3) 60 ∧ (Q (gi M (a0 + 1) (tn (gi M a0 3))) M)))
def k_Rd_skipBlanks_0 (a0 : Nat) (Q : Mm → Prop) (KB : Mm → Prop)  (M : Mm) : Prop :=
  ((gi M a0 2) ≤ (gi M a0 3) → Q M) ∧ (¬ (gi M a0 2) ≤ (gi M a0 3) → wp_Rd_nextSign a0 M (fun (r12 : Int32) (M12 : Mm) => (¬ r12 = (32 : Int32) → Q M12) ∧ (r12 = (32 : Int32) → ∀ x27 : Int32, x27 = ((gi M12 a0 3) + (1 : Int32)) → KB (si M12 a0 3 x27))))
def lp_Rd_skipBlanks_0 (a0 : Nat) (Q : Mm → Prop)  : Nat → Mm → Prop
  | 0 => fun _ => False
  | n + 1 => fun M => k_Rd_skipBlanks_0 a0 Q (lp_Rd_skipBlanks_0 a0 Q n)  M
def wp_Rd_skipBlanks (a0 : Nat) (M : Mm) (Q : Mm → Prop) : Prop :=
  ∃ n : Nat, lp_Rd_skipBlanks_0 a0 Q n M
def wp_Rd_readFigure (a0 : Nat) (a1 : Int32) (a2 : Int32) (M : Mm) (Q : Int32 → Mm → Prop) : Prop :=
  ((gi M a0 5) = (-9 : Int32) → wp_Rd_nextSign a0 M (fun (r12 : Int32) (M12 : Mm) => ∀ x18 : Int32, x18 = (r12 - (48 : Int32)) → (x18 < a1 → ∀ x34 : Int32, x34 = (gi M12 a0 3) → Q (0 : Int32) (si M12 a0 5 x34)) ∧ (¬ x18 < a1 → (x18 ≤ a2 → ∀ x46 : Int32, x46 = ((gi M12 a0 3) + (1 : Int32)) → Q x18 (si M12 a0 3 x46)) ∧ (¬ x18 ≤ a2 → ∀ x34 : Int32, x34 = (gi M12 a0 3) → Q (0 : Int32) (si M12 a0 5 x34))))) ∧ (¬ (gi M a0 5) = (-9 : Int32) → Q (0 : Int32) M)
def wp_Rd_readRiver (a0 : Nat) (M : Mm) (Q : Mm → Prop) : Prop :=
  wp_Rd_skipBlanks a0 M (fun (M1 : Mm) => wp_Rd_nextSign a0 M1 (fun (r5 : Int32) (M5 : Mm) => (r5 = (114 : Int32) → ∀ x29 : Int32, x29 = ((gi M5 a0 3) + (1 : Int32)) → wp_Rd_readFigure a0 (1 : Int32) (9 : Int32) (si M5 a0 3 x29) (fun (r41 : Int32) (M41 : Mm) => ∀ x45 : Int32, x45 = ((3 : Int32) * r41) → Q (si M41 (chOf a0) 8 x45))) ∧ (¬ r5 = (114 : Int32) → ∀ x18 : Int32, x18 = (gi M5 a0 3) → Q (si M5 a0 5 x18))))
def wp_B_hasBit (a0 : Int32) (a1 : Int32) (M : Mm) (Q : Int32 → Mm → Prop) : Prop :=
  (((a0 >>> (a1 &&& 31)) &&& (1 : Int32)) = 0 → Q (0 : Int32) M) ∧ (¬ ((a0 >>> (a1 &&& 31)) &&& (1 : Int32)) = 0 → Q (1 : Int32) M)
def wp_Rd_readWait (a0 : Nat) (M : Mm) (Q : Mm → Prop) : Prop :=
  ((gi M (chOf a0) 7) = 0 → ∀ x24 : Int32, x24 = (gi M a0 3) → Q (si M a0 5 x24)) ∧ (¬ (gi M (chOf a0) 7) = 0 → ((gi M a0 4) < (8 : Int32) → ∀ x35 : Int32, x35 = ((gi M a0 3) + (1 : Int32)) → wp_Rd_readFigure a0 (0 : Int32) ((gi (si M a0 3 x35) (chOf a0) 7) - (1 : Int32)) (si M a0 3 x35) (fun (r49 : Int32) (M49 : Mm) => ∀ x57 : Int32, x57 = (gi M49 a0 3) → wp_Rd_readFigure a0 (0 : Int32) ((gi M49 (chOf a0) 7) - (1 : Int32)) M49 (fun (r69 : Int32) (M69 : Mm) => ((gi M69 a0 5) = (-9 : Int32) → (r49 = r69 → Q (si M69 a0 5 x57)) ∧ (¬ r49 = r69 → vp_in r49 5 ∧ (wp_B_hasBit (gi M69 ((chOf a0) + 6) (tn r49)) r69 M69 (fun (r98 : Int32) (M98 : Mm) => (r98 = 0 → vp_in r49 5 ∧ (∀ x124 : Int32, x124 = ((gi M98 ((chOf a0) + 6) (tn r49)) ||| ((1 : Int32) <<< (r69 &&& 31))) → vp_in r49 5 ∧ (∀ x132 : Int32, x132 = ((gi (si M98 ((chOf a0) + 6) (tn r49) x124) a0 4) + (1 : Int32)) → Q (si (si M98 ((chOf a0) + 6) (tn r49) x124) a0 4 x132)))) ∧ (¬ r98 = 0 → Q (si M98 a0 5 x57)))))) ∧ (¬ (gi M69 a0 5) = (-9 : Int32) → Q M69)))) ∧ (¬ (gi M a0 4) < (8 : Int32) → ∀ x24 : Int32, x24 = (gi M a0 3) → Q (si M a0 5 x24)))
def k_Ch_kindOfLetter_2 (a0 : Int32) (Q : Int32 → Mm → Prop) (KB : Int32 → Mm → Prop) (v1 : Int32) (M : Mm) : Prop :=
  ((6 : Int32) ≤ v1 → Q (-9 : Int32) M) ∧ (¬ (6 : Int32) ≤ v1 → vp_in v1 6 ∧ ((¬ (letT.getD (tn v1) 0) = a0 → ∀ x21 : Int32, x21 = v1 + (1 : Int32) → KB x21 M) ∧ ((letT.getD (tn v1) 0) = a0 → Q v1 M)))
def lp_Ch_kindOfLetter_2 (a0 : Int32) (Q : Int32 → Mm → Prop)  : Nat → Int32 → Mm → Prop
  | 0 => fun _ _ => False
  | n + 1 => fun v1 M => k_Ch_kindOfLetter_2 a0 Q (lp_Ch_kindOfLetter_2 a0 Q n)  v1 M
def wp_Ch_kindOfLetter (a0 : Int32) (M : Mm) (Q : Int32 → Mm → Prop) : Prop :=
  ∃ n : Nat, lp_Ch_kindOfLetter_2 a0 Q n (0 : Int32) M
def wp_Rd_readArm (a0 : Nat) (a1 : Int32) (M : Mm) (Q : Mm → Prop) : Prop :=
  ∀ x7 : Int32, x7 = ((gi M a0 3) + (1 : Int32)) → ∀ x17 : Int32, x17 = (gi (si M a0 3 x7) (chOf a0) 7) → vp_in x17 5 ∧ (wp_Rd_readFigure a0 (1 : Int32) (9 : Int32) (si (si M a0 3 x7) ((chOf a0) + 1) (tn x17) a1) (fun (r40 : Int32) (M40 : Mm) => vp_in x17 5 ∧ (wp_Rd_readFigure a0 (0 : Int32) (9 : Int32) (si M40 ((chOf a0) + 2) (tn x17) r40) (fun (r56 : Int32) (M56 : Mm) => vp_in x17 5 ∧ (wp_Rd_readFigure a0 (1 : Int32) (6 : Int32) (si M56 ((chOf a0) + 3) (tn x17) r56) (fun (r72 : Int32) (M72 : Mm) => vp_in x17 5 ∧ (vp_in x17 5 ∧ (wp_Rd_readFigure a0 (0 : Int32) ((gi (si M72 ((chOf a0) + 4) (tn x17) r72) ((chOf a0) + 4) (tn x17)) - (1 : Int32)) (si M72 ((chOf a0) + 4) (tn x17) r72) (fun (r97 : Int32) (M97 : Mm) => vp_in x17 5 ∧ (∀ x111 : Int32, x111 = ((gi (si M97 ((chOf a0) + 5) (tn x17) r97) (chOf a0) 7) + (1 : Int32)) → Q (si (si M97 ((chOf a0) + 5) (tn x17) r97) (chOf a0) 7 x111)))))))))))
def wp_Rd_readItem (a0 : Nat) (M : Mm) (Q : Mm → Prop) : Prop :=
  wp_Rd_nextSign a0 M (fun (r1 : Int32) (M1 : Mm) => (¬ r1 = (119 : Int32) → wp_Rd_nextSign a0 M1 (fun (r15 : Int32) (M15 : Mm) => wp_Ch_kindOfLetter r15 M15 (fun (r18 : Int32) (M18 : Mm) => (r18 = (-9 : Int32) → ∀ x51 : Int32, x51 = (gi M18 a0 3) → Q (si M18 a0 5 x51)) ∧ (¬ r18 = (-9 : Int32) → ((5 : Int32) ≤ (gi M18 (chOf a0) 7) → ∀ x51 : Int32, x51 = (gi M18 a0 3) → Q (si M18 a0 5 x51)) ∧ (¬ (5 : Int32) ≤ (gi M18 (chOf a0) 7) → ((gi M18 a0 4) ≤ 0 → wp_Rd_readArm a0 r18 M18 (fun (M57 : Mm) => Q M57)) ∧ (¬ (gi M18 a0 4) ≤ 0 → ∀ x51 : Int32, x51 = (gi M18 a0 3) → Q (si M18 a0 5 x51))))))) ∧ (r1 = (119 : Int32) → wp_Rd_readWait a0 M1 (fun (M10 : Mm) => Q M10)))
def k_Rd_read_42 (a0 : Nat) (a1 : Nat) (a2 : Int32) (Q : Int32 → Mm → Prop) (KB : Int32 → Mm → Prop) (K72 : Mm → Prop) (K85 : Mm → Prop) (v3 : Int32) (M : Mm) : Prop :=
  ((60 : Int32) ≤ v3 → K85 M) ∧ (¬ (60 : Int32) ≤ v3 → (¬ (gi M a0 5) = (-9 : Int32) → K85 M) ∧ ((gi M a0 5) = (-9 : Int32) → wp_Rd_skipBlanks a0 M (fun (M58 : Mm) => ((gi M58 a0 3) < (gi M58 a0 2) → wp_Rd_readItem a0 M58 (fun (M76 : Mm) => ∀ x79 : Int32, x79 = v3 + (1 : Int32) → KB x79 M76)) ∧ (¬ (gi M58 a0 3) < (gi M58 a0 2) → K72 M58))))
def lp_Rd_read_42 (a0 : Nat) (a1 : Nat) (a2 : Int32) (Q : Int32 → Mm → Prop) (K72 : Mm → Prop) (K85 : Mm → Prop) : Nat → Int32 → Mm → Prop
  | 0 => fun _ _ => False
  | n + 1 => fun v3 M => k_Rd_read_42 a0 a1 a2 Q (lp_Rd_read_42 a0 a1 a2 Q K72 K85 n) K72 K85 v3 M
def k_Rd_read_85 (a0 : Nat) (a1 : Nat) (a2 : Int32) (Q : Int32 → Mm → Prop)   (M : Mm) : Prop :=
  (¬ (gi M a0 5) = (-9 : Int32) → Q (gi M a0 5) M) ∧ ((gi M a0 5) = (-9 : Int32) → (¬ (gi M (chOf a0) 7) = 0 → Q (gi M a0 5) M) ∧ ((gi M (chOf a0) 7) = 0 → ∀ x109 : Int32, x109 = (gi M a0 2) → Q (gi (si M a0 5 x109) a0 5) (si M a0 5 x109)))
def wp_Rd_read (a0 : Nat) (a1 : Nat) (a2 : Int32) (M : Mm) (Q : Int32 → Mm → Prop) : Prop :=
  wp_Sh_copyOut a1 a2 (a0 + 1) 60 M (fun (r7 : Int32) (M7 : Mm) => wp_Ch_clear (chOf a0) (si (si (si (si M7 a0 2 r7) a0 3 (0 : Int32)) a0 4 (0 : Int32)) a0 5 (-9 : Int32)) (fun (M33 : Mm) => wp_Rd_readRiver a0 M33 (fun (M37 : Mm) => ∃ n : Nat, lp_Rd_read_42 a0 a1 a2 Q (fun (M : Mm) => k_Rd_read_85 a0 a1 a2 Q M) (fun (M : Mm) => k_Rd_read_85 a0 a1 a2 Q M) n (0 : Int32) M37)))
def wp_B_fault (a1 : Int32) (M : Mm) (Q : Int32 → Mm → Prop) : Prop :=
  wp_B_shelfRefusal 13 a1 M (fun (r6 : Int32) (M6 : Mm) => (r6 = 0 → wp_Rd_read 38 13 a1 M6 (fun (r27 : Int32) (M27 : Mm) => Q r27 M27)) ∧ (¬ r6 = 0 → Q r6 M6))
def k_Ch_isOf_24 (a0 : Nat) (a1 : Int32) (a2 : Int32) (Q : Int32 → Mm → Prop)   (M : Mm) : Prop :=
  Q (1 : Int32) M
def wp_Ch_isOf (a0 : Nat) (a1 : Int32) (a2 : Int32) (M : Mm) (Q : Int32 → Mm → Prop) : Prop :=
  vp_in a1 5 ∧ (((gi M (a0 + 1) (tn a1)) = a2 → k_Ch_isOf_24 a0 a1 a2 Q M) ∧ (¬ (gi M (a0 + 1) (tn a1)) = a2 → vp_in a1 5 ∧ (vp_in (gi M (a0 + 1) (tn a1)) 6 ∧ ((¬ (parT.getD (tn (gi M (a0 + 1) (tn a1))) 0) = a2 → Q (0 : Int32) M) ∧ ((parT.getD (tn (gi M (a0 + 1) (tn a1))) 0) = a2 → k_Ch_isOf_24 a0 a1 a2 Q M)))))
def k_Fl_begin_41 (a0 : Nat) (a1 : Nat) (Q : Mm → Prop) (KB : Int32 → Mm → Prop) (K51 : Mm → Prop) (v2 : Int32) (s0 : Int32) (s1 : Int32) (M : Mm) : Prop :=
  ∀ x42 : Int32, x42 = (s1 ||| s0) → ∀ x45 : Int32, x45 = v2 + (1 : Int32) → KB x45 (si M a0 2 x42)
def k_Fl_begin_12 (a0 : Nat) (a1 : Nat) (Q : Mm → Prop) (KB : Int32 → Mm → Prop) (K51 : Mm → Prop) (v2 : Int32) (M : Mm) : Prop :=
  ((gi M a1 7) ≤ v2 → K51 M) ∧ (¬ (gi M a1 7) ≤ v2 → wp_Ch_isOf a1 v2 (3 : Int32) M (fun (r28 : Int32) (M28 : Mm) => (r28 = 0 → k_Fl_begin_41 a0 a1 Q KB K51 v2 (0 : Int32) (gi M a0 2) M28) ∧ (¬ r28 = 0 → k_Fl_begin_41 a0 a1 Q KB K51 v2 ((1 : Int32) <<< (v2 &&& 31)) (gi M a0 2) M28)))
def lp_Fl_begin_12 (a0 : Nat) (a1 : Nat) (Q : Mm → Prop) (K51 : Mm → Prop) : Nat → Int32 → Mm → Prop
  | 0 => fun _ _ => False
  | n + 1 => fun v2 M => k_Fl_begin_12 a0 a1 Q (lp_Fl_begin_12 a0 a1 Q K51 n) K51 v2 M
def wp_Fl_begin (a0 : Nat) (a1 : Nat) (M : Mm) (Q : Mm → Prop) : Prop :=
  ∃ n : Nat, lp_Fl_begin_12 a0 a1 Q (fun (M : Mm) => ∀ x56 : Int32, x56 = (gi M a0 2) → Q (sl (si (si (si (si M a0 1 x56) a0 3 (0 : Int32)) a0 4 (0 : Int32)) a0 5 (0 : Int32)) a0 6 (0 : Int64))) n (0 : Int32) (si (si M a0 0 (0 : Int32)) a0 2 (0 : Int32))
def wp_St_begin (a0 : Nat) (a1 : Nat) (M : Mm) (Q : Mm → Prop) : Prop :=
  wp_Fl_begin (a0 + 1) a1 M (fun (M5 : Mm) => Q (si M5 a0 2 (0 : Int32)))
def k_B_delta_62 (a1 : Int32) (Q : Int32 → Mm → Prop) (KB : Int32 → Mm → Prop) (v3 : Int32) (M : Mm) : Prop :=
  ((3 : Int32) ≤ v3 → Q (gi M 20 7) M) ∧ (¬ (3 : Int32) ≤ v3 → vp_in v3 3 ∧ (∀ x77 : Int32, x77 = v3 + (1 : Int32) → KB x77 (si M (54 + 2 * tn v3) 2 (0 : Int32))))
def lp_B_delta_62 (a1 : Int32) (Q : Int32 → Mm → Prop)  : Nat → Int32 → Mm → Prop
  | 0 => fun _ _ => False
  | n + 1 => fun v3 M => k_B_delta_62 a1 Q (lp_B_delta_62 a1 Q n)  v3 M
def wp_B_delta (a1 : Int32) (M : Mm) (Q : Int32 → Mm → Prop) : Prop :=
  wp_B_shelfRefusal 13 a1 M (fun (r6 : Int32) (M6 : Mm) => (r6 = 0 → wp_Rd_read 38 13 a1 M6 (fun (r25 : Int32) (M25 : Mm) => (r25 = (-9 : Int32) → wp_Rd_read 36 13 a1 M25 (fun (r45 : Int32) (M45 : Mm) => wp_St_begin 60 20 M45 (fun (M57 : Mm) => ∃ n : Nat, lp_B_delta_62 a1 Q n (0 : Int32) M57))) ∧ (¬ r25 = (-9 : Int32) → Q (-4 : Int32) M25))) ∧ (¬ r6 = 0 → Q r6 M6))
def wp_Ch_hasArm (a0 : Nat) (a1 : Int32) (M : Mm) (Q : Int32 → Mm → Prop) : Prop :=
  (a1 < 0 → Q (0 : Int32) M) ∧ (¬ a1 < 0 → ((gi M a0 7) ≤ a1 → Q (0 : Int32) M) ∧ (¬ (gi M a0 7) ≤ a1 → Q (1 : Int32) M))
def wp_Fl_saltOf (a0 : Nat) (a1 : Int32) (M : Mm) (Q : Int32 → Mm → Prop) : Prop :=
  Q (((gi M a0 4) >>> (((4 : Int32) * a1) &&& 31)) &&& (15 : Int32)) M
def wp_Fl_siltOf (a0 : Nat) (a1 : Int32) (M : Mm) (Q : Int32 → Mm → Prop) : Prop :=
  Q (((gi M a0 5) >>> (((4 : Int32) * a1) &&& 31)) &&& (15 : Int32)) M
def wp_Fl_harvestsOf (a0 : Nat) (a1 : Int32) (M : Mm) (Q : Int32 → Mm → Prop) : Prop :=
  Q ((((gl M a0 6) >>> (((8 : Int32) * a1).toInt64 &&& 63)) &&& (255 : Int64)).toInt32) M
def wp_Fl_mayBeStamped (a0 : Nat) (a1 : Nat) (a2 : Int32) (M : Mm) (Q : Int32 → Mm → Prop) : Prop :=
  vp_in a2 5 ∧ (∀ x6 : Int32, x6 = (gi M (a1 + 4) (tn a2)) → (x6 ≤ 0 → Q (0 : Int32) M) ∧ (¬ x6 ≤ 0 → (¬ x6 = 0) ∧ (vp_in a2 5 ∧ ((((gi M a0 0) - (gi M a0 0) / x6 * x6) = (gi M (a1 + 5) (tn a2)) → wp_B_hasBit ((gi M a0 3) ||| ((gi M a0 1) &&& (gi M a0 2))) a2 M (fun (r43 : Int32) (M43 : Mm) => (¬ r43 = 0 → Q (0 : Int32) M43) ∧ (r43 = 0 → vp_in a2 5 ∧ ((¬ ((gi M43 (a1 + 6) (tn a2)) &&& ((gi M43 a0 1) ^^^ (-1 : Int32))) = 0 → Q (0 : Int32) M43) ∧ (((gi M43 (a1 + 6) (tn a2)) &&& ((gi M43 a0 1) ^^^ (-1 : Int32))) = 0 → Q (1 : Int32) M43))))) ∧ (¬ ((gi M a0 0) - (gi M a0 0) / x6 * x6) = (gi M (a1 + 5) (tn a2)) → Q (0 : Int32) M)))))
def wp_B_armTells (a1 : Int32) (a2 : Int32) (M : Mm) (Q : Int32 → Mm → Prop) : Prop :=
  (a2 = 0 → vp_in a1 5 ∧ (Q (gi M 21 (tn a1)) M)) ∧ (a2 = 1 → vp_in a1 5 ∧ (Q (gi M 22 (tn a1)) M)) ∧ (a2 = 2 → vp_in a1 5 ∧ (Q (gi M 23 (tn a1)) M)) ∧ (a2 = 3 → Q (((gi M 61 1) >>> (a1 &&& 31)) &&& (1 : Int32)) M) ∧ (a2 = 4 → wp_Fl_saltOf 61 a1 M (fun (r93 : Int32) (M93 : Mm) => Q r93 M93)) ∧ (a2 = 5 → wp_Fl_siltOf 61 a1 M (fun (r99 : Int32) (M99 : Mm) => Q r99 M99)) ∧ (a2 = 6 → wp_Fl_harvestsOf 61 a1 M (fun (r105 : Int32) (M105 : Mm) => Q r105 M105)) ∧ (a2.toInt < 0 ∨ 6 < a2.toInt → wp_Fl_mayBeStamped 61 20 a1 M (fun (r115 : Int32) (M115 : Mm) => (r115 = 0 → Q (0 : Int32) M115) ∧ (¬ r115 = 0 → Q (1 : Int32) M115)))
def wp_B_arm (a1 : Int32) (a2 : Int32) (M : Mm) (Q : Int32 → Mm → Prop) : Prop :=
  wp_Ch_hasArm 20 a1 M (fun (r5 : Int32) (M5 : Mm) => (r5 = 0 → Q (-1 : Int32) M5) ∧ (¬ r5 = 0 → (a2 < 0 → Q (-1 : Int32) M5) ∧ (¬ a2 < 0 → (a2 ≤ (7 : Int32) → wp_B_armTells a1 a2 M5 (fun (r27 : Int32) (M27 : Mm) => Q (1 : Int32) (si M27 0 13 r27))) ∧ (¬ a2 ≤ (7 : Int32) → Q (-1 : Int32) M5))))
def wp_B_stepsOfTwo (a0 : Int32) (M : Mm) (Q : Int32 → Mm → Prop) : Prop :=
  (0 < a0 → Q ((a0 + (1 : Int32)) / (2 : Int32)) M) ∧ (¬ 0 < a0 → Q (0 : Int32) M)
def wp_J_bitCount (a0 : Int32) (M : Mm) (Q : Int32 → Mm → Prop) : Prop :=
  ∀ x9 : Int32, x9 = (a0 - ((a0.toUInt32 >>> ((1 : Int32).toUInt32 &&& Int32.toUInt32 31)).toInt32 &&& (1431655765 : Int32))) → ∀ x23 : Int32, x23 = ((x9 &&& (858993459 : Int32)) + ((x9.toUInt32 >>> ((2 : Int32).toUInt32 &&& Int32.toUInt32 31)).toInt32 &&& (858993459 : Int32))) → ∀ x33 : Int32, x33 = ((x23 + (x23.toUInt32 >>> ((4 : Int32).toUInt32 &&& Int32.toUInt32 31)).toInt32) &&& (252645135 : Int32)) → ∀ x40 : Int32, x40 = (x33 + (x33.toUInt32 >>> ((8 : Int32).toUInt32 &&& Int32.toUInt32 31)).toInt32) → ∀ x47 : Int32, x47 = (x40 + (x40.toUInt32 >>> ((16 : Int32).toUInt32 &&& Int32.toUInt32 31)).toInt32) → Q (x47 &&& (63 : Int32)) M
def k_Ch_waterOf_29 (a0 : Nat) (a1 : Int32) (a2 : Int32) (Q : Int32 → Mm → Prop) (KB : Int32 → Int32 → Mm → Prop) (K61 : Int32 → Mm → Prop) (v3 : Int32) (v4 : Int32) (M : Mm) : Prop :=
  ((gi M a0 7) ≤ v4 → K61 v3 M) ∧ (¬ (gi M a0 7) ≤ v4 → vp_in v4 5 ∧ (∀ x54 : Int32, x54 = (v3 + (((a2 >>> (v4 &&& 31)) &&& (1 : Int32)) * (gi M (a0 + 2) (tn v4)))) → ∀ x55 : Int32, x55 = v4 + (1 : Int32) → KB x54 x55 M))
def lp_Ch_waterOf_29 (a0 : Nat) (a1 : Int32) (a2 : Int32) (Q : Int32 → Mm → Prop) (K61 : Int32 → Mm → Prop) : Nat → Int32 → Int32 → Mm → Prop
  | 0 => fun _ _ _ => False
  | n + 1 => fun v3 v4 M => k_Ch_waterOf_29 a0 a1 a2 Q (lp_Ch_waterOf_29 a0 a1 a2 Q K61 n) K61 v3 v4 M
def k_Ch_waterOf_114 (a0 : Nat) (a1 : Int32) (a2 : Int32) (Q : Int32 → Mm → Prop) (KB : Int32 → Int32 → Int32 → Mm → Prop) (K123 : Int32 → Int32 → Mm → Prop) (v3 : Int32) (v5 : Int32) (s0 : Int32) (s1 : Int32) (M : Mm) : Prop :=
  ∀ x115 : Int32, x115 = (s1 - s0) → ∀ x117 : Int32, x117 = v5 + (1 : Int32) → KB v3 x115 x117 M
def k_Ch_waterOf_76 (a0 : Nat) (a1 : Int32) (a2 : Int32) (Q : Int32 → Mm → Prop) (KB : Int32 → Int32 → Int32 → Mm → Prop) (K123 : Int32 → Int32 → Mm → Prop) (v3 : Int32) (v4 : Int32) (v5 : Int32) (M : Mm) : Prop :=
  ((gi M a0 7) ≤ v5 → K123 v3 v4 M) ∧ (¬ (gi M a0 7) ≤ v5 → wp_B_hasBit a2 v5 M (fun (r90 : Int32) (M90 : Mm) => (r90 = 0 → k_Ch_waterOf_114 a0 a1 a2 Q KB K123 v3 v5 (0 : Int32) v4 M90) ∧ (¬ r90 = 0 → vp_in v5 5 ∧ ((¬ v3 = 0) ∧ (k_Ch_waterOf_114 a0 a1 a2 Q KB K123 v3 v5 (((gi M90 a0 8) * (gi M90 (a0 + 2) (tn v5))) / v3) v4 M90)))))
def lp_Ch_waterOf_76 (a0 : Nat) (a1 : Int32) (a2 : Int32) (Q : Int32 → Mm → Prop) (K123 : Int32 → Int32 → Mm → Prop) : Nat → Int32 → Int32 → Int32 → Mm → Prop
  | 0 => fun _ _ _ _ => False
  | n + 1 => fun v3 v4 v5 M => k_Ch_waterOf_76 a0 a1 a2 Q (lp_Ch_waterOf_76 a0 a1 a2 Q K123 n) K123 v3 v4 v5 M
def wp_Ch_waterOf (a0 : Nat) (a1 : Int32) (a2 : Int32) (M : Mm) (Q : Int32 → Mm → Prop) : Prop :=
  wp_B_hasBit a2 a1 M (fun (r2 : Int32) (M2 : Mm) => (¬ r2 = 0 → ∃ n : Nat, lp_Ch_waterOf_29 a0 a1 a2 Q (fun (v3 : Int32) (M : Mm) => (0 < v3 → ∀ x71 : Int32, x71 = (gi M a0 8) → ∃ n : Nat, lp_Ch_waterOf_76 a0 a1 a2 Q (fun (v3 : Int32) (v4 : Int32) (M : Mm) => wp_J_bitCount (a2 &&& (((1 : Int32) <<< (a1 &&& 31)) - (1 : Int32))) M (fun (r130 : Int32) (M130 : Mm) => vp_in a1 5 ∧ ((¬ v3 = 0) ∧ ((v4 ≤ r130 → Q ((((gi M130 a0 8) * (gi M130 (a0 + 2) (tn a1))) / v3) + (0 : Int32)) M130) ∧ (¬ v4 ≤ r130 → Q ((((gi M130 a0 8) * (gi M130 (a0 + 2) (tn a1))) / v3) + (1 : Int32)) M130))))) n v3 x71 (0 : Int32) M) ∧ (¬ 0 < v3 → Q (0 : Int32) M)) n (0 : Int32) (0 : Int32) M2) ∧ (r2 = 0 → vp_in a1 5 ∧ ((¬ (gi M2 (a0 + 1) (tn a1)) = (4 : Int32) → Q (0 : Int32) M2) ∧ ((gi M2 (a0 + 1) (tn a1)) = (4 : Int32) → Q (1 : Int32) M2))))
def k_Fl_followerOf_27 (a0 : Nat) (a1 : Nat) (a2 : Int32) (Q : Int32 → Mm → Prop)  (v3 : Int32) (s0 : Int32) (M : Mm) : Prop :=
  (s0 = 0 → Q (-9 : Int32) M) ∧ (¬ s0 = 0 → wp_B_hasBit ((gi M a0 3) ||| (gi M a0 2)) v3 M (fun (r44 : Int32) (M44 : Mm) => (¬ r44 = 0 → Q (-9 : Int32) M44) ∧ (r44 = 0 → Q v3 M44)))
def k_Fl_followerOf_26 (a0 : Nat) (a1 : Nat) (a2 : Int32) (Q : Int32 → Mm → Prop)  (v3 : Int32) (M : Mm) : Prop :=
  k_Fl_followerOf_27 a0 a1 a2 Q v3 (0 : Int32) M
def wp_Fl_followerOf (a0 : Nat) (a1 : Nat) (a2 : Int32) (M : Mm) (Q : Int32 → Mm → Prop) : Prop :=
  ∀ x3 : Int32, x3 = (a2 + (1 : Int32)) → vp_in a2 5 ∧ ((¬ (gi M (a1 + 1) (tn a2)) = (5 : Int32) → k_Fl_followerOf_26 a0 a1 a2 Q x3 M) ∧ ((gi M (a1 + 1) (tn a2)) = (5 : Int32) → wp_Ch_hasArm a1 x3 M (fun (r16 : Int32) (M16 : Mm) => (r16 = 0 → k_Fl_followerOf_26 a0 a1 a2 Q x3 M16) ∧ (¬ r16 = 0 → k_Fl_followerOf_27 a0 a1 a2 Q x3 (1 : Int32) M16))))
def wp_B_markOf (a1 : Int32) (a2 : Int32) (M : Mm) (Q : Int32 → Mm → Prop) : Prop :=
  (a2 = 1 → wp_Fl_saltOf 61 a1 M (fun (r43 : Int32) (M43 : Mm) => wp_B_stepsOfTwo ((5 : Int32) - r43) M43 (fun (r47 : Int32) (M47 : Mm) => Q r47 M47))) ∧ (a2 = 2 → wp_Fl_siltOf 61 a1 M (fun (r55 : Int32) (M55 : Mm) => wp_B_stepsOfTwo ((9 : Int32) - r55) M55 (fun (r59 : Int32) (M59 : Mm) => Q r59 M59))) ∧ (a2 = 3 → Q (((gi M 61 2) >>> (a1 &&& 31)) &&& (1 : Int32)) M) ∧ (a2 = 4 → wp_Ch_waterOf 20 a1 (gi M 61 1) M (fun (r81 : Int32) (M81 : Mm) => Q r81 M81)) ∧ (a2.toInt < 1 ∨ 4 < a2.toInt → wp_Fl_followerOf 61 20 a1 M (fun (r91 : Int32) (M91 : Mm) => Q r91 M91))
def wp_B_mark (a1 : Int32) (a2 : Int32) (M : Mm) (Q : Int32 → Mm → Prop) : Prop :=
  wp_Ch_hasArm 20 a1 M (fun (r5 : Int32) (M5 : Mm) => (r5 = 0 → Q (-1 : Int32) M5) ∧ (¬ r5 = 0 → (a2 < (1 : Int32) → Q (-1 : Int32) M5) ∧ (¬ a2 < (1 : Int32) → (a2 ≤ (5 : Int32) → wp_Ch_isOf 20 a1 a2 M5 (fun (r29 : Int32) (M29 : Mm) => (¬ r29 = 0 → wp_B_markOf a1 a2 M29 (fun (r44 : Int32) (M44 : Mm) => Q r44 M44)) ∧ (r29 = 0 → wp_B_answerFinding (3 : Int32) M29 (fun (r37 : Int32) (M37 : Mm) => Q r37 M37)))) ∧ (¬ a2 ≤ (5 : Int32) → Q (-1 : Int32) M5))))
def wp_B_need (a1 : Int32) (a2 : Int32) (M : Mm) (Q : Int32 → Mm → Prop) : Prop :=
  wp_Ch_hasArm 20 a1 M (fun (r5 : Int32) (M5 : Mm) => (r5 = 0 → Q (-1 : Int32) M5) ∧ (¬ r5 = 0 → (a2 < 0 → Q (-1 : Int32) M5) ∧ (¬ a2 < 0 → (a2 ≤ (9 : Int32) → vp_in a1 5 ∧ (∀ x32 : Int32, x32 = (gi M5 23 (tn a1)) → vp_in a1 5 ∧ (wp_Ch_forgetServed 20 (si M5 23 (tn a1) a2) (fun (M47 : Mm) => Q x32 M47)))) ∧ (¬ a2 ≤ (9 : Int32) → Q (-1 : Int32) M5))))
def wp_B_withBit (a0 : Int32) (a1 : Int32) (a2 : Int32) (M : Mm) (Q : Int32 → Mm → Prop) : Prop :=
  (a2 = 0 → Q (a0 &&& (((1 : Int32) <<< (a1 &&& 31)) ^^^ (-1 : Int32))) M) ∧ (¬ a2 = 0 → Q (a0 ||| ((1 : Int32) <<< (a1 &&& 31))) M)
def k_B_awaits_81 (a1 : Int32) (a2 : Int32) (a3 : Int32) (Q : Int32 → Mm → Prop)  (v4 : Int32) (s0 : Int32) (s1 : Int32) (s2 : Int32) (s3 : Int32) (M : Mm) : Prop :=
  wp_B_withBit s2 s1 s0 M (fun (r81 : Int32) (M81 : Mm) => vp_in s3 5 ∧ (Q v4 (si M81 26 (tn s3) r81)))
def wp_B_awaits (a1 : Int32) (a2 : Int32) (a3 : Int32) (M : Mm) (Q : Int32 → Mm → Prop) : Prop :=
  wp_Ch_hasArm 20 a1 M (fun (r5 : Int32) (M5 : Mm) => (r5 = 0 → Q (-1 : Int32) M5) ∧ (¬ r5 = 0 → wp_Ch_hasArm 20 a2 M5 (fun (r16 : Int32) (M16 : Mm) => (r16 = 0 → Q (-1 : Int32) M16) ∧ (¬ r16 = 0 → (a1 = a2 → Q (-1 : Int32) M16) ∧ (¬ a1 = a2 → (a3 < 0 → Q (-1 : Int32) M16) ∧ (¬ a3 < 0 → (a3 ≤ (1 : Int32) → vp_in a1 5 ∧ (∀ x51 : Int32, x51 = (((gi M16 26 (tn a1)) >>> (a2 &&& 31)) &&& (1 : Int32)) → vp_in a1 5 ∧ ((¬ a3 = (1 : Int32) → k_B_awaits_81 a1 a2 a3 Q x51 (0 : Int32) a2 (gi M16 26 (tn a1)) a1 M16) ∧ (a3 = (1 : Int32) → k_B_awaits_81 a1 a2 a3 Q x51 (1 : Int32) a2 (gi M16 26 (tn a1)) a1 M16)))) ∧ (¬ a3 ≤ (1 : Int32) → Q (-1 : Int32) M16)))))))
def wp_St_isFull (a0 : Nat) (M : Mm) (Q : Int32 → Mm → Prop) : Prop :=
  ((gi M a0 2) < (60 : Int32) → Q (0 : Int32) M) ∧ (¬ (gi M a0 2) < (60 : Int32) → Q (1 : Int32) M)
def wp_Fl_copyFrom (a0 : Nat) (a1 : Nat) (M : Mm) (Q : Mm → Prop) : Prop :=
  ∀ x5 : Int32, x5 = (gi M a1 0) → ∀ x13 : Int32, x13 = (gi (si M a0 0 x5) a1 1) → ∀ x21 : Int32, x21 = (gi (si (si M a0 0 x5) a0 1 x13) a1 2) → ∀ x29 : Int32, x29 = (gi (si (si (si M a0 0 x5) a0 1 x13) a0 2 x21) a1 3) → ∀ x37 : Int32, x37 = (gi (si (si (si (si M a0 0 x5) a0 1 x13) a0 2 x21) a0 3 x29) a1 4) → ∀ x45 : Int32, x45 = (gi (si (si (si (si (si M a0 0 x5) a0 1 x13) a0 2 x21) a0 3 x29) a0 4 x37) a1 5) → ∀ x53 : Int64, x53 = (gl (si (si (si (si (si (si M a0 0 x5) a0 1 x13) a0 2 x21) a0 3 x29) a0 4 x37) a0 5 x45) a1 6) → Q (sl (si (si (si (si (si (si M a0 0 x5) a0 1 x13) a0 2 x21) a0 3 x29) a0 4 x37) a0 5 x45) a0 6 x53)
def wp_St_noteDeed (a0 : Nat) (M : Mm) (Q : Mm → Prop) : Prop :=
  wp_St_isFull a0 M (fun (r1 : Int32) (M1 : Mm) => (¬ r1 = 0 → Q M1) ∧ (r1 = 0 → vp_in (gi M1 a0 2) 60 ∧ (wp_Fl_copyFrom ((a0 + 2) + 1 + tn (gi M1 a0 2)) (a0 + 1) M1 (fun (M20 : Mm) => ∀ x30 : Int32, x30 = ((gi M20 a0 2) + (1 : Int32)) → Q (si M20 a0 2 x30)))))
def wp_Fl_stampArm (a0 : Nat) (a1 : Nat) (a2 : Int32) (M : Mm) (Q : Mm → Prop) : Prop :=
  ∀ x9 : Int32, x9 = ((gi M a0 1) ^^^ ((1 : Int32) <<< (a2 &&& 31))) → wp_Fl_followerOf a0 a1 a2 (si M a0 1 x9) (fun (r15 : Int32) (M15 : Mm) => (r15 = (-9 : Int32) → Q M15) ∧ (¬ r15 = (-9 : Int32) → wp_B_hasBit (gi M15 a0 1) a2 M15 (fun (r36 : Int32) (M36 : Mm) => wp_B_withBit (gi M15 a0 1) r15 r36 M36 (fun (r39 : Int32) (M39 : Mm) => Q (si M39 a0 1 r39)))))
def wp_B_doStamp (a1 : Int32) (M : Mm) (Q : Mm → Prop) : Prop :=
  wp_St_noteDeed 60 M (fun (M4 : Mm) => wp_Fl_stampArm 61 20 a1 M4 (fun (M19 : Mm) => Q M19))
def wp_B_stamp (a1 : Int32) (M : Mm) (Q : Int32 → Mm → Prop) : Prop :=
  wp_Ch_hasArm 20 a1 M (fun (r5 : Int32) (M5 : Mm) => (¬ r5 = 0 → wp_Fl_mayBeStamped 61 20 a1 M5 (fun (r25 : Int32) (M25 : Mm) => (¬ r25 = 0 → wp_St_isFull 60 M25 (fun (r38 : Int32) (M38 : Mm) => (r38 = 0 → wp_B_doStamp a1 M38 (fun (M49 : Mm) => Q (gi M49 61 1) M49)) ∧ (¬ r38 = 0 → Q (-2 : Int32) M38))) ∧ (r25 = 0 → Q (-4 : Int32) M25))) ∧ (r5 = 0 → Q (-1 : Int32) M5))
def k_Ch_servedOf_70 (a0 : Nat) (a1 : Int32) (Q : Int32 → Mm → Prop)  (v2 : Int32) (M : Mm) : Prop :=
  vp_in v2 32 ∧ (Q (gi M (a0 + 7) (tn v2)) M)
def k_Ch_servedOf_55 (a0 : Nat) (a1 : Int32) (Q : Int32 → Mm → Prop) (KB : Int32 → Int32 → Int32 → Mm → Prop) (K63 : Int32 → Int32 → Mm → Prop) (v2 : Int32) (v4 : Int32) (s0 : Int32) (s1 : Int32) (M : Mm) : Prop :=
  ∀ x56 : Int32, x56 = (s1 ||| s0) → ∀ x57 : Int32, x57 = v4 + (1 : Int32) → KB v2 x56 x57 M
def k_Ch_servedOf_20 (a0 : Nat) (a1 : Int32) (Q : Int32 → Mm → Prop) (KB : Int32 → Int32 → Int32 → Mm → Prop) (K63 : Int32 → Int32 → Mm → Prop) (v2 : Int32) (v3 : Int32) (v4 : Int32) (M : Mm) : Prop :=
  ((gi M a0 7) ≤ v4 → K63 v2 v3 M) ∧ (¬ (gi M a0 7) ≤ v4 → wp_Ch_waterOf a0 v4 v2 M (fun (r34 : Int32) (M34 : Mm) => vp_in v4 5 ∧ ((r34 < (gi M34 (a0 + 3) (tn v4)) → k_Ch_servedOf_55 a0 a1 Q KB K63 v2 v4 (0 : Int32) v3 M34) ∧ (¬ r34 < (gi M34 (a0 + 3) (tn v4)) → k_Ch_servedOf_55 a0 a1 Q KB K63 v2 v4 ((1 : Int32) <<< (v4 &&& 31)) v3 M34))))
def lp_Ch_servedOf_20 (a0 : Nat) (a1 : Int32) (Q : Int32 → Mm → Prop) (K63 : Int32 → Int32 → Mm → Prop) : Nat → Int32 → Int32 → Int32 → Mm → Prop
  | 0 => fun _ _ _ _ => False
  | n + 1 => fun v2 v3 v4 M => k_Ch_servedOf_20 a0 a1 Q (lp_Ch_servedOf_20 a0 a1 Q K63 n) K63 v2 v3 v4 M
def wp_Ch_servedOf (a0 : Nat) (a1 : Int32) (M : Mm) (Q : Int32 → Mm → Prop) : Prop :=
  ∀ x4 : Int32, x4 = (a1 &&& (31 : Int32)) → vp_in x4 32 ∧ ((¬ (gi M (a0 + 7) (tn x4)) = (-1 : Int32) → k_Ch_servedOf_70 a0 a1 Q x4 M) ∧ ((gi M (a0 + 7) (tn x4)) = (-1 : Int32) → ∃ n : Nat, lp_Ch_servedOf_20 a0 a1 Q (fun (v2 : Int32) (v3 : Int32) (M : Mm) => vp_in v2 32 ∧ (k_Ch_servedOf_70 a0 a1 Q v2 (si M (a0 + 7) (tn v2) v3))) n x4 (0 : Int32) (0 : Int32) M))
def k_Fl_harvestable_42 (a0 : Nat) (a1 : Nat) (Q : Int32 → Mm → Prop) (KB : Int32 → Int32 → Mm → Prop) (v2 : Int32) (v3 : Int32) (M : Mm) : Prop :=
  ∀ x42 : Int32, x42 = v3 + (1 : Int32) → KB v2 x42 M
def k_Fl_harvestable_18 (a0 : Nat) (a1 : Nat) (Q : Int32 → Mm → Prop) (KB : Int32 → Int32 → Mm → Prop) (v2 : Int32) (v3 : Int32) (M : Mm) : Prop :=
  ((gi M a1 7) ≤ v3 → Q v2 M) ∧ (¬ (gi M a1 7) ≤ v3 → wp_Fl_saltOf a0 v3 M (fun (r28 : Int32) (M28 : Mm) => (r28 ≤ (4 : Int32) → k_Fl_harvestable_42 a0 a1 Q KB v2 v3 M28) ∧ (¬ r28 ≤ (4 : Int32) → wp_B_withBit v2 v3 (0 : Int32) M28 (fun (r38 : Int32) (M38 : Mm) => k_Fl_harvestable_42 a0 a1 Q KB r38 v3 M38))))
def lp_Fl_harvestable_18 (a0 : Nat) (a1 : Nat) (Q : Int32 → Mm → Prop)  : Nat → Int32 → Int32 → Mm → Prop
  | 0 => fun _ _ _ => False
  | n + 1 => fun v2 v3 M => k_Fl_harvestable_18 a0 a1 Q (lp_Fl_harvestable_18 a0 a1 Q n)  v2 v3 M
def wp_Fl_harvestable (a0 : Nat) (a1 : Nat) (M : Mm) (Q : Int32 → Mm → Prop) : Prop :=
  wp_Ch_servedOf a1 (gi M a0 1) M (fun (r5 : Int32) (M5 : Mm) => ∀ x15 : Int32, x15 = (r5 &&& ((gi M5 a0 3) ^^^ (-1 : Int32))) → ∃ n : Nat, lp_Fl_harvestable_18 a0 a1 Q n x15 (0 : Int32) M5)
def k_Fl_turnSalt_49 (a0 : Nat) (a1 : Nat) (a2 : Int32) (a3 : Int32) (Q : Mm → Prop)  (v4 : Int32) (M : Mm) : Prop :=
  ∀ x70 : Int32, x70 = (((gi M a0 4) &&& (((15 : Int32) <<< (((4 : Int32) * a2) &&& 31)) ^^^ (-1 : Int32))) ||| (v4 <<< (((4 : Int32) * a2) &&& 31))) → Q (si M a0 4 x70)
def k_Fl_turnSalt_43 (a0 : Nat) (a1 : Nat) (a2 : Int32) (a3 : Int32) (Q : Mm → Prop)  (s0 : Int32) (s1 : Int32) (s2 : Int32) (M : Mm) : Prop :=
  ∀ x47 : Int32, x47 = (if (s1 + s0) < s2 then (s1 + s0) else s2) → k_Fl_turnSalt_49 a0 a1 a2 a3 Q x47 M
def wp_Fl_turnSalt (a0 : Nat) (a1 : Nat) (a2 : Int32) (a3 : Int32) (M : Mm) (Q : Mm → Prop) : Prop :=
  wp_Fl_saltOf a0 a2 M (fun (r2 : Int32) (M2 : Mm) => (a3 = 0 → vp_in a2 5 ∧ ((¬ (gi M2 (a1 + 1) (tn a2)) = (1 : Int32) → k_Fl_turnSalt_43 a0 a1 a2 a3 Q (1 : Int32) r2 (9 : Int32) M2) ∧ ((gi M2 (a1 + 1) (tn a2)) = (1 : Int32) → k_Fl_turnSalt_43 a0 a1 a2 a3 Q (2 : Int32) r2 (9 : Int32) M2))) ∧ (¬ a3 = 0 → ∀ x19 : Int32, x19 = (if (0 : Int32) < (r2 - (1 : Int32)) then (r2 - (1 : Int32)) else (0 : Int32)) → k_Fl_turnSalt_49 a0 a1 a2 a3 Q x19 M2))
def wp_Fl_dropBarge (a0 : Nat) (a1 : Int32) (M : Mm) (Q : Mm → Prop) : Prop :=
  wp_B_withBit (gi M a0 2) a1 (0 : Int32) M (fun (r7 : Int32) (M7 : Mm) => wp_B_withBit (gi (si M7 a0 2 r7) a0 1) a1 (0 : Int32) (si M7 a0 2 r7) (fun (r20 : Int32) (M20 : Mm) => Q (si M20 a0 1 r20)))
def k_Fl_turnSilt_50 (a0 : Nat) (a1 : Nat) (a2 : Int32) (Q : Mm → Prop)  (v3 : Int32) (M : Mm) : Prop :=
  ∀ x70 : Int32, x70 = (((gi M a0 5) &&& (((15 : Int32) <<< (((4 : Int32) * a2) &&& 31)) ^^^ (-1 : Int32))) ||| (v3 <<< (((4 : Int32) * a2) &&& 31))) → (v3 < (9 : Int32) → Q (si M a0 5 x70)) ∧ (¬ v3 < (9 : Int32) → ∀ x88 : Int32, x88 = ((gi (si M a0 5 x70) a0 3) ||| ((1 : Int32) <<< (a2 &&& 31))) → wp_Fl_dropBarge a0 a2 (si (si M a0 5 x70) a0 3 x88) (fun (M93 : Mm) => Q M93))
def k_Fl_turnSilt_45 (a0 : Nat) (a1 : Nat) (a2 : Int32) (Q : Mm → Prop)  (s0 : Int32) (s1 : Int32) (s2 : Int32) (M : Mm) : Prop :=
  ∀ x49 : Int32, x49 = (if (s1 + s0) < s2 then (s1 + s0) else s2) → k_Fl_turnSilt_50 a0 a1 a2 Q x49 M
def wp_Fl_turnSilt (a0 : Nat) (a1 : Nat) (a2 : Int32) (M : Mm) (Q : Mm → Prop) : Prop :=
  wp_Fl_siltOf a0 a2 M (fun (r2 : Int32) (M2 : Mm) => wp_B_hasBit (gi M2 a0 1) a2 M2 (fun (r11 : Int32) (M11 : Mm) => (r11 = 0 → wp_Ch_isOf a1 a2 (2 : Int32) M11 (fun (r34 : Int32) (M34 : Mm) => (r34 = 0 → k_Fl_turnSilt_45 a0 a1 a2 Q (1 : Int32) r2 (9 : Int32) M34) ∧ (¬ r34 = 0 → k_Fl_turnSilt_45 a0 a1 a2 Q (2 : Int32) r2 (9 : Int32) M34))) ∧ (¬ r11 = 0 → ∀ x24 : Int32, x24 = (if (0 : Int32) < (r2 - (1 : Int32)) then (r2 - (1 : Int32)) else (0 : Int32)) → k_Fl_turnSilt_50 a0 a1 a2 Q x24 M11)))
def k_Fl_goBy_18 (a0 : Nat) (a1 : Nat) (Q : Int32 → Mm → Prop) (KB : Int32 → Int32 → Int32 → Mm → Prop) (K75 : Int32 → Mm → Prop) (v2 : Int32) (v3 : Int32) (v4 : Int32) (M : Mm) : Prop :=
  ((gi M a1 7) ≤ v4 → K75 v2 M) ∧ (¬ (gi M a1 7) ≤ v4 → ∀ x46 : Int64, x46 = ((gl M a0 6) + (((v2 >>> (v4 &&& 31)) &&& (1 : Int32)).toInt64 <<< (((8 : Int32) * v4).toInt64 &&& 63))) → wp_B_hasBit v3 v4 (sl M a0 6 x46) (fun (r56 : Int32) (M56 : Mm) => wp_Fl_turnSalt a0 a1 v4 r56 M56 (fun (M59 : Mm) => wp_Fl_turnSilt a0 a1 v4 M59 (fun (M66 : Mm) => ∀ x69 : Int32, x69 = v4 + (1 : Int32) → KB v2 v3 x69 M66))))
def lp_Fl_goBy_18 (a0 : Nat) (a1 : Nat) (Q : Int32 → Mm → Prop) (K75 : Int32 → Mm → Prop) : Nat → Int32 → Int32 → Int32 → Mm → Prop
  | 0 => fun _ _ _ _ => False
  | n + 1 => fun v2 v3 v4 M => k_Fl_goBy_18 a0 a1 Q (lp_Fl_goBy_18 a0 a1 Q K75 n) K75 v2 v3 v4 M
def wp_Fl_goBy (a0 : Nat) (a1 : Nat) (M : Mm) (Q : Int32 → Mm → Prop) : Prop :=
  wp_Fl_harvestable a0 a1 M (fun (r2 : Int32) (M2 : Mm) => wp_Ch_servedOf a1 (gi M2 a0 1) M2 (fun (r11 : Int32) (M11 : Mm) => ∃ n : Nat, lp_Fl_goBy_18 a0 a1 Q (fun (v2 : Int32) (M : Mm) => ∀ x82 : Int32, x82 = ((gi M a0 0) + (1 : Int32)) → Q v2 (si M a0 0 x82)) n r2 r11 (0 : Int32) M11))
def wp_B_doSeason  (M : Mm) (Q : Int32 → Mm → Prop) : Prop :=
  wp_St_noteDeed 60 M (fun (M4 : Mm) => wp_Fl_goBy 61 20 M4 (fun (r18 : Int32) (M18 : Mm) => Q r18 M18))
def wp_B_season  (M : Mm) (Q : Int32 → Mm → Prop) : Prop :=
  (¬ (gi M 20 7) = 0 → wp_St_isFull 60 M (fun (r17 : Int32) (M17 : Mm) => (r17 = 0 → wp_B_doSeason M17 (fun (r28 : Int32) (M28 : Mm) => wp_J_bitCount (gi (si M28 0 13 r28) 0 13) (si M28 0 13 r28) (fun (r38 : Int32) (M38 : Mm) => Q r38 M38))) ∧ (¬ r17 = 0 → Q (-2 : Int32) M17))) ∧ ((gi M 20 7) = 0 → Q (-4 : Int32) M)
def wp_B_leave (a1 : Int32) (M : Mm) (Q : Int32 → Mm → Prop) : Prop :=
  wp_Ch_hasArm 20 a1 M (fun (r5 : Int32) (M5 : Mm) => (¬ r5 = 0 → wp_B_hasBit (gi M5 61 2) a1 M5 (fun (r24 : Int32) (M24 : Mm) => (¬ r24 = 0 → wp_St_isFull 60 M24 (fun (r37 : Int32) (M37 : Mm) => (r37 = 0 → wp_St_noteDeed 60 M37 (fun (M50 : Mm) => wp_Fl_dropBarge 61 a1 M50 (fun (M61 : Mm) => Q (1 : Int32) M61))) ∧ (¬ r37 = 0 → Q (-2 : Int32) M37))) ∧ (r24 = 0 → Q (-4 : Int32) M24))) ∧ (r5 = 0 → Q (-1 : Int32) M5))
def wp_St_goBackTo (a0 : Nat) (a1 : Int32) (M : Mm) (Q : Mm → Prop) : Prop :=
  (a1 < 0 → Q M) ∧ (¬ a1 < 0 → ((gi M a0 2) ≤ a1 → Q M) ∧ (¬ (gi M a0 2) ≤ a1 → vp_in a1 60 ∧ (wp_Fl_copyFrom (a0 + 1) ((a0 + 2) + 1 + tn a1) M (fun (M22 : Mm) => Q (si M22 a0 2 a1)))))
def wp_B_undo (a1 : Int32) (M : Mm) (Q : Int32 → Mm → Prop) : Prop :=
  (a1 < 0 → Q (-1 : Int32) M) ∧ (¬ a1 < 0 → (a1 ≤ (gi M 60 2) → ∀ x26 : Int32, x26 = ((gi M 60 2) - a1) → wp_St_goBackTo 60 a1 M (fun (M32 : Mm) => Q x26 M32)) ∧ (¬ a1 ≤ (gi M 60 2) → Q (-1 : Int32) M))
def wp_B_now  (M : Mm) (Q : Int32 → Mm → Prop) : Prop :=
  (¬ (gi M 20 7) = 0 → ∀ x24 : Int32, x24 = (gi M 61 1) → Q (gi (si M 0 13 x24) 61 0) (si M 0 13 x24)) ∧ ((gi M 20 7) = 0 → Q (-4 : Int32) M)
def wp_B_water (a1 : Int32) (M : Mm) (Q : Int32 → Mm → Prop) : Prop :=
  wp_Ch_hasArm 20 a1 M (fun (r5 : Int32) (M5 : Mm) => (r5 = 0 → Q (-1 : Int32) M5) ∧ (¬ r5 = 0 → wp_Ch_waterOf 20 a1 (gi M5 61 1) M5 (fun (r26 : Int32) (M26 : Mm) => Q r26 M26)))
def k_St_copyFrom_21 (a0 : Nat) (a1 : Nat) (Q : Mm → Prop) (KB : Int32 → Mm → Prop) (v2 : Int32) (M : Mm) : Prop :=
  ((gi M a0 2) ≤ v2 → Q M) ∧ (¬ (gi M a0 2) ≤ v2 → vp_in v2 60 ∧ (vp_in v2 60 ∧ (wp_Fl_copyFrom ((a0 + 2) + 1 + tn v2) ((a1 + 2) + 1 + tn v2) M (fun (M41 : Mm) => ∀ x44 : Int32, x44 = v2 + (1 : Int32) → KB x44 M41))))
def lp_St_copyFrom_21 (a0 : Nat) (a1 : Nat) (Q : Mm → Prop)  : Nat → Int32 → Mm → Prop
  | 0 => fun _ _ => False
  | n + 1 => fun v2 M => k_St_copyFrom_21 a0 a1 Q (lp_St_copyFrom_21 a0 a1 Q n)  v2 M
def wp_St_copyFrom (a0 : Nat) (a1 : Nat) (M : Mm) (Q : Mm → Prop) : Prop :=
  wp_Fl_copyFrom (a0 + 1) (a1 + 1) M (fun (M8 : Mm) => ∀ x16 : Int32, x16 = (gi M8 a1 2) → ∃ n : Nat, lp_St_copyFrom_21 a0 a1 Q n (0 : Int32) (si M8 a0 2 x16))
def wp_B_keep (a1 : Int32) (M : Mm) (Q : Int32 → Mm → Prop) : Prop :=
  (a1 < 0 → Q (-1 : Int32) M) ∧ (¬ a1 < 0 → (a1 < (3 : Int32) → (¬ (gi M 20 7) = 0 → vp_in a1 3 ∧ (wp_St_copyFrom (stOf (54 + 2 * tn a1)) 60 M (fun (M37 : Mm) => vp_in a1 3 ∧ ((¬ (0 : Int32) < 0) ∧ ((¬ (0 : Int32) < 0) ∧ ((¬ (5 : Int32) < 0) ∧ ((tn (0 : Int32) + tn (5 : Int32) ≤ 5) ∧ ((tn (0 : Int32) + tn (5 : Int32) ≤ 5) ∧ (vp_in a1 3 ∧ (Q (gi (si (cpi M37 23 ((54 + 2 * tn a1) + 1) (tn (0 : Int32)) (tn (0 : Int32)) (tn (5 : Int32))) (54 + 2 * tn a1) 2 (1 : Int32)) 60 2) (si (cpi M37 23 ((54 + 2 * tn a1) + 1) (tn (0 : Int32)) (tn (0 : Int32)) (tn (5 : Int32))) (54 + 2 * tn a1) 2 (1 : Int32)))))))))))) ∧ ((gi M 20 7) = 0 → Q (-4 : Int32) M)) ∧ (¬ a1 < (3 : Int32) → Q (-1 : Int32) M))
def wp_B_on (a1 : Int32) (M : Mm) (Q : Int32 → Mm → Prop) : Prop :=
  (a1 < 0 → Q (-1 : Int32) M) ∧ (¬ a1 < 0 → (a1 < (3 : Int32) → vp_in a1 3 ∧ ((¬ (gi M (54 + 2 * tn a1) 2) = 0 → vp_in a1 3 ∧ (wp_St_copyFrom 60 (stOf (54 + 2 * tn a1)) M (fun (M42 : Mm) => vp_in a1 3 ∧ ((¬ (0 : Int32) < 0) ∧ ((¬ (0 : Int32) < 0) ∧ ((¬ (5 : Int32) < 0) ∧ ((tn (0 : Int32) + tn (5 : Int32) ≤ 5) ∧ ((tn (0 : Int32) + tn (5 : Int32) ≤ 5) ∧ (wp_Ch_forgetServed 20 (cpi M42 ((54 + 2 * tn a1) + 1) 23 (tn (0 : Int32)) (tn (0 : Int32)) (tn (5 : Int32))) (fun (M71 : Mm) => Q (gi M71 60 2) M71)))))))))) ∧ ((gi M (54 + 2 * tn a1) 2) = 0 → wp_B_answerFinding (1 : Int32) M (fun (r25 : Int32) (M25 : Mm) => Q r25 M25)))) ∧ (¬ a1 < (3 : Int32) → Q (-1 : Int32) M))
def wp_B_deltaRowRefusal (a1 : Int32) (M : Mm) (Q : Int32 → Mm → Prop) : Prop :=
  wp_Sh_knows 4 a1 M (fun (r5 : Int32) (M5 : Mm) => (¬ r5 = 0 → (¬ (gi M5 20 7) = 0 → wp_B_shelfRefusal 4 a1 M5 (fun (r34 : Int32) (M34 : Mm) => Q r34 M34)) ∧ ((gi M5 20 7) = 0 → Q (-4 : Int32) M5)) ∧ (r5 = 0 → Q (-1 : Int32) M5))
def wp_Ch_sets (a0 : Nat) (M : Mm) (Q : Int32 → Mm → Prop) : Prop :=
  Q ((1 : Int32) <<< ((gi M a0 7) &&& 31)) M
def k_B_isPlan_2 (a1 : Int32) (Q : Int32 → Mm → Prop) (KB : Int32 → Mm → Prop) (v2 : Int32) (M : Mm) : Prop :=
  wp_Sh_sizeOf 4 a1 M (fun (r8 : Int32) (M8 : Mm) => (r8 ≤ v2 → Q (1 : Int32) M8) ∧ (¬ r8 ≤ v2 → wp_Sh_valueAt 4 a1 v2 M8 (fun (r20 : Int32) (M20 : Mm) => (r20 < 0 → Q (0 : Int32) M20) ∧ (¬ r20 < 0 → wp_Ch_sets 20 M20 (fun (r33 : Int32) (M33 : Mm) => (r20 < r33 → ∀ x41 : Int32, x41 = v2 + (1 : Int32) → KB x41 M33) ∧ (¬ r20 < r33 → Q (0 : Int32) M33))))))
def lp_B_isPlan_2 (a1 : Int32) (Q : Int32 → Mm → Prop)  : Nat → Int32 → Mm → Prop
  | 0 => fun _ _ => False
  | n + 1 => fun v2 M => k_B_isPlan_2 a1 Q (lp_B_isPlan_2 a1 Q n)  v2 M
def wp_B_isPlan (a1 : Int32) (M : Mm) (Q : Int32 → Mm → Prop) : Prop :=
  ∃ n : Nat, lp_B_isPlan_2 a1 Q n (0 : Int32) M
def k_Fl_stampSet_47 (a0 : Nat) (a1 : Nat) (a2 : Int32) (Q : Int32 → Mm → Prop) (KB : Int32 → Int32 → Mm → Prop) (v3 : Int32) (v4 : Int32) (M : Mm) : Prop :=
  ∀ x47 : Int32, x47 = v4 + (1 : Int32) → KB v3 x47 M
def k_Fl_stampSet_5 (a0 : Nat) (a1 : Nat) (a2 : Int32) (Q : Int32 → Mm → Prop) (KB : Int32 → Int32 → Mm → Prop) (v3 : Int32) (v4 : Int32) (M : Mm) : Prop :=
  ((gi M a1 7) ≤ v4 → Q v3 M) ∧ (¬ (gi M a1 7) ≤ v4 → wp_B_hasBit a2 v4 M (fun (r17 : Int32) (M17 : Mm) => (r17 = 0 → k_Fl_stampSet_47 a0 a1 a2 Q KB v3 v4 M17) ∧ (¬ r17 = 0 → wp_Fl_mayBeStamped a0 a1 v4 M17 (fun (r27 : Int32) (M27 : Mm) => (r27 = 0 → k_Fl_stampSet_47 a0 a1 a2 Q KB v3 v4 M27) ∧ (¬ r27 = 0 → wp_Fl_stampArm a0 a1 v4 M27 (fun (M37 : Mm) => ∀ x46 : Int32, x46 = (v3 ||| ((1 : Int32) <<< (v4 &&& 31))) → k_Fl_stampSet_47 a0 a1 a2 Q KB x46 v4 M37))))))
def lp_Fl_stampSet_5 (a0 : Nat) (a1 : Nat) (a2 : Int32) (Q : Int32 → Mm → Prop)  : Nat → Int32 → Int32 → Mm → Prop
  | 0 => fun _ _ _ => False
  | n + 1 => fun v3 v4 M => k_Fl_stampSet_5 a0 a1 a2 Q (lp_Fl_stampSet_5 a0 a1 a2 Q n)  v3 v4 M
def wp_Fl_stampSet (a0 : Nat) (a1 : Nat) (a2 : Int32) (M : Mm) (Q : Int32 → Mm → Prop) : Prop :=
  ∃ n : Nat, lp_Fl_stampSet_5 a0 a1 a2 Q n (0 : Int32) (0 : Int32) M
def k_B_run_67 (a1 : Int32) (Q : Int32 → Mm → Prop) (KB : Int32 → Int32 → Int32 → Mm → Prop) (v3 : Int32) (v4 : Int32) (v5 : Int32) (M : Mm) : Prop :=
  wp_Sh_sizeOf 4 a1 M (fun (r74 : Int32) (M74 : Mm) => (r74 ≤ v5 → Q v3 (si M74 0 13 v4)) ∧ (¬ r74 ≤ v5 → wp_Sh_valueAt 4 a1 v5 M74 (fun (r97 : Int32) (M97 : Mm) => wp_Fl_stampSet 3 20 r97 M97 (fun (r100 : Int32) (M100 : Mm) => wp_J_bitCount r100 M100 (fun (r103 : Int32) (M103 : Mm) => ∀ x107 : Int32, x107 = (v4 + r103) → wp_Fl_goBy 3 20 M103 (fun (r118 : Int32) (M118 : Mm) => wp_J_bitCount r118 M118 (fun (r121 : Int32) (M121 : Mm) => ∀ x125 : Int32, x125 = (v3 + r121) → ∀ x126 : Int32, x126 = v5 + (1 : Int32) → KB x125 x107 x126 M121)))))))
def lp_B_run_67 (a1 : Int32) (Q : Int32 → Mm → Prop)  : Nat → Int32 → Int32 → Int32 → Mm → Prop
  | 0 => fun _ _ _ _ => False
  | n + 1 => fun v3 v4 v5 M => k_B_run_67 a1 Q (lp_B_run_67 a1 Q n)  v3 v4 v5 M
def wp_B_run (a1 : Int32) (M : Mm) (Q : Int32 → Mm → Prop) : Prop :=
  wp_B_deltaRowRefusal a1 M (fun (r2 : Int32) (M2 : Mm) => (r2 = 0 → wp_Sh_sizeOf 4 a1 M2 (fun (r17 : Int32) (M17 : Mm) => (r17 ≤ (12 : Int32) → wp_B_isPlan a1 M17 (fun (r33 : Int32) (M33 : Mm) => (¬ r33 = 0 → wp_Fl_copyFrom 3 61 M33 (fun (M56 : Mm) => ∃ n : Nat, lp_B_run_67 a1 Q n (0 : Int32) (0 : Int32) (0 : Int32) M56)) ∧ (r33 = 0 → wp_B_answerFinding (3 : Int32) M33 (fun (r41 : Int32) (M41 : Mm) => Q r41 M41)))) ∧ (¬ r17 ≤ (12 : Int32) → wp_B_answerFinding (5 : Int32) M17 (fun (r27 : Int32) (M27 : Mm) => Q r27 M27)))) ∧ (¬ r2 = 0 → Q r2 M2))
def k_Pl_mostServed_48  (Q : Int32 → Mm → Prop) (KB : Int32 → Int32 → Mm → Prop) (v1 : Int32) (v2 : Int32) (s0 : Int32) (M : Mm) : Prop :=
  ∀ x56 : Int32, x56 = (if v1 < s0 then s0 else v1) → ∀ x57 : Int32, x57 = v2 + (1 : Int32) → KB x56 x57 M
def k_Pl_mostServed_4  (Q : Int32 → Mm → Prop) (KB : Int32 → Int32 → Mm → Prop) (v1 : Int32) (v2 : Int32) (M : Mm) : Prop :=
  wp_Ch_sets 20 M (fun (r9 : Int32) (M9 : Mm) => (r9 ≤ v2 → Q v1 M9) ∧ (¬ r9 ≤ v2 → wp_Ch_servedOf 20 v2 M9 (fun (r20 : Int32) (M20 : Mm) => (¬ (gi M20 40 7) = (-9 : Int32) → k_Pl_mostServed_48 Q KB v1 v2 ((r20 >>> ((gi M20 40 7) &&& 31)) &&& (1 : Int32)) M20) ∧ ((gi M20 40 7) = (-9 : Int32) → wp_J_bitCount r20 M20 (fun (r34 : Int32) (M34 : Mm) => k_Pl_mostServed_48 Q KB v1 v2 r34 M34)))))
def lp_Pl_mostServed_4  (Q : Int32 → Mm → Prop)  : Nat → Int32 → Int32 → Mm → Prop
  | 0 => fun _ _ _ => False
  | n + 1 => fun v1 v2 M => k_Pl_mostServed_4  Q (lp_Pl_mostServed_4 Q n)  v1 v2 M
def wp_Pl_mostServed  (M : Mm) (Q : Int32 → Mm → Prop) : Prop :=
  ∃ n : Nat, lp_Pl_mostServed_4 Q n (0 : Int32) (0 : Int32) M
def k_Pl_canWin_24 (a1 : Int32) (a2 : Int32) (Q : Int32 → Mm → Prop)   (M : Mm) : Prop :=
  Q (1 : Int32) M
def wp_Pl_canWin (a1 : Int32) (a2 : Int32) (M : Mm) (Q : Int32 → Mm → Prop) : Prop :=
  ((gi M 40 1) < a1 → k_Pl_canWin_24 a1 a2 Q M) ∧ (¬ (gi M 40 1) < a1 → (¬ a1 = (gi M 40 1) → Q (0 : Int32) M) ∧ (a1 = (gi M 40 1) → ((gi M 40 2) ≤ a2 → Q (0 : Int32) M) ∧ (¬ (gi M 40 2) ≤ a2 → k_Pl_canWin_24 a1 a2 Q M)))
def wp_Pl_judge (a1 : Int32) (a2 : Int32) (M : Mm) (Q : Mm → Prop) : Prop :=
  wp_Pl_canWin a1 a2 M (fun (r3 : Int32) (M3 : Mm) => (r3 = 0 → Q M3) ∧ (¬ r3 = 0 → (¬ (0 : Int32) < 0) ∧ ((¬ (0 : Int32) < 0) ∧ ((¬ (3 : Int32) < 0) ∧ ((tn (0 : Int32) + tn (3 : Int32) ≤ 3) ∧ ((tn (0 : Int32) + tn (3 : Int32) ≤ 3) ∧ (Q (cpi (si (si M3 40 1 a1) 40 2 a2) 42 41 (tn (0 : Int32)) (tn (0 : Int32)) (tn (3 : Int32))))))))))
def wp_Pl_worthOf (a1 : Int32) (a2 : Int32) (M : Mm) (Q : Int32 → Mm → Prop) : Prop :=
  (¬ (gi M 40 7) = (-9 : Int32) → (¬ a2 = ((gi M 40 6) - (1 : Int32)) → Q (0 : Int32) M) ∧ (a2 = ((gi M 40 6) - (1 : Int32)) → wp_B_hasBit a1 (gi M 40 7) M (fun (r29 : Int32) (M29 : Mm) => (r29 = 0 → Q (0 : Int32) M29) ∧ (¬ r29 = 0 → Q (1 : Int32) M29)))) ∧ ((gi M 40 7) = (-9 : Int32) → wp_J_bitCount a1 M (fun (r10 : Int32) (M10 : Mm) => Q r10 M10))
def wp_Pl_hopeOf (a1 : Nat) (a2 : Int32) (M : Mm) (Q : Int32 → Mm → Prop) : Prop :=
  ∀ x6 : Int32, x6 = ((gi M 40 6) - a2) → (¬ (gi M 40 7) = (-9 : Int32) → (x6 ≤ 0 → Q (0 : Int32) M) ∧ (¬ x6 ≤ 0 → wp_B_hasBit (gi M a1 3) (gi M 40 7) M (fun (r57 : Int32) (M57 : Mm) => (¬ r57 = 0 → Q (0 : Int32) M57) ∧ (r57 = 0 → Q (gi M57 40 8) M57)))) ∧ ((gi M 40 7) = (-9 : Int32) → wp_J_bitCount (gi M a1 3) M (fun (r27 : Int32) (M27 : Mm) => ∀ x31 : Int32, x31 = ((gi M 20 7) - r27) → Q (x6 * (if (gi M27 40 8) < x31 then (gi M27 40 8) else x31)) M27))
def k_Pl_search_147 (RC : Int32 → Int32 → Int32 → Mm → (Mm → Prop) → Prop) (a1 : Int32) (a2 : Int32) (a3 : Int32) (Q : Mm → Prop) (KB : Int32 → Mm → Prop) (v5 : Int32) (M : Mm) : Prop :=
  ∀ x147 : Int32, x147 = v5 + (1 : Int32) → KB x147 M
def k_Pl_search_28 (RC : Int32 → Int32 → Int32 → Mm → (Mm → Prop) → Prop) (a1 : Int32) (a2 : Int32) (a3 : Int32) (Q : Mm → Prop) (KB : Int32 → Mm → Prop) (v5 : Int32) (M : Mm) : Prop :=
  wp_Ch_sets 20 M (fun (r34 : Int32) (M34 : Mm) => (r34 ≤ v5 → Q M34) ∧ (¬ r34 ≤ v5 → vp_in a1 4 ∧ (wp_Fl_copyFrom (43 + 1 + tn (a1 + (1 : Int32))) (43 + 1 + tn a1) M34 (fun (M48 : Mm) => wp_Fl_stampSet (43 + 1 + tn (a1 + (1 : Int32))) 20 v5 M48 (fun (r59 : Int32) (M59 : Mm) => (r59 = v5 → wp_Fl_harvestable (43 + 1 + tn (a1 + (1 : Int32))) 20 M59 (fun (r78 : Int32) (M78 : Mm) => wp_Pl_worthOf r78 a1 M78 (fun (r82 : Int32) (M82 : Mm) => ∀ x86 : Int32, x86 = (a2 + r82) → wp_J_bitCount v5 M82 (fun (r91 : Int32) (M91 : Mm) => ∀ x95 : Int32, x95 = (a3 + r91) → wp_Pl_hopeOf (43 + 1 + tn (a1 + (1 : Int32))) (a1 + (1 : Int32)) M91 (fun (r106 : Int32) (M106 : Mm) => wp_Pl_canWin (x86 + r106) x95 M106 (fun (r112 : Int32) (M112 : Mm) => (r112 = 0 → k_Pl_search_147 RC a1 a2 a3 Q KB v5 M112) ∧ (¬ r112 = 0 → wp_Fl_goBy (43 + 1 + tn (a1 + (1 : Int32))) 20 M112 (fun (r124 : Int32) (M124 : Mm) => vp_in a1 3 ∧ (RC (a1 + (1 : Int32)) x86 x95 (si M124 42 (tn a1) v5) (fun (M144 : Mm) => k_Pl_search_147 RC a1 a2 a3 Q KB v5 M144)))))))))) ∧ (¬ r59 = v5 → k_Pl_search_147 RC a1 a2 a3 Q KB v5 M59))))))
def lp_Pl_search_28 (RC : Int32 → Int32 → Int32 → Mm → (Mm → Prop) → Prop) (a1 : Int32) (a2 : Int32) (a3 : Int32) (Q : Mm → Prop)  : Nat → Int32 → Mm → Prop
  | 0 => fun _ _ => False
  | n + 1 => fun v5 M => k_Pl_search_28 RC a1 a2 a3 Q (lp_Pl_search_28 RC a1 a2 a3 Q n)  v5 M
def wpB_Pl_search (RC : Int32 → Int32 → Int32 → Mm → (Mm → Prop) → Prop) (a1 : Int32) (a2 : Int32) (a3 : Int32) (M : Mm) (Q : Mm → Prop) : Prop :=
  (a1 < (gi M 40 6) → vp_in (a1 + (1 : Int32)) 4 ∧ (∃ n : Nat, lp_Pl_search_28 RC a1 a2 a3 Q n (0 : Int32) M)) ∧ (¬ a1 < (gi M 40 6) → wp_Pl_judge a2 a3 M (fun (M11 : Mm) => Q M11))
def wp_Pl_search : Nat → Int32 → Int32 → Int32 → Mm → (Mm → Prop) → Prop
  | 0 => fun _ _ _ _ _ => False
  | n + 1 => fun a1 a2 a3 M Q => wpB_Pl_search (wp_Pl_search n) a1 a2 a3 M Q
def k_Pl_seek_26 (a1 : Nat) (a2 : Int32) (a3 : Int32) (Q : Mm → Prop)  (s0 : Int32) (M : Mm) : Prop :=
  wp_Pl_mostServed (si (si M 40 1 s0) 40 2 (0 : Int32)) (fun (r36 : Int32) (M36 : Mm) => vp_in (0 : Int32) 4 ∧ (wp_Fl_copyFrom (43 + 1 + tn (0 : Int32)) a1 (si M36 40 8 r36) (fun (M49 : Mm) => wp_Pl_search 8 (0 : Int32) (0 : Int32) (0 : Int32) M49 (fun (M56 : Mm) => Q M56))))
def wp_Pl_seek (a1 : Nat) (a2 : Int32) (a3 : Int32) (M : Mm) (Q : Mm → Prop) : Prop :=
  ∀ x6 : Int32, x6 = (if (3 : Int32) < a2 then (3 : Int32) else a2) → (¬ a3 = (-9 : Int32) → k_Pl_seek_26 a1 a2 a3 Q (0 : Int32) (si (si M 40 6 x6) 40 7 a3)) ∧ (a3 = (-9 : Int32) → k_Pl_seek_26 a1 a2 a3 Q (-1 : Int32) (si (si M 40 6 x6) 40 7 a3))
def k_B_takePlan_12 (a1 : Int32) (a2 : Int32) (Q : Mm → Prop) (KB : Int32 → Mm → Prop) (v3 : Int32) (M : Mm) : Prop :=
  (a1 ≤ v3 → Q M) ∧ (¬ a1 ≤ v3 → vp_in v3 3 ∧ (wp_Sh_setValue 4 a2 v3 (gi M 41 (tn v3)) M (fun (M32 : Mm) => ∀ x35 : Int32, x35 = v3 + (1 : Int32) → KB x35 M32)))
def lp_B_takePlan_12 (a1 : Int32) (a2 : Int32) (Q : Mm → Prop)  : Nat → Int32 → Mm → Prop
  | 0 => fun _ _ => False
  | n + 1 => fun v3 M => k_B_takePlan_12 a1 a2 Q (lp_B_takePlan_12 a1 a2 Q n)  v3 M
def wp_B_takePlan (a1 : Int32) (a2 : Int32) (M : Mm) (Q : Mm → Prop) : Prop :=
  wp_Sh_make 4 a2 a1 (0 : Int32) M (fun (M7 : Mm) => ∃ n : Nat, lp_B_takePlan_12 a1 a2 Q n (0 : Int32) M7)
def wp_B_best (a1 : Int32) (a2 : Int32) (M : Mm) (Q : Int32 → Mm → Prop) : Prop :=
  (a1 < 0 → Q (-1 : Int32) M) ∧ (¬ a1 < 0 → ((3 : Int32) < a1 → Q (-1 : Int32) M) ∧ (¬ (3 : Int32) < a1 → wp_Sh_knows 4 a2 M (fun (r14 : Int32) (M14 : Mm) => (¬ r14 = 0 → (¬ (gi M14 20 7) = 0 → wp_Pl_seek 61 a1 (-9 : Int32) M14 (fun (M49 : Mm) => wp_B_takePlan a1 a2 M49 (fun (M55 : Mm) => ∀ x66 : Int32, x66 = (gi M55 40 2) → Q (gi (si M55 0 13 x66) 40 1) (si M55 0 13 x66)))) ∧ ((gi M14 20 7) = 0 → Q (-4 : Int32) M14)) ∧ (r14 = 0 → Q (-1 : Int32) M14))))
def wp_B_fewest (a1 : Int32) (a2 : Int32) (a3 : Int32) (M : Mm) (Q : Int32 → Mm → Prop) : Prop :=
  wp_Ch_hasArm 20 a1 M (fun (r5 : Int32) (M5 : Mm) => (r5 = 0 → Q (-1 : Int32) M5) ∧ (¬ r5 = 0 → (a2 < 0 → Q (-1 : Int32) M5) ∧ (¬ a2 < 0 → ((3 : Int32) < a2 → Q (-1 : Int32) M5) ∧ (¬ (3 : Int32) < a2 → wp_Sh_knows 4 a3 M5 (fun (r25 : Int32) (M25 : Mm) => (¬ r25 = 0 → wp_Pl_seek 61 a2 a1 M25 (fun (M46 : Mm) => (0 < (gi M46 40 1) → wp_B_takePlan a2 a3 M46 (fun (M65 : Mm) => Q (gi M65 40 2) M65)) ∧ (¬ 0 < (gi M46 40 1) → Q (-9 : Int32) M46))) ∧ (r25 = 0 → Q (-1 : Int32) M25))))))
def k_B_firstOf_2 (a0 : Int32) (Q : Int32 → Mm → Prop) (KB : Int32 → Mm → Prop) (v1 : Int32) (M : Mm) : Prop :=
  ((5 : Int32) ≤ v1 → Q v1 M) ∧ (¬ (5 : Int32) ≤ v1 → wp_B_hasBit a0 v1 M (fun (r9 : Int32) (M9 : Mm) => (¬ r9 = 0 → Q v1 M9) ∧ (r9 = 0 → ∀ x15 : Int32, x15 = v1 + (1 : Int32) → KB x15 M9)))
def lp_B_firstOf_2 (a0 : Int32) (Q : Int32 → Mm → Prop)  : Nat → Int32 → Mm → Prop
  | 0 => fun _ _ => False
  | n + 1 => fun v1 M => k_B_firstOf_2 a0 Q (lp_B_firstOf_2 a0 Q n)  v1 M
def wp_B_firstOf (a0 : Int32) (M : Mm) (Q : Int32 → Mm → Prop) : Prop :=
  ∃ n : Nat, lp_B_firstOf_2 a0 Q n (0 : Int32) M
def k_B_dies_29  (Q : Int32 → Mm → Prop) (KB : Int32 → Mm → Prop) (K71 : Int32 → Int32 → Mm → Prop) (v1 : Int32) (M : Mm) : Prop :=
  ((40 : Int32) < v1 → Q (-9 : Int32) M) ∧ (¬ (40 : Int32) < v1 → ∀ x42 : Int32, x42 = (gi M 3 3) → wp_Fl_goBy 3 20 M (fun (r51 : Int32) (M51 : Mm) => ∀ x66 : Int32, x66 = ((gi M51 3 3) &&& (x42 ^^^ (-1 : Int32))) → (x66 = 0 → ∀ x81 : Int32, x81 = v1 + (1 : Int32) → KB x81 M51) ∧ (¬ x66 = 0 → K71 v1 x66 M51)))
def lp_B_dies_29  (Q : Int32 → Mm → Prop) (K71 : Int32 → Int32 → Mm → Prop) : Nat → Int32 → Mm → Prop
  | 0 => fun _ _ => False
  | n + 1 => fun v1 M => k_B_dies_29  Q (lp_B_dies_29 Q K71 n) K71 v1 M
def wp_B_dies  (M : Mm) (Q : Int32 → Mm → Prop) : Prop :=
  (¬ (gi M 20 7) = 0 → wp_Fl_copyFrom 3 61 M (fun (M24 : Mm) => ∃ n : Nat, lp_B_dies_29 Q (fun (v1 : Int32) (v3 : Int32) (M : Mm) => wp_B_firstOf v3 (si M 0 13 v1) (fun (r77 : Int32) (M77 : Mm) => Q r77 M77)) n (1 : Int32) M24)) ∧ ((gi M 20 7) = 0 → Q (-4 : Int32) M)
def k_Fl_harvestsOfSeasons_5 (a0 : Nat) (a1 : Nat) (a2 : Int32) (Q : Int32 → Mm → Prop) (KB : Int32 → Int32 → Mm → Prop) (v3 : Int32) (v4 : Int32) (M : Mm) : Prop :=
  (a2 ≤ v4 → Q v3 M) ∧ (¬ a2 ≤ v4 → wp_Fl_goBy a0 a1 M (fun (r14 : Int32) (M14 : Mm) => wp_J_bitCount r14 M14 (fun (r17 : Int32) (M17 : Mm) => ∀ x21 : Int32, x21 = (v3 + r17) → ∀ x22 : Int32, x22 = v4 + (1 : Int32) → KB x21 x22 M17)))
def lp_Fl_harvestsOfSeasons_5 (a0 : Nat) (a1 : Nat) (a2 : Int32) (Q : Int32 → Mm → Prop)  : Nat → Int32 → Int32 → Mm → Prop
  | 0 => fun _ _ _ => False
  | n + 1 => fun v3 v4 M => k_Fl_harvestsOfSeasons_5 a0 a1 a2 Q (lp_Fl_harvestsOfSeasons_5 a0 a1 a2 Q n)  v3 v4 M
def wp_Fl_harvestsOfSeasons (a0 : Nat) (a1 : Nat) (a2 : Int32) (M : Mm) (Q : Int32 → Mm → Prop) : Prop :=
  ∃ n : Nat, lp_Fl_harvestsOfSeasons_5 a0 a1 a2 Q n (0 : Int32) (0 : Int32) M
def wp_B_barge (a1 : Int32) (a2 : Int32) (M : Mm) (Q : Int32 → Mm → Prop) : Prop :=
  wp_Ch_hasArm 20 a1 M (fun (r5 : Int32) (M5 : Mm) => (r5 = 0 → Q (-1 : Int32) M5) ∧ (¬ r5 = 0 → (a2 < 0 → Q (-1 : Int32) M5) ∧ (¬ a2 < 0 → (a2 ≤ (12 : Int32) → wp_B_hasBit (gi M5 61 2) a1 M5 (fun (r34 : Int32) (M34 : Mm) => (¬ r34 = 0 → wp_Fl_copyFrom 3 61 M34 (fun (M54 : Mm) => wp_Fl_harvestsOfSeasons 3 20 a2 M54 (fun (r66 : Int32) (M66 : Mm) => wp_Fl_copyFrom 3 61 M66 (fun (M81 : Mm) => wp_Fl_dropBarge 3 a1 M81 (fun (M89 : Mm) => wp_Fl_harvestsOfSeasons 3 20 a2 M89 (fun (r101 : Int32) (M101 : Mm) => Q ((r101 - r66) + (100 : Int32)) M101)))))) ∧ (r34 = 0 → Q (100 : Int32) M34))) ∧ (¬ a2 ≤ (12 : Int32) → Q (-1 : Int32) M5))))
def wp_B_armRowRefusal (a1 : Int32) (M : Mm) (Q : Int32 → Mm → Prop) : Prop :=
  wp_B_deltaRowRefusal a1 M (fun (r2 : Int32) (M2 : Mm) => (r2 = 0 → wp_Sh_sizeOf 4 a1 M2 (fun (r17 : Int32) (M17 : Mm) => (¬ r17 = (gi M17 20 7) → wp_B_answerFinding (5 : Int32) M17 (fun (r36 : Int32) (M36 : Mm) => Q r36 M36)) ∧ (r17 = (gi M17 20 7) → Q (0 : Int32) M17))) ∧ (¬ r2 = 0 → Q r2 M2))
def k_B_stampedToFit_42 (a1 : Int32) (a2 : Int32) (Q : Int32 → Mm → Prop) (KB : Int32 → Int32 → Mm → Prop) (v3 : Int32) (v4 : Int32) (M : Mm) : Prop :=
  ((gi M 20 7) ≤ v4 → Q v3 M) ∧ (¬ (gi M 20 7) ≤ v4 → wp_Fl_saltOf 3 v4 M (fun (r60 : Int32) (M60 : Mm) => wp_Sh_valueAt 4 a2 v4 M60 (fun (r70 : Int32) (M70 : Mm) => (r60 = r70 → ∀ x79 : Int32, x79 = v4 + (1 : Int32) → KB v3 x79 M70) ∧ (¬ r60 = r70 → Q (-9 : Int32) M70))))
def lp_B_stampedToFit_42 (a1 : Int32) (a2 : Int32) (Q : Int32 → Mm → Prop)  : Nat → Int32 → Int32 → Mm → Prop
  | 0 => fun _ _ _ => False
  | n + 1 => fun v3 v4 M => k_B_stampedToFit_42 a1 a2 Q (lp_B_stampedToFit_42 a1 a2 Q n)  v3 v4 M
def wp_B_stampedToFit (a1 : Int32) (a2 : Int32) (M : Mm) (Q : Int32 → Mm → Prop) : Prop :=
  wp_Fl_copyFrom 3 61 M (fun (M11 : Mm) => wp_Fl_stampSet 3 20 a1 M11 (fun (r23 : Int32) (M23 : Mm) => wp_Fl_goBy 3 20 M23 (fun (r35 : Int32) (M35 : Mm) => ∃ n : Nat, lp_B_stampedToFit_42 a1 a2 Q n r23 (0 : Int32) M35)))
def k_B_fits_64 (a1 : Int32) (Q : Int32 → Mm → Prop) (KB : Int32 → Int32 → Int32 → Mm → Prop) (v3 : Int32) (v4 : Int32) (v5 : Int32) (M : Mm) : Prop :=
  ∀ x64 : Int32, x64 = v5 + (1 : Int32) → KB v3 v4 x64 M
def k_B_fits_62 (a1 : Int32) (Q : Int32 → Mm → Prop) (KB : Int32 → Int32 → Int32 → Mm → Prop) (v3 : Int32) (v5 : Int32) (s0 : Int32) (M : Mm) : Prop :=
  k_B_fits_64 a1 Q KB v3 s0 v5 M
def k_B_fits_21 (a1 : Int32) (Q : Int32 → Mm → Prop) (KB : Int32 → Int32 → Int32 → Mm → Prop) (v3 : Int32) (v4 : Int32) (v5 : Int32) (M : Mm) : Prop :=
  wp_Ch_sets 20 M (fun (r27 : Int32) (M27 : Mm) => (r27 ≤ v5 → Q v3 (si M27 0 13 v4)) ∧ (¬ r27 ≤ v5 → wp_B_stampedToFit v5 a1 M27 (fun (r37 : Int32) (M37 : Mm) => (r37 = (-9 : Int32) → k_B_fits_64 a1 Q KB v3 v4 v5 M37) ∧ (¬ r37 = (-9 : Int32) → ∀ x45 : Int32, x45 = v3 + (1 : Int32) → (¬ v4 = (-9 : Int32) → k_B_fits_62 a1 Q KB x45 v5 v4 M37) ∧ (v4 = (-9 : Int32) → k_B_fits_62 a1 Q KB x45 v5 v5 M37)))))
def lp_B_fits_21 (a1 : Int32) (Q : Int32 → Mm → Prop)  : Nat → Int32 → Int32 → Int32 → Mm → Prop
  | 0 => fun _ _ _ _ => False
  | n + 1 => fun v3 v4 v5 M => k_B_fits_21 a1 Q (lp_B_fits_21 a1 Q n)  v3 v4 v5 M
def wp_B_fits (a1 : Int32) (M : Mm) (Q : Int32 → Mm → Prop) : Prop :=
  wp_B_armRowRefusal a1 M (fun (r2 : Int32) (M2 : Mm) => (r2 = 0 → ∃ n : Nat, lp_B_fits_21 a1 Q n (0 : Int32) (-9 : Int32) (0 : Int32) M2) ∧ (¬ r2 = 0 → Q r2 M2))
def k_B_opened_62 (a1 : Int32) (Q : Int32 → Mm → Prop) (KB : Int32 → Int32 → Mm → Prop) (K68 : Int32 → Mm → Prop) (v3 : Int32) (v4 : Int32) (M : Mm) : Prop :=
  ∀ x62 : Int32, x62 = v4 + (1 : Int32) → KB v3 x62 M
def k_B_opened_61 (a1 : Int32) (Q : Int32 → Mm → Prop) (KB : Int32 → Int32 → Mm → Prop) (K68 : Int32 → Mm → Prop) (v4 : Int32) (s0 : Int32) (M : Mm) : Prop :=
  k_B_opened_62 a1 Q KB K68 s0 v4 M
def k_B_opened_18 (a1 : Int32) (Q : Int32 → Mm → Prop) (KB : Int32 → Int32 → Mm → Prop) (K68 : Int32 → Mm → Prop) (v3 : Int32) (v4 : Int32) (M : Mm) : Prop :=
  wp_Ch_sets 20 M (fun (r24 : Int32) (M24 : Mm) => (r24 ≤ v4 → K68 v3 M24) ∧ (¬ r24 ≤ v4 → wp_B_stampedToFit v4 a1 M24 (fun (r34 : Int32) (M34 : Mm) => (r34 = (-9 : Int32) → k_B_opened_62 a1 Q KB K68 v3 v4 M34) ∧ (¬ r34 = (-9 : Int32) → (¬ v3 = (-9 : Int32) → k_B_opened_61 a1 Q KB K68 v4 (v3 &&& r34) M34) ∧ (v3 = (-9 : Int32) → k_B_opened_61 a1 Q KB K68 v4 r34 M34)))))
def lp_B_opened_18 (a1 : Int32) (Q : Int32 → Mm → Prop) (K68 : Int32 → Mm → Prop) : Nat → Int32 → Int32 → Mm → Prop
  | 0 => fun _ _ _ => False
  | n + 1 => fun v3 v4 M => k_B_opened_18 a1 Q (lp_B_opened_18 a1 Q K68 n) K68 v3 v4 M
def wp_B_opened (a1 : Int32) (M : Mm) (Q : Int32 → Mm → Prop) : Prop :=
  wp_B_armRowRefusal a1 M (fun (r2 : Int32) (M2 : Mm) => (r2 = 0 → ∃ n : Nat, lp_B_opened_18 a1 Q (fun (v3 : Int32) (M : Mm) => (¬ v3 = (-9 : Int32) → Q v3 M) ∧ (v3 = (-9 : Int32) → Q (0 : Int32) M)) n (-9 : Int32) (0 : Int32) M2) ∧ (¬ r2 = 0 → Q r2 M2))
def k_De_mostGroupsWithin_38 (a1 : Int32) (a2 : Int32) (Q : Int32 → Mm → Prop) (KB : Int32 → Int32 → Mm → Prop) (v3 : Int32) (v4 : Int32) (M : Mm) : Prop :=
  ∀ x38 : Int32, x38 = v4 + (1 : Int32) → KB v3 x38 M
def k_De_mostGroupsWithin_5 (a1 : Int32) (a2 : Int32) (Q : Int32 → Mm → Prop) (KB : Int32 → Int32 → Mm → Prop) (v3 : Int32) (v4 : Int32) (M : Mm) : Prop :=
  (a2 ≤ v4 → Q v3 M) ∧ (¬ a2 ≤ v4 → wp_B_hasBit a1 v4 M (fun (r14 : Int32) (M14 : Mm) => (r14 = 0 → k_De_mostGroupsWithin_38 a1 a2 Q KB v3 v4 M14) ∧ (¬ r14 = 0 → vp_in (a1 &&& (((1 : Int32) <<< (v4 &&& 31)) ^^^ (-1 : Int32))) 32 ∧ (∀ x37 : Int32, x37 = (if v3 < (gi M14 50 (tn (a1 &&& (((1 : Int32) <<< (v4 &&& 31)) ^^^ (-1 : Int32))))) then (gi M14 50 (tn (a1 &&& (((1 : Int32) <<< (v4 &&& 31)) ^^^ (-1 : Int32))))) else v3) → k_De_mostGroupsWithin_38 a1 a2 Q KB x37 v4 M14))))
def lp_De_mostGroupsWithin_5 (a1 : Int32) (a2 : Int32) (Q : Int32 → Mm → Prop)  : Nat → Int32 → Int32 → Mm → Prop
  | 0 => fun _ _ _ => False
  | n + 1 => fun v3 v4 M => k_De_mostGroupsWithin_5 a1 a2 Q (lp_De_mostGroupsWithin_5 a1 a2 Q n)  v3 v4 M
def wp_De_mostGroupsWithin (a1 : Int32) (a2 : Int32) (M : Mm) (Q : Int32 → Mm → Prop) : Prop :=
  ∃ n : Nat, lp_De_mostGroupsWithin_5 a1 a2 Q n (0 : Int32) (0 : Int32) M
def k_De_fewestPayments_98 (a1 : Nat) (a2 : Int32) (Q : Int32 → Mm → Prop) (KB : Int32 → Int32 → Int32 → Mm → Prop) (K106 : Int32 → Int32 → Mm → Prop) (v3 : Int32) (v4 : Int32) (v5 : Int32) (s0 : Int32) (s1 : Int32) (s2 : Int32) (M : Mm) : Prop :=
  ∀ x99 : Int32, x99 = (s1 + s0) → vp_in s2 32 ∧ (∀ x100 : Int32, x100 = v5 + (1 : Int32) → KB v3 v4 x100 (si M 50 (tn s2) x99))
def k_De_fewestPayments_24 (a1 : Nat) (a2 : Int32) (Q : Int32 → Mm → Prop) (KB : Int32 → Int32 → Int32 → Mm → Prop) (K106 : Int32 → Int32 → Mm → Prop) (v3 : Int32) (v4 : Int32) (v5 : Int32) (M : Mm) : Prop :=
  (v4 < v5 → K106 v3 v4 M) ∧ (¬ v4 < v5 → wp_B_firstOf v5 M (fun (r33 : Int32) (M33 : Mm) => vp_in (v5 &&& (((1 : Int32) <<< (r33 &&& 31)) ^^^ (-1 : Int32))) 32 ∧ (wp_Sh_valueAt a1 a2 r33 M33 (fun (r62 : Int32) (M62 : Mm) => ∀ x67 : Int64, x67 = ((gl M33 49 (tn (v5 &&& (((1 : Int32) <<< (r33 &&& 31)) ^^^ (-1 : Int32))))) + r62.toInt64) → vp_in v5 32 ∧ (wp_De_mostGroupsWithin v5 v3 (sl M62 49 (tn v5) x67) (fun (r78 : Int32) (M78 : Mm) => vp_in v5 32 ∧ ((¬ (lg_cmp (gl M78 49 (tn v5)) (0 : Int64)) = 0 → k_De_fewestPayments_98 a1 a2 Q KB K106 v3 v4 v5 (0 : Int32) r78 v5 M78) ∧ ((lg_cmp (gl M78 49 (tn v5)) (0 : Int64)) = 0 → k_De_fewestPayments_98 a1 a2 Q KB K106 v3 v4 v5 (1 : Int32) r78 v5 M78))))))))
def lp_De_fewestPayments_24 (a1 : Nat) (a2 : Int32) (Q : Int32 → Mm → Prop) (K106 : Int32 → Int32 → Mm → Prop) : Nat → Int32 → Int32 → Int32 → Mm → Prop
  | 0 => fun _ _ _ _ => False
  | n + 1 => fun v3 v4 v5 M => k_De_fewestPayments_24 a1 a2 Q (lp_De_fewestPayments_24 a1 a2 Q K106 n) K106 v3 v4 v5 M
def wp_De_fewestPayments (a1 : Nat) (a2 : Int32) (M : Mm) (Q : Int32 → Mm → Prop) : Prop :=
  wp_Sh_sizeOf a1 a2 M (fun (r4 : Int32) (M4 : Mm) => ∀ x13 : Int32, x13 = (if (if (0 : Int32) < r4 then r4 else (0 : Int32)) < (5 : Int32) then (if (0 : Int32) < r4 then r4 else (0 : Int32)) else (5 : Int32)) → ∀ x19 : Int32, x19 = (((1 : Int32) <<< (x13 &&& 31)) - (1 : Int32)) → ∃ n : Nat, lp_De_fewestPayments_24 a1 a2 Q (fun (v3 : Int32) (v4 : Int32) (M : Mm) => vp_in v4 32 ∧ (Q (v3 - (gi M 50 (tn v4))) M)) n x13 x19 (1 : Int32) M4)
def wp_B_settle (a1 : Int32) (M : Mm) (Q : Int32 → Mm → Prop) : Prop :=
  wp_B_armRowRefusal a1 M (fun (r2 : Int32) (M2 : Mm) => (r2 = 0 → wp_Sh_sumOf 4 a1 M2 (fun (r17 : Int64) (M17 : Mm) => ((lg_cmp r17 (0 : Int64)) = 0 → wp_De_fewestPayments 4 a1 M17 (fun (r40 : Int32) (M40 : Mm) => Q r40 M40)) ∧ (¬ (lg_cmp r17 (0 : Int64)) = 0 → wp_B_answerFinding (4 : Int32) M17 (fun (r27 : Int32) (M27 : Mm) => Q r27 M27)))) ∧ (¬ r2 = 0 → Q r2 M2))
def k_Ch_countWaits_4 (a0 : Nat) (Q : Int32 → Mm → Prop) (KB : Int32 → Int32 → Mm → Prop) (v1 : Int32) (v2 : Int32) (M : Mm) : Prop :=
  ((gi M a0 7) ≤ v2 → Q v1 M) ∧ (¬ (gi M a0 7) ≤ v2 → vp_in v2 5 ∧ (wp_J_bitCount (gi M (a0 + 6) (tn v2)) M (fun (r19 : Int32) (M19 : Mm) => ∀ x23 : Int32, x23 = (v1 + r19) → ∀ x24 : Int32, x24 = v2 + (1 : Int32) → KB x23 x24 M19)))
def lp_Ch_countWaits_4 (a0 : Nat) (Q : Int32 → Mm → Prop)  : Nat → Int32 → Int32 → Mm → Prop
  | 0 => fun _ _ _ => False
  | n + 1 => fun v1 v2 M => k_Ch_countWaits_4 a0 Q (lp_Ch_countWaits_4 a0 Q n)  v1 v2 M
def wp_Ch_countWaits (a0 : Nat) (M : Mm) (Q : Int32 → Mm → Prop) : Prop :=
  ∃ n : Nat, lp_Ch_countWaits_4 a0 Q n (0 : Int32) (0 : Int32) M
def k_Of_waitingForThemselves_73  (Q : Int32 → Mm → Prop) (KB : Int32 → Int32 → Mm → Prop) (K81 : Int32 → Mm → Prop) (v1 : Int32) (v2 : Int32) (s0 : Int32) (s1 : Int32) (s2 : Int32) (M : Mm) : Prop :=
  ∀ x74 : Int32, x74 = (s1 ||| s0) → vp_in s2 5 ∧ (∀ x75 : Int32, x75 = v2 + (1 : Int32) → KB v1 x75 (si M 52 (tn s2) x74))
def k_Of_waitingForThemselves_32  (Q : Int32 → Mm → Prop) (KB : Int32 → Int32 → Mm → Prop) (K81 : Int32 → Mm → Prop) (v1 : Int32) (v2 : Int32) (M : Mm) : Prop :=
  ((gi M 20 7) ≤ v2 → K81 v1 M) ∧ (¬ (gi M 20 7) ≤ v2 → vp_in v2 5 ∧ (vp_in v2 5 ∧ (wp_B_hasBit (gi M 52 (tn v2)) v1 M (fun (r57 : Int32) (M57 : Mm) => (r57 = 0 → k_Of_waitingForThemselves_73 Q KB K81 v1 v2 (0 : Int32) (gi M 52 (tn v2)) v2 M57) ∧ (¬ r57 = 0 → vp_in v1 5 ∧ (k_Of_waitingForThemselves_73 Q KB K81 v1 v2 (gi M57 52 (tn v1)) (gi M 52 (tn v2)) v2 M57))))))
def lp_Of_waitingForThemselves_32  (Q : Int32 → Mm → Prop) (K81 : Int32 → Mm → Prop) : Nat → Int32 → Int32 → Mm → Prop
  | 0 => fun _ _ _ => False
  | n + 1 => fun v1 v2 M => k_Of_waitingForThemselves_32  Q (lp_Of_waitingForThemselves_32 Q K81 n) K81 v1 v2 M
def k_Of_waitingForThemselves_19  (Q : Int32 → Mm → Prop) (KB : Int32 → Mm → Prop) (K87 : Mm → Prop) (v1 : Int32) (M : Mm) : Prop :=
  ((gi M 20 7) ≤ v1 → K87 M) ∧ (¬ (gi M 20 7) ≤ v1 → ∃ n : Nat, lp_Of_waitingForThemselves_32 Q (fun (v1 : Int32) (M : Mm) => ∀ x81 : Int32, x81 = v1 + (1 : Int32) → KB x81 M) n v1 (0 : Int32) M)
def lp_Of_waitingForThemselves_19  (Q : Int32 → Mm → Prop) (K87 : Mm → Prop) : Nat → Int32 → Mm → Prop
  | 0 => fun _ _ => False
  | n + 1 => fun v1 M => k_Of_waitingForThemselves_19  Q (lp_Of_waitingForThemselves_19 Q K87 n) K87 v1 M
def k_Of_waitingForThemselves_91  (Q : Int32 → Mm → Prop) (KB : Int32 → Int32 → Mm → Prop) (v1 : Int32) (v2 : Int32) (M : Mm) : Prop :=
  ((gi M 20 7) ≤ v2 → Q v1 M) ∧ (¬ (gi M 20 7) ≤ v2 → vp_in v2 5 ∧ (∀ x114 : Int32, x114 = (v1 ||| ((gi M 52 (tn v2)) &&& ((1 : Int32) <<< (v2 &&& 31)))) → ∀ x115 : Int32, x115 = v2 + (1 : Int32) → KB x114 x115 M))
def lp_Of_waitingForThemselves_91  (Q : Int32 → Mm → Prop)  : Nat → Int32 → Int32 → Mm → Prop
  | 0 => fun _ _ _ => False
  | n + 1 => fun v1 v2 M => k_Of_waitingForThemselves_91  Q (lp_Of_waitingForThemselves_91 Q n)  v1 v2 M
def wp_Of_waitingForThemselves  (M : Mm) (Q : Int32 → Mm → Prop) : Prop :=
  (¬ (0 : Int32) < 0) ∧ ((¬ (0 : Int32) < 0) ∧ ((¬ (5 : Int32) < 0) ∧ ((tn (0 : Int32) + tn (5 : Int32) ≤ 5) ∧ ((tn (0 : Int32) + tn (5 : Int32) ≤ 5) ∧ (∃ n : Nat, lp_Of_waitingForThemselves_19 Q (fun (M : Mm) => ∃ n : Nat, lp_Of_waitingForThemselves_91 Q n (0 : Int32) (0 : Int32) M) n (0 : Int32) (cpi M 26 52 (tn (0 : Int32)) (tn (0 : Int32)) (tn (5 : Int32))))))))
def wp_B_stalled  (M : Mm) (Q : Int32 → Mm → Prop) : Prop :=
  wp_Ch_countWaits 20 M (fun (r5 : Int32) (M5 : Mm) => wp_Of_waitingForThemselves (si M5 0 13 r5) (fun (r15 : Int32) (M15 : Mm) => Q r15 M15))
def wp_Of_bitOf (a0 : Int32) (M : Mm) (Q : Int64 → Mm → Prop) : Prop :=
  Q ((1 : Int64) <<< (((39 : Int32) - a0).toInt64 &&& 63)) M
def k_Of_waitsLoosened_51 (a1 : Int32) (a2 : Int32) (Q : Int64 → Mm → Prop) (KB : Int64 → Int32 → Mm → Prop) (v3 : Int64) (v5 : Int32) (M : Mm) : Prop :=
  ∀ x51 : Int32, x51 = v5 + (1 : Int32) → KB v3 x51 M
def k_Of_waitsLoosened_5 (a1 : Int32) (a2 : Int32) (Q : Int64 → Mm → Prop) (KB : Int64 → Int32 → Mm → Prop) (v3 : Int64) (v5 : Int32) (M : Mm) : Prop :=
  ((gi M 20 7) ≤ v5 → Q v3 M) ∧ (¬ (gi M 20 7) ≤ v5 → vp_in a1 5 ∧ (wp_B_hasBit ((gi M 26 (tn a1)) &&& (a2 ^^^ (-1 : Int32))) v5 M (fun (r32 : Int32) (M32 : Mm) => (r32 = 0 → k_Of_waitsLoosened_51 a1 a2 Q KB v3 v5 M32) ∧ (¬ r32 = 0 → wp_Of_bitOf (((8 : Int32) * a1) + v5) M32 (fun (r46 : Int64) (M46 : Mm) => ∀ x50 : Int64, x50 = (v3 ||| r46) → k_Of_waitsLoosened_51 a1 a2 Q KB x50 v5 M46)))))
def lp_Of_waitsLoosened_5 (a1 : Int32) (a2 : Int32) (Q : Int64 → Mm → Prop)  : Nat → Int64 → Int32 → Mm → Prop
  | 0 => fun _ _ _ => False
  | n + 1 => fun v3 v5 M => k_Of_waitsLoosened_5 a1 a2 Q (lp_Of_waitsLoosened_5 a1 a2 Q n)  v3 v5 M
def wp_Of_waitsLoosened (a1 : Int32) (a2 : Int32) (M : Mm) (Q : Int64 → Mm → Prop) : Prop :=
  ∃ n : Nat, lp_Of_waitsLoosened_5 a1 a2 Q n (0 : Int64) (0 : Int32) M
def wp_JL_bitCount (a0 : Int64) (M : Mm) (Q : Int32 → Mm → Prop) : Prop :=
  ∀ x9 : Int64, x9 = (a0 - ((a0.toUInt64 >>> ((1 : Int32).toInt64.toUInt64 &&& Int64.toUInt64 63)).toInt64 &&& (6148914691236517205 : Int64))) → ∀ x23 : Int64, x23 = ((x9 &&& (3689348814741910323 : Int64)) + ((x9.toUInt64 >>> ((2 : Int32).toInt64.toUInt64 &&& Int64.toUInt64 63)).toInt64 &&& (3689348814741910323 : Int64))) → ∀ x33 : Int64, x33 = ((x23 + (x23.toUInt64 >>> ((4 : Int32).toInt64.toUInt64 &&& Int64.toUInt64 63)).toInt64) &&& (1085102592571150095 : Int64)) → ∀ x40 : Int64, x40 = (x33 + (x33.toUInt64 >>> ((8 : Int32).toInt64.toUInt64 &&& Int64.toUInt64 63)).toInt64) → ∀ x47 : Int64, x47 = (x40 + (x40.toUInt64 >>> ((16 : Int32).toInt64.toUInt64 &&& Int64.toUInt64 63)).toInt64) → ∀ x54 : Int64, x54 = (x47 + (x47.toUInt64 >>> ((32 : Int32).toInt64.toUInt64 &&& Int64.toUInt64 63)).toInt64) → Q (x54.toInt32 &&& (127 : Int32)) M
def k_Of_isBetter_32 (a0 : Int64) (a2 : Int64) (Q : Int32 → Mm → Prop)   (M : Mm) : Prop :=
  Q (1 : Int32) M
def wp_Of_isBetter (a0 : Int64) (a2 : Int64) (M : Mm) (Q : Int32 → Mm → Prop) : Prop :=
  wp_JL_bitCount a0 M (fun (r1 : Int32) (M1 : Mm) => wp_JL_bitCount a2 M1 (fun (r7 : Int32) (M7 : Mm) => (r1 < r7 → k_Of_isBetter_32 a0 a2 Q M7) ∧ (¬ r1 < r7 → (¬ r1 = r7 → Q (0 : Int32) M7) ∧ (r1 = r7 → ((lg_cmp a0 a2) ≤ 0 → Q (0 : Int32) M7) ∧ (¬ (lg_cmp a0 a2) ≤ 0 → k_Of_isBetter_32 a0 a2 Q M7)))))
def k_Of_fewestToLoosen_97  (Q : Int64 → Mm → Prop) (KB : Int32 → Int32 → Int32 → Mm → Prop) (K103 : Int32 → Mm → Prop) (v1 : Int32) (v2 : Int32) (v3 : Int32) (M : Mm) : Prop :=
  ∀ x97 : Int32, x97 = v3 + (1 : Int32) → KB v1 v2 x97 M
def k_Of_fewestToLoosen_95  (Q : Int64 → Mm → Prop) (KB : Int32 → Int32 → Int32 → Mm → Prop) (K103 : Int32 → Mm → Prop) (v1 : Int32) (v3 : Int32) (M : Mm) : Prop :=
  k_Of_fewestToLoosen_97 Q KB K103 v1 (1 : Int32) v3 M
def k_Of_fewestToLoosen_87  (Q : Int64 → Mm → Prop) (KB : Int32 → Int32 → Int32 → Mm → Prop) (K103 : Int32 → Mm → Prop) (v1 : Int32) (v3 : Int32) (v5 : Int64) (M : Mm) : Prop :=
  vp_in v1 32 ∧ (k_Of_fewestToLoosen_95 Q KB K103 v1 v3 (sl M 53 (tn v1) v5))
def k_Of_fewestToLoosen_24  (Q : Int64 → Mm → Prop) (KB : Int32 → Int32 → Int32 → Mm → Prop) (K103 : Int32 → Mm → Prop) (v1 : Int32) (v2 : Int32) (v3 : Int32) (M : Mm) : Prop :=
  ((gi M 20 7) ≤ v3 → K103 v1 M) ∧ (¬ (gi M 20 7) ≤ v3 → wp_B_hasBit v1 v3 M (fun (r37 : Int32) (M37 : Mm) => (r37 = 0 → k_Of_fewestToLoosen_97 Q KB K103 v1 v2 v3 M37) ∧ (¬ r37 = 0 → ∀ x50 : Int32, x50 = (v1 &&& (((1 : Int32) <<< (v3 &&& 31)) ^^^ (-1 : Int32))) → vp_in x50 32 ∧ (wp_Of_waitsLoosened v3 x50 M37 (fun (r63 : Int64) (M63 : Mm) => ∀ x67 : Int64, x67 = ((gl M37 53 (tn x50)) ||| r63) → (v2 = 0 → k_Of_fewestToLoosen_87 Q KB K103 v1 v3 x67 M63) ∧ (¬ v2 = 0 → vp_in v1 32 ∧ (wp_Of_isBetter x67 (gl M63 53 (tn v1)) M63 (fun (r81 : Int32) (M81 : Mm) => (r81 = 0 → k_Of_fewestToLoosen_95 Q KB K103 v1 v3 M81) ∧ (¬ r81 = 0 → k_Of_fewestToLoosen_87 Q KB K103 v1 v3 x67 M81)))))))))
def lp_Of_fewestToLoosen_24  (Q : Int64 → Mm → Prop) (K103 : Int32 → Mm → Prop) : Nat → Int32 → Int32 → Int32 → Mm → Prop
  | 0 => fun _ _ _ _ => False
  | n + 1 => fun v1 v2 v3 M => k_Of_fewestToLoosen_24  Q (lp_Of_fewestToLoosen_24 Q K103 n) K103 v1 v2 v3 M
def k_Of_fewestToLoosen_9  (Q : Int64 → Mm → Prop) (KB : Int32 → Mm → Prop) (K109 : Mm → Prop) (v1 : Int32) (M : Mm) : Prop :=
  wp_Ch_sets 20 M (fun (r14 : Int32) (M14 : Mm) => (r14 ≤ v1 → K109 M14) ∧ (¬ r14 ≤ v1 → ∃ n : Nat, lp_Of_fewestToLoosen_24 Q (fun (v1 : Int32) (M : Mm) => ∀ x103 : Int32, x103 = v1 + (1 : Int32) → KB x103 M) n v1 (0 : Int32) (0 : Int32) M14))
def lp_Of_fewestToLoosen_9  (Q : Int64 → Mm → Prop) (K109 : Mm → Prop) : Nat → Int32 → Mm → Prop
  | 0 => fun _ _ => False
  | n + 1 => fun v1 M => k_Of_fewestToLoosen_9  Q (lp_Of_fewestToLoosen_9 Q K109 n) K109 v1 M
def wp_Of_fewestToLoosen  (M : Mm) (Q : Int64 → Mm → Prop) : Prop :=
  vp_in (0 : Int32) 32 ∧ (∃ n : Nat, lp_Of_fewestToLoosen_9 Q (fun (M : Mm) => wp_Ch_sets 20 M (fun (r117 : Int32) (M117 : Mm) => vp_in (r117 - (1 : Int32)) 32 ∧ (Q (gl M117 53 (tn (r117 - (1 : Int32)))) M117))) n (1 : Int32) (sl M 53 (tn (0 : Int32)) (0 : Int64)))
def k_B_loosen_78 (a1 : Int32) (Q : Int32 → Mm → Prop) (KB : Int64 → Int32 → Int32 → Int32 → Mm → Prop) (v2 : Int64) (v4 : Int32) (v5 : Int32) (v6 : Int32) (M : Mm) : Prop :=
  ∀ x78 : Int32, x78 = v6 + (1 : Int32) → KB v2 v4 v5 x78 M
def k_B_loosen_44 (a1 : Int32) (Q : Int32 → Mm → Prop) (KB : Int64 → Int32 → Int32 → Int32 → Mm → Prop) (v2 : Int64) (v4 : Int32) (v5 : Int32) (v6 : Int32) (M : Mm) : Prop :=
  ((39 : Int32) < v6 → Q v4 M) ∧ (¬ (39 : Int32) < v6 → wp_Of_bitOf v6 M (fun (r54 : Int64) (M54 : Mm) => ((lg_cmp (v2 &&& r54) (0 : Int64)) = 0 → k_B_loosen_78 a1 Q KB v2 v4 v5 v6 M54) ∧ (¬ (lg_cmp (v2 &&& r54) (0 : Int64)) = 0 → wp_Sh_setValue 4 a1 v5 v6 M54 (fun (M72 : Mm) => ∀ x75 : Int32, x75 = v5 + (1 : Int32) → k_B_loosen_78 a1 Q KB v2 v4 x75 v6 M72))))
def lp_B_loosen_44 (a1 : Int32) (Q : Int32 → Mm → Prop)  : Nat → Int64 → Int32 → Int32 → Int32 → Mm → Prop
  | 0 => fun _ _ _ _ _ => False
  | n + 1 => fun v2 v4 v5 v6 M => k_B_loosen_44 a1 Q (lp_B_loosen_44 a1 Q n)  v2 v4 v5 v6 M
def wp_B_loosen (a1 : Int32) (M : Mm) (Q : Int32 → Mm → Prop) : Prop :=
  wp_Sh_knows 4 a1 M (fun (r5 : Int32) (M5 : Mm) => (¬ r5 = 0 → wp_Of_fewestToLoosen M5 (fun (r17 : Int64) (M17 : Mm) => wp_JL_bitCount r17 M17 (fun (r22 : Int32) (M22 : Mm) => wp_Sh_make 4 a1 r22 (0 : Int32) M22 (fun (M35 : Mm) => ∃ n : Nat, lp_B_loosen_44 a1 Q n r17 r22 (0 : Int32) (0 : Int32) M35)))) ∧ (r5 = 0 → Q (-1 : Int32) M5))
def k_B_eels_45 (a1 : Int32) (a2 : Int32) (Q : Int32 → Mm → Prop) (KB : Int32 → Int32 → Int32 → Mm → Prop) (v3 : Int32) (v4 : Int32) (v5 : Int32) (M : Mm) : Prop :=
  (v4 < v5 → Q ((v4 - v3) - (1 : Int32)) M) ∧ (¬ v4 < v5 → wp_B_hasBit (gi M 61 1) v5 M (fun (r64 : Int32) (M64 : Mm) => (¬ r64 = 0 → ∀ x73 : Int32, x73 = v5 + (1 : Int32) → KB v3 v4 x73 M64) ∧ (r64 = 0 → Q (-9 : Int32) M64)))
def lp_B_eels_45 (a1 : Int32) (a2 : Int32) (Q : Int32 → Mm → Prop)  : Nat → Int32 → Int32 → Int32 → Mm → Prop
  | 0 => fun _ _ _ _ => False
  | n + 1 => fun v3 v4 v5 M => k_B_eels_45 a1 a2 Q (lp_B_eels_45 a1 a2 Q n)  v3 v4 v5 M
def wp_B_eels (a1 : Int32) (a2 : Int32) (M : Mm) (Q : Int32 → Mm → Prop) : Prop :=
  wp_Ch_hasArm 20 a1 M (fun (r5 : Int32) (M5 : Mm) => (r5 = 0 → Q (-1 : Int32) M5) ∧ (¬ r5 = 0 → wp_Ch_hasArm 20 a2 M5 (fun (r16 : Int32) (M16 : Mm) => (r16 = 0 → Q (-1 : Int32) M16) ∧ (¬ r16 = 0 → (¬ a1 = a2 → ∀ x34 : Int32, x34 = (if a2 < a1 then a2 else a1) → ∀ x40 : Int32, x40 = (if a1 < a2 then a2 else a1) → ∃ n : Nat, lp_B_eels_45 a1 a2 Q n x34 x40 x34 M16) ∧ (a1 = a2 → Q (-1 : Int32) M16)))))
def k_Fl_stampable_29 (a0 : Nat) (a1 : Nat) (Q : Int32 → Mm → Prop) (KB : Int32 → Int32 → Mm → Prop) (v3 : Int32) (s0 : Int32) (s1 : Int32) (M : Mm) : Prop :=
  ∀ x30 : Int32, x30 = (s1 ||| s0) → ∀ x31 : Int32, x31 = v3 + (1 : Int32) → KB x30 x31 M
def k_Fl_stampable_4 (a0 : Nat) (a1 : Nat) (Q : Int32 → Mm → Prop) (KB : Int32 → Int32 → Mm → Prop) (v2 : Int32) (v3 : Int32) (M : Mm) : Prop :=
  ((gi M a1 7) ≤ v3 → Q v2 M) ∧ (¬ (gi M a1 7) ≤ v3 → wp_Fl_mayBeStamped a0 a1 v3 M (fun (r16 : Int32) (M16 : Mm) => (r16 = 0 → k_Fl_stampable_29 a0 a1 Q KB v3 (0 : Int32) v2 M16) ∧ (¬ r16 = 0 → k_Fl_stampable_29 a0 a1 Q KB v3 ((1 : Int32) <<< (v3 &&& 31)) v2 M16)))
def lp_Fl_stampable_4 (a0 : Nat) (a1 : Nat) (Q : Int32 → Mm → Prop)  : Nat → Int32 → Int32 → Mm → Prop
  | 0 => fun _ _ _ => False
  | n + 1 => fun v2 v3 M => k_Fl_stampable_4 a0 a1 Q (lp_Fl_stampable_4 a0 a1 Q n)  v2 v3 M
def wp_Fl_stampable (a0 : Nat) (a1 : Nat) (M : Mm) (Q : Int32 → Mm → Prop) : Prop :=
  ∃ n : Nat, lp_Fl_stampable_4 a0 a1 Q n (0 : Int32) (0 : Int32) M
def k_B_tellChances_16 (a1 : Int32) (a2 : Int32) (Q : Mm → Prop) (KB : Int32 → Int32 → Int32 → Mm → Prop) (K47 : Int32 → Int32 → Mm → Prop) (v3 : Int32) (v4 : Int32) (v5 : Int32) (M : Mm) : Prop :=
  ((5 : Int32) ≤ v5 → K47 v3 v4 M) ∧ (¬ (5 : Int32) ≤ v5 → (¬ ((v3 ||| v4) - (v3 ||| v4) / (2 : Int32) * (2 : Int32)) = 0 → K47 v3 v4 M) ∧ (((v3 ||| v4) - (v3 ||| v4) / (2 : Int32) * (2 : Int32)) = 0 → ∀ x34 : Int32, x34 = (v3 / (2 : Int32)) → ∀ x39 : Int32, x39 = (v4 / (2 : Int32)) → ∀ x41 : Int32, x41 = v5 + (1 : Int32) → KB x34 x39 x41 M))
def lp_B_tellChances_16 (a1 : Int32) (a2 : Int32) (Q : Mm → Prop) (K47 : Int32 → Int32 → Mm → Prop) : Nat → Int32 → Int32 → Int32 → Mm → Prop
  | 0 => fun _ _ _ _ => False
  | n + 1 => fun v3 v4 v5 M => k_B_tellChances_16 a1 a2 Q (lp_B_tellChances_16 a1 a2 Q K47 n) K47 v3 v4 v5 M
def k_B_tellChances_47 (a1 : Int32) (a2 : Int32) (Q : Mm → Prop)  (v3 : Int32) (v4 : Int32) (M : Mm) : Prop :=
  ∀ x50 : Int64, x50 = v3.toInt64 → ∀ x57 : Int64, x57 = v4.toInt64 → Q (sl (sl M 0 14 x50) 0 15 x57)
def k_B_tellChances_11 (a1 : Int32) (a2 : Int32) (Q : Mm → Prop)  (v3 : Int32) (s0 : Int32) (M : Mm) : Prop :=
  ∃ n : Nat, lp_B_tellChances_16 a1 a2 Q (fun (v3 : Int32) (v4 : Int32) (M : Mm) => k_B_tellChances_47 a1 a2 Q v3 v4 M) n v3 s0 (0 : Int32) M
def wp_B_tellChances (a1 : Int32) (a2 : Int32) (M : Mm) (Q : Mm → Prop) : Prop :=
  (¬ a1 = 0 → k_B_tellChances_11 a1 a2 Q a1 a2 M) ∧ (a1 = 0 → k_B_tellChances_11 a1 a2 Q a1 (1 : Int32) M)
def k_B_odds_108 (a1 : Int32) (Q : Int32 → Mm → Prop) (KB : Int32 → Int32 → Int32 → Int32 → Mm → Prop) (K114 : Int32 → Int32 → Mm → Prop) (v2 : Int32) (v3 : Int32) (v4 : Int32) (v5 : Int32) (M : Mm) : Prop :=
  ∀ x108 : Int32, x108 = v5 + (1 : Int32) → KB v2 v3 v4 x108 M
def k_B_odds_36 (a1 : Int32) (Q : Int32 → Mm → Prop) (KB : Int32 → Int32 → Int32 → Int32 → Mm → Prop) (K114 : Int32 → Int32 → Mm → Prop) (v2 : Int32) (v3 : Int32) (v4 : Int32) (v5 : Int32) (M : Mm) : Prop :=
  wp_Ch_sets 20 M (fun (r42 : Int32) (M42 : Mm) => (r42 ≤ v5 → K114 v3 v4 M42) ∧ (¬ r42 ≤ v5 → (¬ (v5 &&& (v2 ^^^ (-1 : Int32))) = 0 → k_B_odds_108 a1 Q KB K114 v2 v3 v4 v5 M42) ∧ ((v5 &&& (v2 ^^^ (-1 : Int32))) = 0 → ∀ x57 : Int32, x57 = v3 + (1 : Int32) → wp_Fl_copyFrom 3 61 M42 (fun (M71 : Mm) => wp_Fl_stampSet 3 20 v5 M71 (fun (r84 : Int32) (M84 : Mm) => wp_Fl_harvestable 3 20 M84 (fun (r98 : Int32) (M98 : Mm) => ∀ x106 : Int32, x106 = (v4 + ((r98 >>> (a1 &&& 31)) &&& (1 : Int32))) → k_B_odds_108 a1 Q KB K114 v2 x57 x106 v5 M98))))))
def lp_B_odds_36 (a1 : Int32) (Q : Int32 → Mm → Prop) (K114 : Int32 → Int32 → Mm → Prop) : Nat → Int32 → Int32 → Int32 → Int32 → Mm → Prop
  | 0 => fun _ _ _ _ _ => False
  | n + 1 => fun v2 v3 v4 v5 M => k_B_odds_36 a1 Q (lp_B_odds_36 a1 Q K114 n) K114 v2 v3 v4 v5 M
def wp_B_odds (a1 : Int32) (M : Mm) (Q : Int32 → Mm → Prop) : Prop :=
  wp_Ch_hasArm 20 a1 M (fun (r5 : Int32) (M5 : Mm) => (¬ r5 = 0 → wp_Fl_stampable 61 20 M5 (fun (r24 : Int32) (M24 : Mm) => ∃ n : Nat, lp_B_odds_36 a1 Q (fun (v3 : Int32) (v4 : Int32) (M : Mm) => wp_B_tellChances v4 v3 M (fun (M118 : Mm) => Q (1 : Int32) M118)) n r24 (0 : Int32) (0 : Int32) (0 : Int32) M24)) ∧ (r5 = 0 → Q (-1 : Int32) M5))
def k_B_doStamps_44 (a1 : Int32) (Q : Mm → Prop) (KB : Int32 → Mm → Prop) (v2 : Int32) (M : Mm) : Prop :=
  ∀ x44 : Int32, x44 = v2 + (1 : Int32) → KB x44 M
def k_B_doStamps_2 (a1 : Int32) (Q : Mm → Prop) (KB : Int32 → Mm → Prop) (v2 : Int32) (M : Mm) : Prop :=
  ((gi M 20 7) ≤ v2 → Q M) ∧ (¬ (gi M 20 7) ≤ v2 → wp_B_hasBit a1 v2 M (fun (r15 : Int32) (M15 : Mm) => (r15 = 0 → k_B_doStamps_44 a1 Q KB v2 M15) ∧ (¬ r15 = 0 → wp_Fl_mayBeStamped 61 20 v2 M15 (fun (r33 : Int32) (M33 : Mm) => (r33 = 0 → k_B_doStamps_44 a1 Q KB v2 M33) ∧ (¬ r33 = 0 → wp_B_doStamp v2 M33 (fun (M41 : Mm) => k_B_doStamps_44 a1 Q KB v2 M41))))))
def lp_B_doStamps_2 (a1 : Int32) (Q : Mm → Prop)  : Nat → Int32 → Mm → Prop
  | 0 => fun _ _ => False
  | n + 1 => fun v2 M => k_B_doStamps_2 a1 Q (lp_B_doStamps_2 a1 Q n)  v2 M
def wp_B_doStamps (a1 : Int32) (M : Mm) (Q : Mm → Prop) : Prop :=
  ∃ n : Nat, lp_B_doStamps_2 a1 Q n (0 : Int32) M
def k_B_lots_49 (a1 : Int32) (a2 : Int32) (Q : Int32 → Mm → Prop) (KB : Int64 → Int32 → Int32 → Mm → Prop) (v3 : Int64) (v5 : Int32) (v6 : Int32) (M : Mm) : Prop :=
  (a1 ≤ v6 → Q v5 M) ∧ (¬ a1 ≤ v6 → ((60 : Int32) < ((gi M 60 2) + (6 : Int32)) → Q v5 M) ∧ (¬ (60 : Int32) < ((gi M 60 2) + (6 : Int32)) → ∀ x79 : Int64, x79 = ((v3 * (48271 : Int64)) - (v3 * (48271 : Int64)) / (2147483647 : Int64) * (2147483647 : Int64)) → wp_Ch_sets 20 M (fun (r91 : Int32) (M91 : Mm) => wp_B_doStamps ((x79 / (32 : Int64)).toInt32 &&& (r91 - (1 : Int32))) M91 (fun (M97 : Mm) => wp_B_doSeason M97 (fun (r103 : Int32) (M103 : Mm) => wp_J_bitCount r103 M103 (fun (r106 : Int32) (M106 : Mm) => ∀ x110 : Int32, x110 = (v5 + r106) → ∀ x112 : Int32, x112 = v6 + (1 : Int32) → KB x79 x110 x112 M106))))))
def lp_B_lots_49 (a1 : Int32) (a2 : Int32) (Q : Int32 → Mm → Prop)  : Nat → Int64 → Int32 → Int32 → Mm → Prop
  | 0 => fun _ _ _ _ => False
  | n + 1 => fun v3 v5 v6 M => k_B_lots_49 a1 a2 Q (lp_B_lots_49 a1 a2 Q n)  v3 v5 v6 M
def wp_B_lots (a1 : Int32) (a2 : Int32) (M : Mm) (Q : Int32 → Mm → Prop) : Prop :=
  (a1 < (1 : Int32) → Q (-1 : Int32) M) ∧ (¬ a1 < (1 : Int32) → ((20 : Int32) < a1 → Q (-1 : Int32) M) ∧ (¬ (20 : Int32) < a1 → (a2 < (1 : Int32) → Q (-1 : Int32) M) ∧ (¬ a2 < (1 : Int32) → ((lg_cmp a2.toInt64 (2147483647 : Int64)) < 0 → (¬ (gi M 20 7) = 0 → ∀ x42 : Int64, x42 = a2.toInt64 → ∃ n : Nat, lp_B_lots_49 a1 a2 Q n x42 (0 : Int32) (0 : Int32) M) ∧ ((gi M 20 7) = 0 → Q (-4 : Int32) M)) ∧ (¬ (lg_cmp a2.toInt64 (2147483647 : Int64)) < 0 → Q (-1 : Int32) M))))
def wp_B_asked  (M : Mm) (Q : Int32 → Mm → Prop) : Prop :=
  Q (gi M 0 13) M
def wp_B_upper  (M : Mm) (Q : Int64 → Mm → Prop) : Prop :=
  Q (gl M 0 14) M
def wp_B_lower  (M : Mm) (Q : Int64 → Mm → Prop) : Prop :=
  Q (gl M 0 15) M
def k_Ch_countOf_27 (a0 : Nat) (a1 : Int32) (Q : Int32 → Mm → Prop) (KB : Int32 → Int32 → Mm → Prop) (v3 : Int32) (s0 : Int32) (s1 : Int32) (M : Mm) : Prop :=
  ∀ x28 : Int32, x28 = (s1 + s0) → ∀ x29 : Int32, x29 = v3 + (1 : Int32) → KB x28 x29 M
def k_Ch_countOf_4 (a0 : Nat) (a1 : Int32) (Q : Int32 → Mm → Prop) (KB : Int32 → Int32 → Mm → Prop) (v2 : Int32) (v3 : Int32) (M : Mm) : Prop :=
  ((gi M a0 7) ≤ v3 → Q v2 M) ∧ (¬ (gi M a0 7) ≤ v3 → wp_Ch_isOf a0 v3 a1 M (fun (r16 : Int32) (M16 : Mm) => (r16 = 0 → k_Ch_countOf_27 a0 a1 Q KB v3 (0 : Int32) v2 M16) ∧ (¬ r16 = 0 → k_Ch_countOf_27 a0 a1 Q KB v3 (1 : Int32) v2 M16)))
def lp_Ch_countOf_4 (a0 : Nat) (a1 : Int32) (Q : Int32 → Mm → Prop)  : Nat → Int32 → Int32 → Mm → Prop
  | 0 => fun _ _ _ => False
  | n + 1 => fun v2 v3 M => k_Ch_countOf_4 a0 a1 Q (lp_Ch_countOf_4 a0 a1 Q n)  v2 v3 M
def wp_Ch_countOf (a0 : Nat) (a1 : Int32) (M : Mm) (Q : Int32 → Mm → Prop) : Prop :=
  ∃ n : Nat, lp_Ch_countOf_4 a0 a1 Q n (0 : Int32) (0 : Int32) M
def k_Sh_countThere_29 (a0 : Nat) (Q : Int32 → Mm → Prop) (KB : Int32 → Int32 → Mm → Prop) (v2 : Int32) (s0 : Int32) (s1 : Int32) (M : Mm) : Prop :=
  ∀ x30 : Int32, x30 = (s1 + s0) → ∀ x31 : Int32, x31 = v2 + (1 : Int32) → KB x30 x31 M
def k_Sh_countThere_4 (a0 : Nat) (Q : Int32 → Mm → Prop) (KB : Int32 → Int32 → Mm → Prop) (v1 : Int32) (v2 : Int32) (M : Mm) : Prop :=
  ((Int32.ofNat (shN a0)) ≤ v2 → Q v1 M) ∧ (¬ (Int32.ofNat (shN a0)) ≤ v2 → vp_in v2 (shN a0) ∧ (((gi M (a0 + 1) (tn v2)) = (-1 : Int32) → k_Sh_countThere_29 a0 Q KB v2 (0 : Int32) v1 M) ∧ (¬ (gi M (a0 + 1) (tn v2)) = (-1 : Int32) → k_Sh_countThere_29 a0 Q KB v2 (1 : Int32) v1 M)))
def lp_Sh_countThere_4 (a0 : Nat) (Q : Int32 → Mm → Prop)  : Nat → Int32 → Int32 → Mm → Prop
  | 0 => fun _ _ _ => False
  | n + 1 => fun v1 v2 M => k_Sh_countThere_4 a0 Q (lp_Sh_countThere_4 a0 Q n)  v1 v2 M
def wp_Sh_countThere (a0 : Nat) (M : Mm) (Q : Int32 → Mm → Prop) : Prop :=
  ∃ n : Nat, lp_Sh_countThere_4 a0 Q n (0 : Int32) (0 : Int32) M
def k_B_countKept_27  (Q : Int32 → Mm → Prop) (KB : Int32 → Int32 → Mm → Prop) (v2 : Int32) (s0 : Int32) (s1 : Int32) (M : Mm) : Prop :=
  ∀ x28 : Int32, x28 = (s1 + s0) → ∀ x29 : Int32, x29 = v2 + (1 : Int32) → KB x28 x29 M
def k_B_countKept_4  (Q : Int32 → Mm → Prop) (KB : Int32 → Int32 → Mm → Prop) (v1 : Int32) (v2 : Int32) (M : Mm) : Prop :=
  ((3 : Int32) ≤ v2 → Q v1 M) ∧ (¬ (3 : Int32) ≤ v2 → vp_in v2 3 ∧ (((gi M (54 + 2 * tn v2) 2) = 0 → k_B_countKept_27 Q KB v2 (0 : Int32) v1 M) ∧ (¬ (gi M (54 + 2 * tn v2) 2) = 0 → k_B_countKept_27 Q KB v2 (1 : Int32) v1 M)))
def lp_B_countKept_4  (Q : Int32 → Mm → Prop)  : Nat → Int32 → Int32 → Mm → Prop
  | 0 => fun _ _ _ => False
  | n + 1 => fun v1 v2 M => k_B_countKept_4  Q (lp_B_countKept_4 Q n)  v1 v2 M
def wp_B_countKept  (M : Mm) (Q : Int32 → Mm → Prop) : Prop :=
  ∃ n : Nat, lp_B_countKept_4 Q n (0 : Int32) (0 : Int32) M
def k_Fl_allHarvests_4 (a0 : Nat) (Q : Int32 → Mm → Prop) (KB : Int32 → Int32 → Mm → Prop) (v1 : Int32) (v2 : Int32) (M : Mm) : Prop :=
  ((5 : Int32) ≤ v2 → Q v1 M) ∧ (¬ (5 : Int32) ≤ v2 → wp_Fl_harvestsOf a0 v2 M (fun (r12 : Int32) (M12 : Mm) => ∀ x16 : Int32, x16 = (v1 + r12) → ∀ x17 : Int32, x17 = v2 + (1 : Int32) → KB x16 x17 M12))
def lp_Fl_allHarvests_4 (a0 : Nat) (Q : Int32 → Mm → Prop)  : Nat → Int32 → Int32 → Mm → Prop
  | 0 => fun _ _ _ => False
  | n + 1 => fun v1 v2 M => k_Fl_allHarvests_4 a0 Q (lp_Fl_allHarvests_4 a0 Q n)  v1 v2 M
def wp_Fl_allHarvests (a0 : Nat) (M : Mm) (Q : Int32 → Mm → Prop) : Prop :=
  ∃ n : Nat, lp_Fl_allHarvests_4 a0 Q n (0 : Int32) (0 : Int32) M
def wp_B_count (a1 : Int32) (M : Mm) (Q : Int32 → Mm → Prop) : Prop :=
  (a1 = 0 → Q (gi M 20 7) M) ∧ (a1 = 1 → Q (gi M 20 8) M) ∧ (a1 = 2 → Q (gi M 60 2) M) ∧ (a1 = 3 → wp_J_bitCount (gi M 61 3) M (fun (r90 : Int32) (M90 : Mm) => Q r90 M90)) ∧ (a1 = 4 → wp_J_bitCount (gi M 61 2) M (fun (r104 : Int32) (M104 : Mm) => Q r104 M104)) ∧ (a1 = 5 → wp_Ch_countOf 20 (2 : Int32) M (fun (r113 : Int32) (M113 : Mm) => Q r113 M113)) ∧ (a1 = 6 → wp_Sh_countThere 4 M (fun (r121 : Int32) (M121 : Mm) => Q r121 M121)) ∧ (a1 = 7 → wp_Sh_countThere 13 M (fun (r129 : Int32) (M129 : Mm) => Q r129 M129)) ∧ (a1 = 8 → wp_B_countKept M (fun (r134 : Int32) (M134 : Mm) => Q r134 M134)) ∧ (a1 = 9 → wp_Fl_allHarvests 61 M (fun (r145 : Int32) (M145 : Mm) => Q r145 M145)) ∧ (a1.toInt < 0 ∨ 9 < a1.toInt → Q (-1 : Int32) M)
def wp_B_finding  (M : Mm) (Q : Int32 → Mm → Prop) : Prop :=
  Q (gi M 0 12) M
def k_B_findings_10 (a1 : Int32) (Q : Int32 → Mm → Prop)   (M : Mm) : Prop :=
  Q (-1 : Int32) M
def wp_B_findings (a1 : Int32) (M : Mm) (Q : Int32 → Mm → Prop) : Prop :=
  (a1 < (1 : Int32) → k_B_findings_10 a1 Q M) ∧ (¬ a1 < (1 : Int32) → (a1 ≤ (5 : Int32) → vp_in a1 6 ∧ (Q (gi M 1 (tn a1)) M)) ∧ (¬ a1 ≤ (5 : Int32) → k_B_findings_10 a1 Q M))
def k_Sh_digestOnto_33 (a0 : Nat) (a1 : Int64) (Q : Int64 → Mm → Prop) (KB : Int64 → Int32 → Int32 → Mm → Prop) (K69 : Int64 → Int32 → Mm → Prop) (v3 : Int64) (v5 : Int32) (v6 : Int32) (M : Mm) : Prop :=
  vp_in v5 (shN a0) ∧ (((gi M (a0 + 1) (tn v5)) ≤ v6 → K69 v3 v5 M) ∧ (¬ (gi M (a0 + 1) (tn v5)) ≤ v6 → vp_in v5 (shN a0) ∧ (vp_in v6 (shR a0) ∧ (∀ x62 : Int64, x62 = (((31 : Int64) * v3) + (gi M ((a0 + 2) + 1 + tn v5) (tn v6)).toInt64) → ∀ x63 : Int32, x63 = v6 + (1 : Int32) → KB x62 v5 x63 M))))
def lp_Sh_digestOnto_33 (a0 : Nat) (a1 : Int64) (Q : Int64 → Mm → Prop) (K69 : Int64 → Int32 → Mm → Prop) : Nat → Int64 → Int32 → Int32 → Mm → Prop
  | 0 => fun _ _ _ _ => False
  | n + 1 => fun v3 v5 v6 M => k_Sh_digestOnto_33 a0 a1 Q (lp_Sh_digestOnto_33 a0 a1 Q K69 n) K69 v3 v5 v6 M
def k_Sh_digestOnto_5 (a0 : Nat) (a1 : Int64) (Q : Int64 → Mm → Prop) (KB : Int64 → Int32 → Mm → Prop) (v3 : Int64) (v5 : Int32) (M : Mm) : Prop :=
  ((Int32.ofNat (shN a0)) ≤ v5 → Q v3 M) ∧ (¬ (Int32.ofNat (shN a0)) ≤ v5 → vp_in v5 (shN a0) ∧ (∀ x29 : Int64, x29 = (((31 : Int64) * v3) + (gi M (a0 + 1) (tn v5)).toInt64) → ∃ n : Nat, lp_Sh_digestOnto_33 a0 a1 Q (fun (v3 : Int64) (v5 : Int32) (M : Mm) => ∀ x69 : Int32, x69 = v5 + (1 : Int32) → KB v3 x69 M) n x29 v5 (0 : Int32) M))
def lp_Sh_digestOnto_5 (a0 : Nat) (a1 : Int64) (Q : Int64 → Mm → Prop)  : Nat → Int64 → Int32 → Mm → Prop
  | 0 => fun _ _ _ => False
  | n + 1 => fun v3 v5 M => k_Sh_digestOnto_5 a0 a1 Q (lp_Sh_digestOnto_5 a0 a1 Q n)  v3 v5 M
def wp_Sh_digestOnto (a0 : Nat) (a1 : Int64) (M : Mm) (Q : Int64 → Mm → Prop) : Prop :=
  ∃ n : Nat, lp_Sh_digestOnto_5 a0 a1 Q n a1 (0 : Int32) M
def k_B_digest_6  (Q : Int64 → Mm → Prop) (KB : Int64 → Int32 → Mm → Prop) (K31 : Int64 → Mm → Prop) (v1 : Int64) (v3 : Int32) (M : Mm) : Prop :=
  ((9 : Int32) < v3 → K31 v1 M) ∧ (¬ (9 : Int32) < v3 → wp_B_count v3 M (fun (r19 : Int32) (M19 : Mm) => ∀ x24 : Int64, x24 = (((31 : Int64) * v1) + r19.toInt64) → ∀ x25 : Int32, x25 = v3 + (1 : Int32) → KB x24 x25 M19))
def lp_B_digest_6  (Q : Int64 → Mm → Prop) (K31 : Int64 → Mm → Prop) : Nat → Int64 → Int32 → Mm → Prop
  | 0 => fun _ _ _ => False
  | n + 1 => fun v1 v3 M => k_B_digest_6  Q (lp_B_digest_6 Q K31 n) K31 v1 v3 M
def k_B_digest_65  (Q : Int64 → Mm → Prop) (KB : Int64 → Int32 → Int32 → Mm → Prop) (K93 : Int64 → Int32 → Mm → Prop) (v1 : Int64) (v3 : Int32) (v4 : Int32) (M : Mm) : Prop :=
  ((7 : Int32) < v4 → K93 v1 v3 M) ∧ (¬ (7 : Int32) < v4 → wp_B_armTells v3 v4 M (fun (r81 : Int32) (M81 : Mm) => ∀ x86 : Int64, x86 = (((31 : Int64) * v1) + r81.toInt64) → ∀ x87 : Int32, x87 = v4 + (1 : Int32) → KB x86 v3 x87 M81))
def lp_B_digest_65  (Q : Int64 → Mm → Prop) (K93 : Int64 → Int32 → Mm → Prop) : Nat → Int64 → Int32 → Int32 → Mm → Prop
  | 0 => fun _ _ _ _ => False
  | n + 1 => fun v1 v3 v4 M => k_B_digest_65  Q (lp_B_digest_65 Q K93 n) K93 v1 v3 v4 M
def k_B_digest_51  (Q : Int64 → Mm → Prop) (KB : Int64 → Int32 → Mm → Prop) (K116 : Int64 → Mm → Prop) (v1 : Int64) (v3 : Int32) (M : Mm) : Prop :=
  ((gi M 20 7) ≤ v3 → K116 v1 M) ∧ (¬ (gi M 20 7) ≤ v3 → ∃ n : Nat, lp_B_digest_65 Q (fun (v1 : Int64) (v3 : Int32) (M : Mm) => vp_in v3 5 ∧ (∀ x109 : Int64, x109 = (((31 : Int64) * v1) + (gi M 26 (tn v3)).toInt64) → ∀ x110 : Int32, x110 = v3 + (1 : Int32) → KB x109 x110 M)) n v1 v3 (0 : Int32) M)
def lp_B_digest_51  (Q : Int64 → Mm → Prop) (K116 : Int64 → Mm → Prop) : Nat → Int64 → Int32 → Mm → Prop
  | 0 => fun _ _ _ => False
  | n + 1 => fun v1 v3 M => k_B_digest_51  Q (lp_B_digest_51 Q K116 n) K116 v1 v3 M
def k_B_digest_156  (Q : Int64 → Mm → Prop) (KB : Int64 → Int32 → Mm → Prop) (K165 : Int64 → Mm → Prop) (v3 : Int32) (s0 : Int32) (s1 : Int64) (M : Mm) : Prop :=
  ∀ x158 : Int64, x158 = (s1 + s0.toInt64) → ∀ x159 : Int32, x159 = v3 + (1 : Int32) → KB x158 x159 M
def k_B_digest_118  (Q : Int64 → Mm → Prop) (KB : Int64 → Int32 → Mm → Prop) (K165 : Int64 → Mm → Prop) (v1 : Int64) (v3 : Int32) (M : Mm) : Prop :=
  ((3 : Int32) ≤ v3 → K165 v1 M) ∧ (¬ (3 : Int32) ≤ v3 → vp_in v3 3 ∧ (((gi M (54 + 2 * tn v3) 2) = 0 → k_B_digest_156 Q KB K165 v3 (-1 : Int32) ((31 : Int64) * v1) M) ∧ (¬ (gi M (54 + 2 * tn v3) 2) = 0 → vp_in v3 3 ∧ (k_B_digest_156 Q KB K165 v3 (gi M (stOf (54 + 2 * tn v3)) 2) ((31 : Int64) * v1) M))))
def lp_B_digest_118  (Q : Int64 → Mm → Prop) (K165 : Int64 → Mm → Prop) : Nat → Int64 → Int32 → Mm → Prop
  | 0 => fun _ _ _ => False
  | n + 1 => fun v1 v3 M => k_B_digest_118  Q (lp_B_digest_118 Q K165 n) K165 v1 v3 M
def wp_B_digest  (M : Mm) (Q : Int64 → Mm → Prop) : Prop :=
  ∃ n : Nat, lp_B_digest_6 Q (fun (v1 : Int64) (M : Mm) => ∀ x48 : Int64, x48 = (((31 : Int64) * v1) + (gi M 61 0).toInt64) → ∃ n : Nat, lp_B_digest_51 Q (fun (v1 : Int64) (M : Mm) => ∃ n : Nat, lp_B_digest_118 Q (fun (v1 : Int64) (M : Mm) => wp_Sh_digestOnto 4 v1 M (fun (r174 : Int64) (M174 : Mm) => wp_Sh_digestOnto 13 r174 M174 (fun (r177 : Int64) (M177 : Mm) => Q r177 M177))) n v1 (0 : Int32) M) n x48 (0 : Int32) M) n (17 : Int64) (0 : Int32) M
def wp_M_finding  (M : Mm) (Q : Int32 → Mm → Prop) : Prop :=
  Q (gi M 312 0) M
def wp_M_in (a0 : Int32) (a1 : Int32) (a2 : Int32) (M : Mm) (Q : Int32 → Mm → Prop) : Prop :=
  (a0 < a1 → Q (0 : Int32) M) ∧ (¬ a0 < a1 → (a2 < a0 → Q (0 : Int32) M) ∧ (¬ a2 < a0 → Q (1 : Int32) M))
def wp_M_findings (a1 : Int32) (M : Mm) (Q : Int32 → Mm → Prop) : Prop :=
  wp_M_in a1 (1 : Int32) (5 : Int32) M (fun (r3 : Int32) (M3 : Mm) => (r3 = 0 → Q (-1 : Int32) M3) ∧ (¬ r3 = 0 → vp_in a1 6 ∧ (Q (gi M3 313 (tn a1)) M3)))
def wp_M_asked  (M : Mm) (Q : Int32 → Mm → Prop) : Prop :=
  Q (gi M 312 2) M
def wp_M_upper  (M : Mm) (Q : Int64 → Mm → Prop) : Prop :=
  Q (gl M 312 3) M
def wp_M_lower  (M : Mm) (Q : Int64 → Mm → Prop) : Prop :=
  Q (gl M 312 4) M
def wp_M_isRow (a0 : Int32) (M : Mm) (Q : Int32 → Mm → Prop) : Prop :=
  wp_M_in a0 (0 : Int32) (5 : Int32) M (fun (r3 : Int32) (M3 : Mm) => zb r3 ∧ Q r3 M3)
def wp_M_meets (a1 : Int32) (M : Mm) (Q : Int32 → Mm → Prop) : Prop :=
  vp_in a1 6 ∧ (∀ x14 : Int32, x14 = ((gi (si M 312 0 a1) 313 (tn a1)) + (1 : Int32)) → vp_in a1 6 ∧ (Q (-3 : Int32) (si (si M 312 0 a1) 313 (tn a1) x14)))
def k_M_row_34 (a1 : Int32) (a2 : Int32) (Q : Int32 → Mm → Prop) (KB : Int32 → Mm → Prop) (v3 : Int32) (M : Mm) : Prop :=
  ((40 : Int32) ≤ v3 → Q a2 M) ∧ (¬ (40 : Int32) ≤ v3 → vp_in (((40 : Int32) * a1) + v3) 240 ∧ (∀ x52 : Int32, x52 = v3 + (1 : Int32) → KB x52 (si M 315 (tn (((40 : Int32) * a1) + v3)) (0 : Int32))))
def lp_M_row_34 (a1 : Int32) (a2 : Int32) (Q : Int32 → Mm → Prop)  : Nat → Int32 → Mm → Prop
  | 0 => fun _ _ => False
  | n + 1 => fun v3 M => k_M_row_34 a1 a2 Q (lp_M_row_34 a1 a2 Q n)  v3 M
def wp_M_row (a1 : Int32) (a2 : Int32) (M : Mm) (Q : Int32 → Mm → Prop) : Prop :=
  wp_M_isRow a1 M (fun (r1 : Int32) (M1 : Mm) => (r1 = 0 → Q (-1 : Int32) M1) ∧ (¬ r1 = 0 → (a2 ≤ (40 : Int32) → (0 ≤ a2 → vp_in a1 6 ∧ (∃ n : Nat, lp_M_row_34 a1 a2 Q n (0 : Int32) (si M1 314 (tn a1) a2))) ∧ (¬ 0 ≤ a2 → wp_M_meets (5 : Int32) M1 (fun (r21 : Int32) (M21 : Mm) => Q r21 M21))) ∧ (¬ a2 ≤ (40 : Int32) → Q (-1 : Int32) M1)))
def wp_M_rowAt (a1 : Int32) (a2 : Int32) (M : Mm) (Q : Int32 → Mm → Prop) : Prop :=
  vp_in (((40 : Int32) * a1) + a2) 240 ∧ (Q (gi M 315 (tn (((40 : Int32) * a1) + a2))) M)
def wp_M_tells (a1 : Int32) (a2 : Int32) (M : Mm) (Q : Int32 → Mm → Prop) : Prop :=
  Q a2 (si M 312 2 a1)
def wp_M_lay (a1 : Int32) (a2 : Int32) (a3 : Int32) (M : Mm) (Q : Int32 → Mm → Prop) : Prop :=
  wp_M_isRow a1 M (fun (r1 : Int32) (M1 : Mm) => (¬ r1 = 0 → vp_in a1 6 ∧ ((0 ≤ (gi M1 314 (tn a1)) → vp_in a1 6 ∧ (wp_M_in a2 (0 : Int32) ((gi M1 314 (tn a1)) - (1 : Int32)) M1 (fun (r34 : Int32) (M34 : Mm) => (¬ r34 = 0 → wp_M_rowAt a1 a2 M34 (fun (r49 : Int32) (M49 : Mm) => vp_in (((40 : Int32) * a1) + a2) 240 ∧ (wp_M_tells r49 (1 : Int32) (si M49 315 (tn (((40 : Int32) * a1) + a2)) a3) (fun (r70 : Int32) (M70 : Mm) => Q r70 M70)))) ∧ (r34 = 0 → wp_M_meets (2 : Int32) M34 (fun (r42 : Int32) (M42 : Mm) => Q r42 M42))))) ∧ (¬ 0 ≤ (gi M1 314 (tn a1)) → wp_M_meets (1 : Int32) M1 (fun (r20 : Int32) (M20 : Mm) => Q r20 M20)))) ∧ (r1 = 0 → Q (-1 : Int32) M1))
def wp_M_at (a1 : Int32) (a2 : Int32) (M : Mm) (Q : Int32 → Mm → Prop) : Prop :=
  wp_M_isRow a1 M (fun (r1 : Int32) (M1 : Mm) => (¬ r1 = 0 → vp_in a1 6 ∧ ((0 ≤ (gi M1 314 (tn a1)) → vp_in a1 6 ∧ (wp_M_in a2 (0 : Int32) ((gi M1 314 (tn a1)) - (1 : Int32)) M1 (fun (r34 : Int32) (M34 : Mm) => (r34 = 0 → wp_M_meets (2 : Int32) M34 (fun (r56 : Int32) (M56 : Mm) => Q r56 M56)) ∧ (¬ r34 = 0 → wp_M_rowAt a1 a2 M34 (fun (r44 : Int32) (M44 : Mm) => wp_M_tells r44 (1 : Int32) M44 (fun (r48 : Int32) (M48 : Mm) => Q r48 M48)))))) ∧ (¬ 0 ≤ (gi M1 314 (tn a1)) → wp_M_meets (1 : Int32) M1 (fun (r20 : Int32) (M20 : Mm) => Q r20 M20)))) ∧ (r1 = 0 → Q (-1 : Int32) M1))
def wp_M_tear (a1 : Int32) (M : Mm) (Q : Int32 → Mm → Prop) : Prop :=
  wp_M_isRow a1 M (fun (r1 : Int32) (M1 : Mm) => (¬ r1 = 0 → vp_in a1 6 ∧ ((0 ≤ (gi M1 314 (tn a1)) → vp_in a1 6 ∧ (Q (1 : Int32) (si M1 314 (tn a1) (-1 : Int32)))) ∧ (¬ 0 ≤ (gi M1 314 (tn a1)) → wp_M_meets (1 : Int32) M1 (fun (r20 : Int32) (M20 : Mm) => Q r20 M20)))) ∧ (r1 = 0 → Q (-1 : Int32) M1))
def k_M_copy_45 (a1 : Int32) (a2 : Int32) (a3 : Int32) (a4 : Int32) (a5 : Int32) (Q : Int32 → Mm → Prop)   (M : Mm) : Prop :=
  wp_M_meets (1 : Int32) M (fun (r47 : Int32) (M47 : Mm) => Q r47 M47)
def k_M_copy_95 (a1 : Int32) (a2 : Int32) (a3 : Int32) (a4 : Int32) (a5 : Int32) (Q : Int32 → Mm → Prop)   (M : Mm) : Prop :=
  wp_M_meets (2 : Int32) M (fun (r97 : Int32) (M97 : Mm) => Q r97 M97)
def k_M_copy_104 (a1 : Int32) (a2 : Int32) (a3 : Int32) (a4 : Int32) (a5 : Int32) (Q : Int32 → Mm → Prop) (KB : Int32 → Mm → Prop) (K133 : Mm → Prop) (v6 : Int32) (M : Mm) : Prop :=
  (a5 ≤ v6 → K133 M) ∧ (¬ a5 ≤ v6 → wp_M_rowAt a1 (a2 + v6) M (fun (r123 : Int32) (M123 : Mm) => vp_in v6 40 ∧ (∀ x127 : Int32, x127 = v6 + (1 : Int32) → KB x127 (si M123 316 (tn v6) r123))))
def lp_M_copy_104 (a1 : Int32) (a2 : Int32) (a3 : Int32) (a4 : Int32) (a5 : Int32) (Q : Int32 → Mm → Prop) (K133 : Mm → Prop) : Nat → Int32 → Mm → Prop
  | 0 => fun _ _ => False
  | n + 1 => fun v6 M => k_M_copy_104 a1 a2 a3 a4 a5 Q (lp_M_copy_104 a1 a2 a3 a4 a5 Q K133 n) K133 v6 M
def k_M_copy_136 (a1 : Int32) (a2 : Int32) (a3 : Int32) (a4 : Int32) (a5 : Int32) (Q : Int32 → Mm → Prop) (KB : Int32 → Mm → Prop) (v6 : Int32) (M : Mm) : Prop :=
  (a5 ≤ v6 → Q (1 : Int32) M) ∧ (¬ a5 ≤ v6 → vp_in v6 40 ∧ (∀ x164 : Int32, x164 = (gi M 316 (tn v6)) → vp_in ((((40 : Int32) * a3) + a4) + v6) 240 ∧ (∀ x165 : Int32, x165 = v6 + (1 : Int32) → KB x165 (si M 315 (tn ((((40 : Int32) * a3) + a4) + v6)) x164))))
def lp_M_copy_136 (a1 : Int32) (a2 : Int32) (a3 : Int32) (a4 : Int32) (a5 : Int32) (Q : Int32 → Mm → Prop)  : Nat → Int32 → Mm → Prop
  | 0 => fun _ _ => False
  | n + 1 => fun v6 M => k_M_copy_136 a1 a2 a3 a4 a5 Q (lp_M_copy_136 a1 a2 a3 a4 a5 Q n)  v6 M
def wp_M_copy (a1 : Int32) (a2 : Int32) (a3 : Int32) (a4 : Int32) (a5 : Int32) (M : Mm) (Q : Int32 → Mm → Prop) : Prop :=
  wp_M_isRow a1 M (fun (r1 : Int32) (M1 : Mm) => (r1 = 0 → Q (-1 : Int32) M1) ∧ (¬ r1 = 0 → wp_M_isRow a3 M1 (fun (r8 : Int32) (M8 : Mm) => (¬ r8 = 0 → (0 ≤ a5 → vp_in a1 6 ∧ (((gi M8 314 (tn a1)) < 0 → k_M_copy_45 a1 a2 a3 a4 a5 Q M8) ∧ (¬ (gi M8 314 (tn a1)) < 0 → vp_in a3 6 ∧ ((0 ≤ (gi M8 314 (tn a3)) → (a2 < 0 → k_M_copy_95 a1 a2 a3 a4 a5 Q M8) ∧ (¬ a2 < 0 → (a4 < 0 → k_M_copy_95 a1 a2 a3 a4 a5 Q M8) ∧ (¬ a4 < 0 → vp_in a1 6 ∧ ((0 < (lg_cmp (a2.toInt64 + a5.toInt64) ((gi M8 314 (tn a1)).toInt64)) → k_M_copy_95 a1 a2 a3 a4 a5 Q M8) ∧ (¬ 0 < (lg_cmp (a2.toInt64 + a5.toInt64) ((gi M8 314 (tn a1)).toInt64)) → vp_in a3 6 ∧ (((lg_cmp (a4.toInt64 + a5.toInt64) ((gi M8 314 (tn a3)).toInt64)) ≤ 0 → ∃ n : Nat, lp_M_copy_104 a1 a2 a3 a4 a5 Q (fun (M : Mm) => ∃ n : Nat, lp_M_copy_136 a1 a2 a3 a4 a5 Q n (0 : Int32) M) n (0 : Int32) M8) ∧ (¬ (lg_cmp (a4.toInt64 + a5.toInt64) ((gi M8 314 (tn a3)).toInt64)) ≤ 0 → k_M_copy_95 a1 a2 a3 a4 a5 Q M8))))))) ∧ (¬ 0 ≤ (gi M8 314 (tn a3)) → k_M_copy_45 a1 a2 a3 a4 a5 Q M8))))) ∧ (¬ 0 ≤ a5 → wp_M_meets (5 : Int32) M8 (fun (r23 : Int32) (M23 : Mm) => Q r23 M23))) ∧ (r8 = 0 → Q (-1 : Int32) M8))))
def k_M_mean_44 (a1 : Int32) (Q : Int32 → Mm → Prop) (KB : Int64 → Int32 → Mm → Prop) (K72 : Int64 → Mm → Prop) (v2 : Int64) (v4 : Int32) (M : Mm) : Prop :=
  vp_in a1 6 ∧ (((gi M 314 (tn a1)) ≤ v4 → K72 v2 M) ∧ (¬ (gi M 314 (tn a1)) ≤ v4 → wp_M_rowAt a1 v4 M (fun (r60 : Int32) (M60 : Mm) => ∀ x65 : Int64, x65 = (v2 + r60.toInt64) → ∀ x66 : Int32, x66 = v4 + (1 : Int32) → KB x65 x66 M60)))
def lp_M_mean_44 (a1 : Int32) (Q : Int32 → Mm → Prop) (K72 : Int64 → Mm → Prop) : Nat → Int64 → Int32 → Mm → Prop
  | 0 => fun _ _ _ => False
  | n + 1 => fun v2 v4 M => k_M_mean_44 a1 Q (lp_M_mean_44 a1 Q K72 n) K72 v2 v4 M
def wp_M_mean (a1 : Int32) (M : Mm) (Q : Int32 → Mm → Prop) : Prop :=
  wp_M_isRow a1 M (fun (r1 : Int32) (M1 : Mm) => (¬ r1 = 0 → vp_in a1 6 ∧ ((0 ≤ (gi M1 314 (tn a1)) → vp_in a1 6 ∧ ((¬ (gi M1 314 (tn a1)) = 0 → ∃ n : Nat, lp_M_mean_44 a1 Q (fun (v2 : Int64) (M : Mm) => vp_in a1 6 ∧ ((¬ (gi M 314 (tn a1)).toInt64 = 0) ∧ (wp_M_tells ((v2 / (gi M 314 (tn a1)).toInt64).toInt32) (1 : Int32) M (fun (r84 : Int32) (M84 : Mm) => Q r84 M84)))) n (0 : Int64) (0 : Int32) M1) ∧ ((gi M1 314 (tn a1)) = 0 → wp_M_meets (4 : Int32) M1 (fun (r35 : Int32) (M35 : Mm) => Q r35 M35)))) ∧ (¬ 0 ≤ (gi M1 314 (tn a1)) → wp_M_meets (1 : Int32) M1 (fun (r20 : Int32) (M20 : Mm) => Q r20 M20)))) ∧ (r1 = 0 → Q (-1 : Int32) M1))
def wp_M_isText (a0 : Int32) (M : Mm) (Q : Int32 → Mm → Prop) : Prop :=
  wp_M_in a0 (0 : Int32) (3 : Int32) M (fun (r3 : Int32) (M3 : Mm) => zb r3 ∧ Q r3 M3)
def k_M_text_34 (a1 : Int32) (a2 : Int32) (Q : Int32 → Mm → Prop) (KB : Int32 → Mm → Prop) (v3 : Int32) (M : Mm) : Prop :=
  ((60 : Int32) ≤ v3 → Q a2 M) ∧ (¬ (60 : Int32) ≤ v3 → vp_in (((60 : Int32) * a1) + v3) 240 ∧ (∀ x53 : Int32, x53 = v3 + (1 : Int32) → KB x53 (si M 318 (tn (((60 : Int32) * a1) + v3)) (vp_nar .byte (32 : Int32)))))
def lp_M_text_34 (a1 : Int32) (a2 : Int32) (Q : Int32 → Mm → Prop)  : Nat → Int32 → Mm → Prop
  | 0 => fun _ _ => False
  | n + 1 => fun v3 M => k_M_text_34 a1 a2 Q (lp_M_text_34 a1 a2 Q n)  v3 M
def wp_M_text (a1 : Int32) (a2 : Int32) (M : Mm) (Q : Int32 → Mm → Prop) : Prop :=
  wp_M_isText a1 M (fun (r1 : Int32) (M1 : Mm) => (r1 = 0 → Q (-1 : Int32) M1) ∧ (¬ r1 = 0 → (a2 ≤ (60 : Int32) → (0 ≤ a2 → vp_in a1 4 ∧ (∃ n : Nat, lp_M_text_34 a1 a2 Q n (0 : Int32) (si M1 317 (tn a1) a2))) ∧ (¬ 0 ≤ a2 → wp_M_meets (5 : Int32) M1 (fun (r21 : Int32) (M21 : Mm) => Q r21 M21))) ∧ (¬ a2 ≤ (60 : Int32) → Q (-1 : Int32) M1)))
def wp_M_put (a1 : Int32) (a2 : Int32) (a3 : Int32) (M : Mm) (Q : Int32 → Mm → Prop) : Prop :=
  wp_M_isText a1 M (fun (r1 : Int32) (M1 : Mm) => (¬ r1 = 0 → vp_in a1 4 ∧ ((0 ≤ (gi M1 317 (tn a1)) → vp_in a1 4 ∧ (wp_M_in a2 (0 : Int32) ((gi M1 317 (tn a1)) - (1 : Int32)) M1 (fun (r34 : Int32) (M34 : Mm) => (¬ r34 = 0 → vp_in (((60 : Int32) * a1) + a2) 240 ∧ (∀ x57 : Int32, x57 = (gi M34 318 (tn (((60 : Int32) * a1) + a2))) → ∀ x71 : Int32, x71 = a3.toInt8.toInt32 → vp_in (((60 : Int32) * a1) + a2) 240 ∧ (Q ((1000 : Int32) + x57) (si M34 318 (tn (((60 : Int32) * a1) + a2)) (vp_nar .byte x71))))) ∧ (r34 = 0 → wp_M_meets (2 : Int32) M34 (fun (r42 : Int32) (M42 : Mm) => Q r42 M42))))) ∧ (¬ 0 ≤ (gi M1 317 (tn a1)) → wp_M_meets (1 : Int32) M1 (fun (r20 : Int32) (M20 : Mm) => Q r20 M20)))) ∧ (r1 = 0 → Q (-1 : Int32) M1))
def wp_M_byteAt (a1 : Int32) (a2 : Int32) (M : Mm) (Q : Int32 → Mm → Prop) : Prop :=
  vp_in a1 4 ∧ (((gi M 317 (tn a1)) ≤ a2 → Q (0 : Int32) M) ∧ (¬ (gi M 317 (tn a1)) ≤ a2 → vp_in (((60 : Int32) * a1) + a2) 240 ∧ (Q (gi M 318 (tn (((60 : Int32) * a1) + a2))) M)))
def wp_M_figure (a1 : Int32) (a2 : Int32) (a3 : Int32) (M : Mm) (Q : Int32 → Mm → Prop) : Prop :=
  wp_M_byteAt a1 (gi M 312 18) M (fun (r7 : Int32) (M7 : Mm) => ∀ x13 : Int32, x13 = (r7 - (48 : Int32)) → wp_M_in (gi (si M7 312 19 x13) 312 19) a2 a3 (si M7 312 19 x13) (fun (r22 : Int32) (M22 : Mm) => (r22 = 0 → ∀ x43 : Int32, x43 = ((gi M22 312 18) + (0 : Int32)) → zb r22 ∧ Q r22 (si M22 312 18 x43)) ∧ (¬ r22 = 0 → ∀ x43 : Int32, x43 = ((gi M22 312 18) + (1 : Int32)) → zb r22 ∧ Q r22 (si M22 312 18 x43))))
def wp_M_readsRiver (a1 : Int32) (M : Mm) (Q : Int32 → Mm → Prop) : Prop :=
  wp_M_byteAt a1 (gi M 312 18) M (fun (r6 : Int32) (M6 : Mm) => (r6 = (114 : Int32) → ∀ x23 : Int32, x23 = ((gi M6 312 18) + (1 : Int32)) → wp_M_figure a1 (1 : Int32) (9 : Int32) (si M6 312 18 x23) (fun (r31 : Int32) (M31 : Mm) => (¬ r31 = 0 → ∀ x46 : Int32, x46 = ((3 : Int32) * (gi M31 312 19)) → Q (1 : Int32) (si M31 312 20 x46)) ∧ (r31 = 0 → Q (0 : Int32) M31))) ∧ (¬ r6 = (114 : Int32) → Q (0 : Int32) M6))
def wp_M_has (a0 : Int32) (a1 : Int32) (M : Mm) (Q : Int32 → Mm → Prop) : Prop :=
  (¬ ((a0 >>> (a1 &&& 31)) &&& (1 : Int32)) = (1 : Int32) → Q (0 : Int32) M) ∧ (((a0 >>> (a1 &&& 31)) &&& (1 : Int32)) = (1 : Int32) → Q (1 : Int32) M)
def wp_M_readsWait (a1 : Int32) (M : Mm) (Q : Int32 → Mm → Prop) : Prop :=
  ((gi M 312 21) = 0 → Q (0 : Int32) M) ∧ (¬ (gi M 312 21) = 0 → (¬ (gi M 312 22) = (8 : Int32) → ∀ x25 : Int32, x25 = ((gi M 312 18) + (1 : Int32)) → wp_M_figure a1 (0 : Int32) ((gi (si M 312 18 x25) 312 21) - (1 : Int32)) (si M 312 18 x25) (fun (r37 : Int32) (M37 : Mm) => (¬ r37 = 0 → ∀ x49 : Int32, x49 = (gi M37 312 19) → wp_M_byteAt a1 (gi M37 312 18) M37 (fun (r56 : Int32) (M56 : Mm) => ∀ x62 : Int32, x62 = (r56 - (48 : Int32)) → wp_M_in x62 (0 : Int32) ((gi M56 312 21) - (1 : Int32)) M56 (fun (r71 : Int32) (M71 : Mm) => (r71 = 0 → Q (0 : Int32) M71) ∧ (¬ r71 = 0 → (x62 = x49 → Q (0 : Int32) M71) ∧ (¬ x62 = x49 → vp_in x49 5 ∧ (wp_M_has (gi M71 326 (tn x49)) x62 M71 (fun (r89 : Int32) (M89 : Mm) => (r89 = 0 → ∀ x104 : Int32, x104 = ((gi M89 312 18) + (1 : Int32)) → vp_in x49 5 ∧ (∀ x118 : Int32, x118 = ((gi (si M89 312 18 x104) 326 (tn x49)) ||| ((1 : Int32) <<< (x62 &&& 31))) → vp_in x49 5 ∧ (∀ x126 : Int32, x126 = ((gi (si (si M89 312 18 x104) 326 (tn x49) x118) 312 22) + (1 : Int32)) → Q (1 : Int32) (si (si (si M89 312 18 x104) 326 (tn x49) x118) 312 22 x126)))) ∧ (¬ r89 = 0 → Q (0 : Int32) M89)))))))) ∧ (r37 = 0 → Q (0 : Int32) M37))) ∧ ((gi M 312 22) = (8 : Int32) → Q (0 : Int32) M))
def wp_M_kindOf (a0 : Int32) (M : Mm) (Q : Int32 → Mm → Prop) : Prop :=
  (a0 = 97 → Q (0 : Int32) M) ∧ (a0 = 98 → Q (3 : Int32) M) ∧ (a0 = 99 → Q (-9 : Int32) M) ∧ (a0 = 100 → Q (-9 : Int32) M) ∧ (a0 = 101 → Q (-9 : Int32) M) ∧ (a0 = 102 → Q (-9 : Int32) M) ∧ (a0 = 103 → Q (-9 : Int32) M) ∧ (a0 = 104 → Q (-9 : Int32) M) ∧ (a0 = 105 → Q (-9 : Int32) M) ∧ (a0 = 106 → Q (-9 : Int32) M) ∧ (a0 = 107 → Q (-9 : Int32) M) ∧ (a0 = 108 → Q (4 : Int32) M) ∧ (a0 = 109 → Q (5 : Int32) M) ∧ (a0 = 110 → Q (-9 : Int32) M) ∧ (a0 = 111 → Q (-9 : Int32) M) ∧ (a0 = 112 → Q (-9 : Int32) M) ∧ (a0 = 113 → Q (-9 : Int32) M) ∧ (a0 = 114 → Q (-9 : Int32) M) ∧ (a0 = 115 → Q (2 : Int32) M) ∧ (a0 = 116 → Q (1 : Int32) M) ∧ (a0.toInt < 97 ∨ 116 < a0.toInt → Q (-9 : Int32) M)
def k_M_readsArm_136 (a1 : Int32) (Q : Int32 → Mm → Prop) (KB : Int32 → Int32 → Mm → Prop) (K164 : Mm → Prop) (v3 : Int32) (v4 : Int32) (s0 : Int32) (M : Mm) : Prop :=
  (¬ s0 = 0 → ∀ x157 : Int32, x157 = (gi M 312 19) → vp_in (v3 + v4) 25 ∧ (∀ x158 : Int32, x158 = v4 + (1 : Int32) → KB v3 x158 (si M 325 (tn (v3 + v4)) x157))) ∧ (s0 = 0 → Q (0 : Int32) M)
def k_M_readsArm_63 (a1 : Int32) (Q : Int32 → Mm → Prop) (KB : Int32 → Int32 → Mm → Prop) (K164 : Mm → Prop) (v3 : Int32) (v4 : Int32) (M : Mm) : Prop :=
  ((5 : Int32) ≤ v4 → K164 M) ∧ (¬ (5 : Int32) ≤ v4 → (¬ v4 = (1 : Int32) → (¬ v4 = (2 : Int32) → (¬ v4 = (3 : Int32) → vp_in (v3 + (3 : Int32)) 25 ∧ (wp_M_figure a1 (0 : Int32) ((gi M 325 (tn (v3 + (3 : Int32)))) - (1 : Int32)) M (fun (r133 : Int32) (M133 : Mm) => k_M_readsArm_136 a1 Q KB K164 v3 v4 r133 M133))) ∧ (v4 = (3 : Int32) → wp_M_figure a1 (1 : Int32) (6 : Int32) M (fun (r114 : Int32) (M114 : Mm) => k_M_readsArm_136 a1 Q KB K164 v3 v4 r114 M114))) ∧ (v4 = (2 : Int32) → wp_M_figure a1 (0 : Int32) (9 : Int32) M (fun (r97 : Int32) (M97 : Mm) => k_M_readsArm_136 a1 Q KB K164 v3 v4 r97 M97))) ∧ (v4 = (1 : Int32) → wp_M_figure a1 (1 : Int32) (9 : Int32) M (fun (r80 : Int32) (M80 : Mm) => k_M_readsArm_136 a1 Q KB K164 v3 v4 r80 M80)))
def lp_M_readsArm_63 (a1 : Int32) (Q : Int32 → Mm → Prop) (K164 : Mm → Prop) : Nat → Int32 → Int32 → Mm → Prop
  | 0 => fun _ _ _ => False
  | n + 1 => fun v3 v4 M => k_M_readsArm_63 a1 Q (lp_M_readsArm_63 a1 Q K164 n) K164 v3 v4 M
def wp_M_readsArm (a1 : Int32) (M : Mm) (Q : Int32 → Mm → Prop) : Prop :=
  wp_M_byteAt a1 (gi M 312 18) M (fun (r6 : Int32) (M6 : Mm) => wp_M_kindOf r6 M6 (fun (r9 : Int32) (M9 : Mm) => (r9 = (-9 : Int32) → Q (0 : Int32) M9) ∧ (¬ r9 = (-9 : Int32) → ((gi M9 312 21) = (5 : Int32) → Q (0 : Int32) M9) ∧ (¬ (gi M9 312 21) = (5 : Int32) → ((gi M9 312 22) ≤ 0 → ∀ x42 : Int32, x42 = ((5 : Int32) * (gi M9 312 21)) → ∀ x50 : Int32, x50 = ((gi M9 312 18) + (1 : Int32)) → vp_in x42 25 ∧ (∃ n : Nat, lp_M_readsArm_63 a1 Q (fun (M : Mm) => ∀ x171 : Int32, x171 = ((gi M 312 21) + (1 : Int32)) → Q (1 : Int32) (si M 312 21 x171)) n x42 (1 : Int32) (si (si M9 312 18 x50) 325 (tn x42) r9))) ∧ (¬ (gi M9 312 22) ≤ 0 → Q (0 : Int32) M9)))))
def wp_M_readsItem (a1 : Int32) (M : Mm) (Q : Int32 → Mm → Prop) : Prop :=
  (¬ (gi M 312 20) = 0 → wp_M_byteAt a1 (gi M 312 18) M (fun (r19 : Int32) (M19 : Mm) => (¬ r19 = (119 : Int32) → wp_M_readsArm a1 M19 (fun (r37 : Int32) (M37 : Mm) => zb r37 ∧ Q r37 M37)) ∧ (r19 = (119 : Int32) → wp_M_readsWait a1 M19 (fun (r29 : Int32) (M29 : Mm) => zb r29 ∧ Q r29 M29)))) ∧ ((gi M 312 20) = 0 → wp_M_readsRiver a1 M (fun (r9 : Int32) (M9 : Mm) => zb r9 ∧ Q r9 M9))
def k_M_faultOf_22 (a1 : Int32) (Q : Int32 → Mm → Prop) (KB : Int32 → Mm → Prop) (K40 : Mm → Prop) (v2 : Int32) (M : Mm) : Prop :=
  ((5 : Int32) ≤ v2 → K40 M) ∧ (¬ (5 : Int32) ≤ v2 → vp_in v2 5 ∧ (∀ x34 : Int32, x34 = v2 + (1 : Int32) → KB x34 (si M 326 (tn v2) (0 : Int32))))
def lp_M_faultOf_22 (a1 : Int32) (Q : Int32 → Mm → Prop) (K40 : Mm → Prop) : Nat → Int32 → Mm → Prop
  | 0 => fun _ _ => False
  | n + 1 => fun v2 M => k_M_faultOf_22 a1 Q (lp_M_faultOf_22 a1 Q K40 n) K40 v2 M
def k_M_faultOf_40 (a1 : Int32) (Q : Int32 → Mm → Prop) (KB : Mm → Prop) (K93 : Mm → Prop)  (M : Mm) : Prop :=
  vp_in a1 4 ∧ (((gi M 317 (tn a1)) ≤ (gi M 312 18) → K93 M) ∧ (¬ (gi M 317 (tn a1)) ≤ (gi M 312 18) → wp_M_byteAt a1 (gi M 312 18) M (fun (r59 : Int32) (M59 : Mm) => (¬ r59 = (32 : Int32) → wp_M_readsItem a1 M59 (fun (r82 : Int32) (M82 : Mm) => (¬ r82 = 0 → KB M82) ∧ (r82 = 0 → Q (gi M82 312 18) M82))) ∧ (r59 = (32 : Int32) → ∀ x74 : Int32, x74 = ((gi M59 312 18) + (1 : Int32)) → KB (si M59 312 18 x74)))))
def lp_M_faultOf_40 (a1 : Int32) (Q : Int32 → Mm → Prop) (K93 : Mm → Prop) : Nat → Mm → Prop
  | 0 => fun _ => False
  | n + 1 => fun M => k_M_faultOf_40 a1 Q (lp_M_faultOf_40 a1 Q K93 n) K93 M
def wp_M_faultOf (a1 : Int32) (M : Mm) (Q : Int32 → Mm → Prop) : Prop :=
  ∃ n : Nat, lp_M_faultOf_22 a1 Q (fun (M : Mm) => ∃ n : Nat, lp_M_faultOf_40 a1 Q (fun (M : Mm) => (¬ (gi M 312 21) = 0 → Q (-9 : Int32) M) ∧ ((gi M 312 21) = 0 → vp_in a1 4 ∧ (Q (gi M 317 (tn a1)) M))) n M) n (0 : Int32) (si (si (si (si M 312 18 (0 : Int32)) 312 20 (0 : Int32)) 312 21 (0 : Int32)) 312 22 (0 : Int32))
def wp_M_fault (a1 : Int32) (M : Mm) (Q : Int32 → Mm → Prop) : Prop :=
  wp_M_isText a1 M (fun (r1 : Int32) (M1 : Mm) => (¬ r1 = 0 → vp_in a1 4 ∧ ((0 ≤ (gi M1 317 (tn a1)) → wp_M_faultOf a1 M1 (fun (r28 : Int32) (M28 : Mm) => Q r28 M28)) ∧ (¬ 0 ≤ (gi M1 317 (tn a1)) → wp_M_meets (1 : Int32) M1 (fun (r20 : Int32) (M20 : Mm) => Q r20 M20)))) ∧ (r1 = 0 → Q (-1 : Int32) M1))
def k_M_delta_55 (a1 : Int32) (Q : Int32 → Mm → Prop) (KB : Int32 → Mm → Prop) (K74 : Mm → Prop) (v2 : Int32) (M : Mm) : Prop :=
  ((31 : Int32) ≤ v2 → K74 M) ∧ (¬ (31 : Int32) ≤ v2 → vp_in v2 186 ∧ (∀ x68 : Int32, x68 = v2 + (1 : Int32) → KB x68 (si M 327 (tn v2) (0 : Int32))))
def lp_M_delta_55 (a1 : Int32) (Q : Int32 → Mm → Prop) (K74 : Mm → Prop) : Nat → Int32 → Mm → Prop
  | 0 => fun _ _ => False
  | n + 1 => fun v2 M => k_M_delta_55 a1 Q (lp_M_delta_55 a1 Q K74 n) K74 v2 M
def k_M_delta_232 (a1 : Int32) (Q : Int32 → Mm → Prop) (KB : Int32 → Mm → Prop) (K239 : Mm → Prop) (v2 : Int32) (s0 : Int32) (s1 : Int32) (M : Mm) : Prop :=
  vp_in s1 186 ∧ (∀ x233 : Int32, x233 = v2 + (1 : Int32) → KB x233 (si M 327 (tn s1) s0))
def k_M_delta_214 (a1 : Int32) (Q : Int32 → Mm → Prop) (KB : Int32 → Mm → Prop) (K239 : Mm → Prop) (v2 : Int32) (v3 : Int32) (s0 : Int32) (s1 : Int32) (M : Mm) : Prop :=
  vp_in s1 186 ∧ ((v3 = 0 → k_M_delta_232 a1 Q KB K239 v2 (0 : Int32) ((20 : Int32) + v2) (si M 327 (tn s1) s0)) ∧ (¬ v3 = 0 → k_M_delta_232 a1 Q KB K239 v2 (1 : Int32) ((20 : Int32) + v2) (si M 327 (tn s1) s0)))
def k_M_delta_199 (a1 : Int32) (Q : Int32 → Mm → Prop) (KB : Int32 → Mm → Prop) (K239 : Mm → Prop) (v2 : Int32) (s0 : Int32) (M : Mm) : Prop :=
  (s0 = 0 → k_M_delta_214 a1 Q KB K239 v2 s0 (0 : Int32) v2 M) ∧ (¬ s0 = 0 → k_M_delta_214 a1 Q KB K239 v2 s0 (1 : Int32) v2 M)
def k_M_delta_194 (a1 : Int32) (Q : Int32 → Mm → Prop) (KB : Int32 → Mm → Prop) (K239 : Mm → Prop) (v2 : Int32) (M : Mm) : Prop :=
  k_M_delta_199 a1 Q KB K239 v2 (1 : Int32) M
def k_M_delta_76 (a1 : Int32) (Q : Int32 → Mm → Prop) (KB : Int32 → Mm → Prop) (K239 : Mm → Prop) (v2 : Int32) (M : Mm) : Prop :=
  ((gi M 312 10) ≤ v2 → K239 M) ∧ (¬ (gi M 312 10) ≤ v2 → vp_in ((5 : Int32) * v2) 25 ∧ (∀ x97 : Int32, x97 = (gi M 325 (tn ((5 : Int32) * v2))) → vp_in v2 5 ∧ (vp_in (((5 : Int32) * v2) + (1 : Int32)) 25 ∧ (∀ x113 : Int32, x113 = (gi (si M 319 (tn v2) x97) 325 (tn (((5 : Int32) * v2) + (1 : Int32)))) → vp_in v2 5 ∧ (vp_in (((5 : Int32) * v2) + (2 : Int32)) 25 ∧ (∀ x129 : Int32, x129 = (gi (si (si M 319 (tn v2) x97) 320 (tn v2) x113) 325 (tn (((5 : Int32) * v2) + (2 : Int32)))) → vp_in v2 5 ∧ (vp_in (((5 : Int32) * v2) + (3 : Int32)) 25 ∧ (∀ x145 : Int32, x145 = (gi (si (si (si M 319 (tn v2) x97) 320 (tn v2) x113) 321 (tn v2) x129) 325 (tn (((5 : Int32) * v2) + (3 : Int32)))) → vp_in v2 5 ∧ (vp_in (((5 : Int32) * v2) + (4 : Int32)) 25 ∧ (∀ x161 : Int32, x161 = (gi (si (si (si (si M 319 (tn v2) x97) 320 (tn v2) x113) 321 (tn v2) x129) 322 (tn v2) x145) 325 (tn (((5 : Int32) * v2) + (4 : Int32)))) → vp_in v2 5 ∧ (vp_in v2 5 ∧ (∀ x173 : Int32, x173 = (gi (si (si (si (si (si M 319 (tn v2) x97) 320 (tn v2) x113) 321 (tn v2) x129) 322 (tn v2) x145) 323 (tn v2) x161) 326 (tn v2)) → vp_in v2 5 ∧ (vp_in v2 5 ∧ (((gi (si (si (si (si (si (si M 319 (tn v2) x97) 320 (tn v2) x113) 321 (tn v2) x129) 322 (tn v2) x145) 323 (tn v2) x161) 324 (tn v2) x173) 319 (tn v2)) = (3 : Int32) → k_M_delta_194 a1 Q KB K239 v2 (si (si (si (si (si (si M 319 (tn v2) x97) 320 (tn v2) x113) 321 (tn v2) x129) 322 (tn v2) x145) 323 (tn v2) x161) 324 (tn v2) x173)) ∧ (¬ (gi (si (si (si (si (si (si M 319 (tn v2) x97) 320 (tn v2) x113) 321 (tn v2) x129) 322 (tn v2) x145) 323 (tn v2) x161) 324 (tn v2) x173) 319 (tn v2)) = (3 : Int32) → vp_in v2 5 ∧ ((¬ (gi (si (si (si (si (si (si M 319 (tn v2) x97) 320 (tn v2) x113) 321 (tn v2) x129) 322 (tn v2) x145) 323 (tn v2) x161) 324 (tn v2) x173) 319 (tn v2)) = (5 : Int32) → k_M_delta_199 a1 Q KB K239 v2 (0 : Int32) (si (si (si (si (si (si M 319 (tn v2) x97) 320 (tn v2) x113) 321 (tn v2) x129) 322 (tn v2) x145) 323 (tn v2) x161) 324 (tn v2) x173)) ∧ ((gi (si (si (si (si (si (si M 319 (tn v2) x97) 320 (tn v2) x113) 321 (tn v2) x129) 322 (tn v2) x145) 323 (tn v2) x161) 324 (tn v2) x173) 319 (tn v2)) = (5 : Int32) → k_M_delta_194 a1 Q KB K239 v2 (si (si (si (si (si (si M 319 (tn v2) x97) 320 (tn v2) x113) 321 (tn v2) x129) 322 (tn v2) x145) 323 (tn v2) x161) 324 (tn v2) x173))))))))))))))))))
def lp_M_delta_76 (a1 : Int32) (Q : Int32 → Mm → Prop) (K239 : Mm → Prop) : Nat → Int32 → Mm → Prop
  | 0 => fun _ _ => False
  | n + 1 => fun v2 M => k_M_delta_76 a1 Q (lp_M_delta_76 a1 Q K239 n) K239 v2 M
def k_M_delta_246 (a1 : Int32) (Q : Int32 → Mm → Prop) (KB : Int32 → Mm → Prop) (v2 : Int32) (M : Mm) : Prop :=
  ((3 : Int32) ≤ v2 → Q (gi M 312 10) M) ∧ (¬ (3 : Int32) ≤ v2 → vp_in v2 3 ∧ (∀ x258 : Int32, x258 = v2 + (1 : Int32) → KB x258 (si M 330 (tn v2) (vp_nar .boolean (0 : Int32)))))
def lp_M_delta_246 (a1 : Int32) (Q : Int32 → Mm → Prop)  : Nat → Int32 → Mm → Prop
  | 0 => fun _ _ => False
  | n + 1 => fun v2 M => k_M_delta_246 a1 Q (lp_M_delta_246 a1 Q n)  v2 M
def wp_M_delta (a1 : Int32) (M : Mm) (Q : Int32 → Mm → Prop) : Prop :=
  wp_M_isText a1 M (fun (r1 : Int32) (M1 : Mm) => (¬ r1 = 0 → vp_in a1 4 ∧ ((0 ≤ (gi M1 317 (tn a1)) → wp_M_faultOf a1 M1 (fun (r26 : Int32) (M26 : Mm) => (r26 = (-9 : Int32) → ∀ x42 : Int32, x42 = (gi M26 312 21) → ∀ x50 : Int32, x50 = (gi (si M26 312 10 x42) 312 20) → ∃ n : Nat, lp_M_delta_55 a1 Q (fun (M : Mm) => ∃ n : Nat, lp_M_delta_76 a1 Q (fun (M : Mm) => ∃ n : Nat, lp_M_delta_246 a1 Q n (0 : Int32) (si M 312 28 (0 : Int32))) n (0 : Int32) M) n (0 : Int32) (si (si M26 312 10 x42) 312 11 x50)) ∧ (¬ r26 = (-9 : Int32) → Q (-4 : Int32) M26))) ∧ (¬ 0 ≤ (gi M1 317 (tn a1)) → wp_M_meets (1 : Int32) M1 (fun (r20 : Int32) (M20 : Mm) => Q r20 M20)))) ∧ (r1 = 0 → Q (-1 : Int32) M1))
def wp_M_isArm (a1 : Int32) (M : Mm) (Q : Int32 → Mm → Prop) : Prop :=
  wp_M_in a1 (0 : Int32) ((gi M 312 10) - (1 : Int32)) M (fun (r8 : Int32) (M8 : Mm) => zb r8 ∧ Q r8 M8)
def wp_M_isDead (a1 : Int32) (a2 : Int32) (M : Mm) (Q : Int32 → Mm → Prop) : Prop :=
  vp_in ((((31 : Int32) * a1) + (25 : Int32)) + a2) 186 ∧ ((¬ (gi M 327 (tn ((((31 : Int32) * a1) + (25 : Int32)) + a2))) = (1 : Int32) → Q (0 : Int32) M) ∧ ((gi M 327 (tn ((((31 : Int32) * a1) + (25 : Int32)) + a2))) = (1 : Int32) → Q (1 : Int32) M))
def wp_M_isOpen (a1 : Int32) (a2 : Int32) (M : Mm) (Q : Int32 → Mm → Prop) : Prop :=
  vp_in (((31 : Int32) * a1) + a2) 186 ∧ ((¬ (gi M 327 (tn (((31 : Int32) * a1) + a2))) = (1 : Int32) → Q (0 : Int32) M) ∧ ((gi M 327 (tn (((31 : Int32) * a1) + a2))) = (1 : Int32) → Q (1 : Int32) M))
def wp_M_isBarge (a1 : Int32) (a2 : Int32) (M : Mm) (Q : Int32 → Mm → Prop) : Prop :=
  vp_in ((((31 : Int32) * a1) + (20 : Int32)) + a2) 186 ∧ ((¬ (gi M 327 (tn ((((31 : Int32) * a1) + (20 : Int32)) + a2))) = (1 : Int32) → Q (0 : Int32) M) ∧ ((gi M 327 (tn ((((31 : Int32) * a1) + (20 : Int32)) + a2))) = (1 : Int32) → Q (1 : Int32) M))
def k_M_openSet_29 (a1 : Int32) (Q : Int32 → Mm → Prop) (KB : Int32 → Int32 → Mm → Prop) (v3 : Int32) (s0 : Int32) (s1 : Int32) (M : Mm) : Prop :=
  ∀ x30 : Int32, x30 = (s1 ||| s0) → ∀ x31 : Int32, x31 = v3 + (1 : Int32) → KB x30 x31 M
def k_M_openSet_4 (a1 : Int32) (Q : Int32 → Mm → Prop) (KB : Int32 → Int32 → Mm → Prop) (v2 : Int32) (v3 : Int32) (M : Mm) : Prop :=
  ((gi M 312 10) ≤ v3 → Q v2 M) ∧ (¬ (gi M 312 10) ≤ v3 → wp_M_isOpen a1 v3 M (fun (r16 : Int32) (M16 : Mm) => (r16 = 0 → k_M_openSet_29 a1 Q KB v3 (0 : Int32) v2 M16) ∧ (¬ r16 = 0 → k_M_openSet_29 a1 Q KB v3 ((1 : Int32) <<< (v3 &&& 31)) v2 M16)))
def lp_M_openSet_4 (a1 : Int32) (Q : Int32 → Mm → Prop)  : Nat → Int32 → Int32 → Mm → Prop
  | 0 => fun _ _ _ => False
  | n + 1 => fun v2 v3 M => k_M_openSet_4 a1 Q (lp_M_openSet_4 a1 Q n)  v2 v3 M
def wp_M_openSet (a1 : Int32) (M : Mm) (Q : Int32 → Mm → Prop) : Prop :=
  ∃ n : Nat, lp_M_openSet_4 a1 Q n (0 : Int32) (0 : Int32) M
def k_M_mayBe_55 (a1 : Int32) (a2 : Int32) (Q : Int32 → Mm → Prop)   (M : Mm) : Prop :=
  vp_in a2 5 ∧ (wp_M_openSet a1 M (fun (r63 : Int32) (M63 : Mm) => (¬ ((gi M 324 (tn a2)) &&& (r63 ^^^ (-1 : Int32))) = 0 → Q (0 : Int32) M63) ∧ (((gi M 324 (tn a2)) &&& (r63 ^^^ (-1 : Int32))) = 0 → Q (1 : Int32) M63)))
def wp_M_mayBe (a1 : Int32) (a2 : Int32) (M : Mm) (Q : Int32 → Mm → Prop) : Prop :=
  vp_in (((31 : Int32) * a1) + (30 : Int32)) 186 ∧ (vp_in a2 5 ∧ ((¬ (gi M 322 (tn a2)) = 0) ∧ (vp_in a2 5 ∧ ((¬ ((gi M 327 (tn (((31 : Int32) * a1) + (30 : Int32)))) - (gi M 327 (tn (((31 : Int32) * a1) + (30 : Int32)))) / (gi M 322 (tn a2)) * (gi M 322 (tn a2))) = (gi M 323 (tn a2)) → Q (0 : Int32) M) ∧ (((gi M 327 (tn (((31 : Int32) * a1) + (30 : Int32)))) - (gi M 327 (tn (((31 : Int32) * a1) + (30 : Int32)))) / (gi M 322 (tn a2)) * (gi M 322 (tn a2))) = (gi M 323 (tn a2)) → wp_M_isDead a1 a2 M (fun (r31 : Int32) (M31 : Mm) => (¬ r31 = 0 → Q (0 : Int32) M31) ∧ (r31 = 0 → wp_M_isOpen a1 a2 M31 (fun (r40 : Int32) (M40 : Mm) => (r40 = 0 → k_M_mayBe_55 a1 a2 Q M40) ∧ (¬ r40 = 0 → wp_M_isBarge a1 a2 M40 (fun (r49 : Int32) (M49 : Mm) => (¬ r49 = 0 → Q (0 : Int32) M49) ∧ (r49 = 0 → k_M_mayBe_55 a1 a2 Q M49)))))))))))
def wp_M_armTells (a1 : Int32) (a2 : Int32) (M : Mm) (Q : Int32 → Mm → Prop) : Prop :=
  (a2 = 0 → vp_in a1 5 ∧ (Q (gi M 319 (tn a1)) M)) ∧ (a2 = 1 → vp_in a1 5 ∧ (Q (gi M 320 (tn a1)) M)) ∧ (a2 = 2 → vp_in a1 5 ∧ (Q (gi M 321 (tn a1)) M)) ∧ (a2 = 3 → vp_in a1 186 ∧ (Q (gi M 327 (tn a1)) M)) ∧ (a2 = 4 → vp_in ((5 : Int32) + a1) 186 ∧ (Q (gi M 327 (tn ((5 : Int32) + a1))) M)) ∧ (a2 = 5 → vp_in ((10 : Int32) + a1) 186 ∧ (Q (gi M 327 (tn ((10 : Int32) + a1))) M)) ∧ (a2 = 6 → vp_in ((15 : Int32) + a1) 186 ∧ (Q (gi M 327 (tn ((15 : Int32) + a1))) M)) ∧ (a2.toInt < 0 ∨ 6 < a2.toInt → wp_M_mayBe (0 : Int32) a1 M (fun (r104 : Int32) (M104 : Mm) => (r104 = 0 → Q (0 : Int32) M104) ∧ (¬ r104 = 0 → Q (1 : Int32) M104)))
def wp_M_arm (a1 : Int32) (a2 : Int32) (M : Mm) (Q : Int32 → Mm → Prop) : Prop :=
  wp_M_isArm a1 M (fun (r2 : Int32) (M2 : Mm) => (r2 = 0 → Q (-1 : Int32) M2) ∧ (¬ r2 = 0 → wp_M_in a2 (0 : Int32) (7 : Int32) M2 (fun (r12 : Int32) (M12 : Mm) => (r12 = 0 → Q (-1 : Int32) M12) ∧ (¬ r12 = 0 → wp_M_armTells a1 a2 M12 (fun (r22 : Int32) (M22 : Mm) => wp_M_tells r22 (1 : Int32) M22 (fun (r26 : Int32) (M26 : Mm) => Q r26 M26))))))
def wp_M_greater (a0 : Int32) (a1 : Int32) (M : Mm) (Q : Int32 → Mm → Prop) : Prop :=
  (a0 ≤ a1 → Q a1 M) ∧ (¬ a0 ≤ a1 → Q a0 M)
def k_M_wideOpen_32 (a1 : Int32) (Q : Int32 → Mm → Prop) (KB : Int32 → Int32 → Mm → Prop) (v3 : Int32) (s0 : Int32) (s1 : Int32) (M : Mm) : Prop :=
  ∀ x33 : Int32, x33 = (s1 + s0) → ∀ x34 : Int32, x34 = v3 + (1 : Int32) → KB x33 x34 M
def k_M_wideOpen_4 (a1 : Int32) (Q : Int32 → Mm → Prop) (KB : Int32 → Int32 → Mm → Prop) (v2 : Int32) (v3 : Int32) (M : Mm) : Prop :=
  ((gi M 312 10) ≤ v3 → Q v2 M) ∧ (¬ (gi M 312 10) ≤ v3 → wp_M_isOpen a1 v3 M (fun (r16 : Int32) (M16 : Mm) => (r16 = 0 → k_M_wideOpen_32 a1 Q KB v3 (0 : Int32) v2 M16) ∧ (¬ r16 = 0 → vp_in v3 5 ∧ (k_M_wideOpen_32 a1 Q KB v3 (gi M16 320 (tn v3)) v2 M16))))
def lp_M_wideOpen_4 (a1 : Int32) (Q : Int32 → Mm → Prop)  : Nat → Int32 → Int32 → Mm → Prop
  | 0 => fun _ _ _ => False
  | n + 1 => fun v2 v3 M => k_M_wideOpen_4 a1 Q (lp_M_wideOpen_4 a1 Q n)  v2 v3 M
def wp_M_wideOpen (a1 : Int32) (M : Mm) (Q : Int32 → Mm → Prop) : Prop :=
  ∃ n : Nat, lp_M_wideOpen_4 a1 Q n (0 : Int32) (0 : Int32) M
def k_M_waterOf_108 (a1 : Int32) (a2 : Int32) (Q : Int32 → Mm → Prop) (KB : Int32 → Int32 → Int32 → Int32 → Mm → Prop) (K117 : Int32 → Int32 → Int32 → Mm → Prop) (v3 : Int32) (v4 : Int32) (v6 : Int32) (s0 : Int32) (s1 : Int32) (M : Mm) : Prop :=
  ∀ x109 : Int32, x109 = (s1 + s0) → ∀ x111 : Int32, x111 = v6 + (1 : Int32) → KB v3 v4 x109 x111 M
def k_M_waterOf_107 (a1 : Int32) (a2 : Int32) (Q : Int32 → Mm → Prop) (KB : Int32 → Int32 → Int32 → Int32 → Mm → Prop) (K117 : Int32 → Int32 → Int32 → Mm → Prop) (v3 : Int32) (v4 : Int32) (v6 : Int32) (s0 : Int32) (M : Mm) : Prop :=
  k_M_waterOf_108 a1 a2 Q KB K117 v3 v4 v6 (0 : Int32) s0 M
def k_M_waterOf_82 (a1 : Int32) (a2 : Int32) (Q : Int32 → Mm → Prop) (KB : Int32 → Int32 → Int32 → Int32 → Mm → Prop) (K117 : Int32 → Int32 → Int32 → Mm → Prop) (v3 : Int32) (v5 : Int32) (v6 : Int32) (s0 : Int32) (s1 : Int32) (M : Mm) : Prop :=
  ∀ x83 : Int32, x83 = (s1 - s0) → (a2 ≤ v6 → k_M_waterOf_107 a1 a2 Q KB K117 v3 x83 v6 v5 M) ∧ (¬ a2 ≤ v6 → wp_M_isOpen a1 v6 M (fun (r97 : Int32) (M97 : Mm) => (r97 = 0 → k_M_waterOf_107 a1 a2 Q KB K117 v3 x83 v6 v5 M97) ∧ (¬ r97 = 0 → k_M_waterOf_108 a1 a2 Q KB K117 v3 x83 v6 (1 : Int32) v5 M97)))
def k_M_waterOf_43 (a1 : Int32) (a2 : Int32) (Q : Int32 → Mm → Prop) (KB : Int32 → Int32 → Int32 → Int32 → Mm → Prop) (K117 : Int32 → Int32 → Int32 → Mm → Prop) (v3 : Int32) (v4 : Int32) (v5 : Int32) (v6 : Int32) (M : Mm) : Prop :=
  ((gi M 312 10) ≤ v6 → K117 v3 v4 v5 M) ∧ (¬ (gi M 312 10) ≤ v6 → wp_M_isOpen a1 v6 M (fun (r58 : Int32) (M58 : Mm) => (r58 = 0 → k_M_waterOf_82 a1 a2 Q KB K117 v3 v5 v6 (0 : Int32) v4 M58) ∧ (¬ r58 = 0 → vp_in v6 5 ∧ ((¬ v3 = 0) ∧ (k_M_waterOf_82 a1 a2 Q KB K117 v3 v5 v6 (((gi M58 312 11) * (gi M58 320 (tn v6))) / v3) v4 M58)))))
def lp_M_waterOf_43 (a1 : Int32) (a2 : Int32) (Q : Int32 → Mm → Prop) (K117 : Int32 → Int32 → Int32 → Mm → Prop) : Nat → Int32 → Int32 → Int32 → Int32 → Mm → Prop
  | 0 => fun _ _ _ _ _ => False
  | n + 1 => fun v3 v4 v5 v6 M => k_M_waterOf_43 a1 a2 Q (lp_M_waterOf_43 a1 a2 Q K117 n) K117 v3 v4 v5 v6 M
def wp_M_waterOf (a1 : Int32) (a2 : Int32) (M : Mm) (Q : Int32 → Mm → Prop) : Prop :=
  wp_M_isOpen a1 a2 M (fun (r3 : Int32) (M3 : Mm) => (¬ r3 = 0 → wp_M_wideOpen a1 M3 (fun (r27 : Int32) (M27 : Mm) => ∀ x35 : Int32, x35 = (gi M27 312 11) → ∃ n : Nat, lp_M_waterOf_43 a1 a2 Q (fun (v3 : Int32) (v4 : Int32) (v5 : Int32) (M : Mm) => vp_in a2 5 ∧ ((¬ v3 = 0) ∧ ((v4 ≤ v5 → Q ((((gi M 312 11) * (gi M 320 (tn a2))) / v3) + (0 : Int32)) M) ∧ (¬ v4 ≤ v5 → Q ((((gi M 312 11) * (gi M 320 (tn a2))) / v3) + (1 : Int32)) M)))) n r27 x35 (0 : Int32) (0 : Int32) M27)) ∧ (r3 = 0 → vp_in a2 5 ∧ ((¬ (gi M3 319 (tn a2)) = (4 : Int32) → Q (0 : Int32) M3) ∧ ((gi M3 319 (tn a2)) = (4 : Int32) → Q (1 : Int32) M3))))
def k_M_married_47 (a1 : Int32) (a2 : Int32) (Q : Int32 → Mm → Prop)  (s0 : Int32) (M : Mm) : Prop :=
  (s0 = 0 → Q (-9 : Int32) M) ∧ (¬ s0 = 0 → Q (a2 + (1 : Int32)) M)
def k_M_married_46 (a1 : Int32) (a2 : Int32) (Q : Int32 → Mm → Prop)   (M : Mm) : Prop :=
  k_M_married_47 a1 a2 Q (0 : Int32) M
def wp_M_married (a1 : Int32) (a2 : Int32) (M : Mm) (Q : Int32 → Mm → Prop) : Prop :=
  vp_in a2 5 ∧ ((¬ (gi M 319 (tn a2)) = (5 : Int32) → k_M_married_46 a1 a2 Q M) ∧ ((gi M 319 (tn a2)) = (5 : Int32) → ((gi M 312 10) ≤ (a2 + (1 : Int32)) → k_M_married_46 a1 a2 Q M) ∧ (¬ (gi M 312 10) ≤ (a2 + (1 : Int32)) → wp_M_isDead a1 (a2 + (1 : Int32)) M (fun (r25 : Int32) (M25 : Mm) => (¬ r25 = 0 → k_M_married_46 a1 a2 Q M25) ∧ (r25 = 0 → wp_M_isBarge a1 (a2 + (1 : Int32)) M25 (fun (r36 : Int32) (M36 : Mm) => (¬ r36 = 0 → k_M_married_46 a1 a2 Q M36) ∧ (r36 = 0 → k_M_married_47 a1 a2 Q (1 : Int32) M36)))))))
def k_M_mark_57 (a1 : Int32) (a2 : Int32) (Q : Int32 → Mm → Prop)   (M : Mm) : Prop :=
  (a2 = 1 → vp_in ((5 : Int32) + a1) 186 ∧ (wp_M_greater (0 : Int32) (((6 : Int32) - (gi M 327 (tn ((5 : Int32) + a1)))) / (2 : Int32)) M (fun (r102 : Int32) (M102 : Mm) => Q r102 M102))) ∧ (a2 = 2 → vp_in ((10 : Int32) + a1) 186 ∧ (Q (((10 : Int32) - (gi M 327 (tn ((10 : Int32) + a1)))) / (2 : Int32)) M)) ∧ (a2 = 3 → vp_in ((20 : Int32) + a1) 186 ∧ (Q (gi M 327 (tn ((20 : Int32) + a1))) M)) ∧ (a2 = 4 → wp_M_waterOf (0 : Int32) a1 M (fun (r134 : Int32) (M134 : Mm) => Q r134 M134)) ∧ (a2.toInt < 1 ∨ 4 < a2.toInt → wp_M_married (0 : Int32) a1 M (fun (r141 : Int32) (M141 : Mm) => Q r141 M141))
def k_M_mark_51 (a1 : Int32) (a2 : Int32) (Q : Int32 → Mm → Prop)   (M : Mm) : Prop :=
  wp_M_meets (3 : Int32) M (fun (r53 : Int32) (M53 : Mm) => Q r53 M53)
def k_M_mark_41 (a1 : Int32) (a2 : Int32) (Q : Int32 → Mm → Prop)  (v3 : Int32) (M : Mm) : Prop :=
  (¬ a2 = (3 : Int32) → k_M_mark_51 a1 a2 Q M) ∧ (a2 = (3 : Int32) → (v3 = (5 : Int32) → k_M_mark_57 a1 a2 Q M) ∧ (¬ v3 = (5 : Int32) → k_M_mark_51 a1 a2 Q M))
def wp_M_mark (a1 : Int32) (a2 : Int32) (M : Mm) (Q : Int32 → Mm → Prop) : Prop :=
  wp_M_isArm a1 M (fun (r2 : Int32) (M2 : Mm) => (r2 = 0 → Q (-1 : Int32) M2) ∧ (¬ r2 = 0 → wp_M_in a2 (1 : Int32) (5 : Int32) M2 (fun (r11 : Int32) (M11 : Mm) => (¬ r11 = 0 → vp_in a1 5 ∧ (∀ x25 : Int32, x25 = (gi M11 319 (tn a1)) → (x25 = a2 → k_M_mark_57 a1 a2 Q M11) ∧ (¬ x25 = a2 → (¬ a2 = (2 : Int32) → k_M_mark_41 a1 a2 Q x25 M11) ∧ (a2 = (2 : Int32) → (x25 = (4 : Int32) → k_M_mark_57 a1 a2 Q M11) ∧ (¬ x25 = (4 : Int32) → k_M_mark_41 a1 a2 Q x25 M11))))) ∧ (r11 = 0 → Q (-1 : Int32) M11))))
def wp_M_need (a1 : Int32) (a2 : Int32) (M : Mm) (Q : Int32 → Mm → Prop) : Prop :=
  wp_M_isArm a1 M (fun (r2 : Int32) (M2 : Mm) => (r2 = 0 → Q (-1 : Int32) M2) ∧ (¬ r2 = 0 → wp_M_in a2 (0 : Int32) (9 : Int32) M2 (fun (r12 : Int32) (M12 : Mm) => (¬ r12 = 0 → vp_in a1 5 ∧ (∀ x26 : Int32, x26 = (gi M12 321 (tn a1)) → vp_in a1 5 ∧ (Q x26 (si M12 321 (tn a1) a2)))) ∧ (r12 = 0 → Q (-1 : Int32) M12))))
def k_M_awaits_87 (a1 : Int32) (a2 : Int32) (a3 : Int32) (Q : Int32 → Mm → Prop)  (v4 : Int32) (s0 : Int32) (s1 : Int32) (M : Mm) : Prop :=
  vp_in s1 5 ∧ (Q v4 (si M 324 (tn s1) s0))
def k_M_awaits_50 (a1 : Int32) (a2 : Int32) (a3 : Int32) (Q : Int32 → Mm → Prop)  (s0 : Int32) (M : Mm) : Prop :=
  (¬ a3 = (1 : Int32) → vp_in a1 5 ∧ (k_M_awaits_87 a1 a2 a3 Q s0 ((gi M 324 (tn a1)) &&& (((1 : Int32) <<< (a2 &&& 31)) ^^^ (-1 : Int32))) a1 M)) ∧ (a3 = (1 : Int32) → vp_in a1 5 ∧ (k_M_awaits_87 a1 a2 a3 Q s0 ((gi M 324 (tn a1)) ||| ((1 : Int32) <<< (a2 &&& 31))) a1 M))
def wp_M_awaits (a1 : Int32) (a2 : Int32) (a3 : Int32) (M : Mm) (Q : Int32 → Mm → Prop) : Prop :=
  wp_M_isArm a1 M (fun (r2 : Int32) (M2 : Mm) => (r2 = 0 → Q (-1 : Int32) M2) ∧ (¬ r2 = 0 → wp_M_isArm a2 M2 (fun (r10 : Int32) (M10 : Mm) => (r10 = 0 → Q (-1 : Int32) M10) ∧ (¬ r10 = 0 → (a1 = a2 → Q (-1 : Int32) M10) ∧ (¬ a1 = a2 → wp_M_in a3 (0 : Int32) (1 : Int32) M10 (fun (r24 : Int32) (M24 : Mm) => (¬ r24 = 0 → vp_in a1 5 ∧ (wp_M_has (gi M24 324 (tn a1)) a2 M24 (fun (r39 : Int32) (M39 : Mm) => (r39 = 0 → k_M_awaits_50 a1 a2 a3 Q (0 : Int32) M39) ∧ (¬ r39 = 0 → k_M_awaits_50 a1 a2 a3 Q (1 : Int32) M39)))) ∧ (r24 = 0 → Q (-1 : Int32) M24)))))))
def k_M_remember_2  (Q : Mm → Prop) (KB : Int32 → Mm → Prop) (K34 : Mm → Prop) (v1 : Int32) (M : Mm) : Prop :=
  ((31 : Int32) ≤ v1 → K34 M) ∧ (¬ (31 : Int32) ≤ v1 → vp_in v1 186 ∧ (∀ x27 : Int32, x27 = (gi M 327 (tn v1)) → vp_in (((31 : Int32) * (gi M 312 28)) + v1) 1860 ∧ (∀ x28 : Int32, x28 = v1 + (1 : Int32) → KB x28 (si M 329 (tn (((31 : Int32) * (gi M 312 28)) + v1)) x27))))
def lp_M_remember_2  (Q : Mm → Prop) (K34 : Mm → Prop) : Nat → Int32 → Mm → Prop
  | 0 => fun _ _ => False
  | n + 1 => fun v1 M => k_M_remember_2  Q (lp_M_remember_2 Q K34 n) K34 v1 M
def wp_M_remember  (M : Mm) (Q : Mm → Prop) : Prop :=
  ∃ n : Nat, lp_M_remember_2 Q (fun (M : Mm) => ∀ x41 : Int32, x41 = ((gi M 312 28) + (1 : Int32)) → Q (si M 312 28 x41)) n (0 : Int32) M
def k_M_stamps_14 (a1 : Int32) (a2 : Int32) (Q : Mm → Prop)  (s0 : Int32) (M : Mm) : Prop :=
  wp_M_married a1 a2 M (fun (r18 : Int32) (M18 : Mm) => vp_in (((31 : Int32) * a1) + a2) 186 ∧ ((r18 = (-9 : Int32) → Q (si M18 327 (tn (((31 : Int32) * a1) + a2)) s0)) ∧ (¬ r18 = (-9 : Int32) → vp_in (((31 : Int32) * a1) + r18) 186 ∧ (Q (si (si M18 327 (tn (((31 : Int32) * a1) + a2)) s0) 327 (tn (((31 : Int32) * a1) + r18)) s0)))))
def wp_M_stamps (a1 : Int32) (a2 : Int32) (M : Mm) (Q : Mm → Prop) : Prop :=
  wp_M_isOpen a1 a2 M (fun (r3 : Int32) (M3 : Mm) => (r3 = 0 → k_M_stamps_14 a1 a2 Q (1 : Int32) M3) ∧ (¬ r3 = 0 → k_M_stamps_14 a1 a2 Q (0 : Int32) M3))
def wp_M_stamp (a1 : Int32) (M : Mm) (Q : Int32 → Mm → Prop) : Prop :=
  wp_M_isArm a1 M (fun (r2 : Int32) (M2 : Mm) => (¬ r2 = 0 → wp_M_mayBe (0 : Int32) a1 M2 (fun (r13 : Int32) (M13 : Mm) => (¬ r13 = 0 → (¬ (gi M13 312 28) = (60 : Int32) → wp_M_remember M13 (fun (M35 : Mm) => wp_M_stamps (0 : Int32) a1 M35 (fun (M41 : Mm) => wp_M_openSet (0 : Int32) M41 (fun (r46 : Int32) (M46 : Mm) => Q r46 M46)))) ∧ ((gi M13 312 28) = (60 : Int32) → Q (-2 : Int32) M13)) ∧ (r13 = 0 → Q (-4 : Int32) M13))) ∧ (r2 = 0 → Q (-1 : Int32) M2))
def wp_M_lesser (a0 : Int32) (a1 : Int32) (M : Mm) (Q : Int32 → Mm → Prop) : Prop :=
  (a1 ≤ a0 → Q a1 M) ∧ (¬ a1 ≤ a0 → Q a0 M)
def k_M_isSilty_20 (a1 : Int32) (Q : Int32 → Mm → Prop)   (M : Mm) : Prop :=
  Q (1 : Int32) M
def wp_M_isSilty (a1 : Int32) (M : Mm) (Q : Int32 → Mm → Prop) : Prop :=
  vp_in a1 5 ∧ (((gi M 319 (tn a1)) = (2 : Int32) → k_M_isSilty_20 a1 Q M) ∧ (¬ (gi M 319 (tn a1)) = (2 : Int32) → vp_in a1 5 ∧ ((¬ (gi M 319 (tn a1)) = (4 : Int32) → Q (0 : Int32) M) ∧ ((gi M 319 (tn a1)) = (4 : Int32) → k_M_isSilty_20 a1 Q M))))
def k_M_bits_4 (a0 : Int32) (Q : Int32 → Mm → Prop) (KB : Int32 → Int32 → Mm → Prop) (v1 : Int32) (v2 : Int32) (M : Mm) : Prop :=
  (v2 = 0 → Q v1 M) ∧ (¬ v2 = 0 → ∀ x8 : Int32, x8 = v1 + (1 : Int32) → ∀ x16 : Int32, x16 = (v2 &&& (v2 - (1 : Int32))) → KB x8 x16 M)
def lp_M_bits_4 (a0 : Int32) (Q : Int32 → Mm → Prop)  : Nat → Int32 → Int32 → Mm → Prop
  | 0 => fun _ _ _ => False
  | n + 1 => fun v1 v2 M => k_M_bits_4 a0 Q (lp_M_bits_4 a0 Q n)  v1 v2 M
def wp_M_bits (a0 : Int32) (M : Mm) (Q : Int32 → Mm → Prop) : Prop :=
  ∃ n : Nat, lp_M_bits_4 a0 Q n (0 : Int32) a0 M
def k_M_passes_12 (a1 : Int32) (Q : Int32 → Mm → Prop) (KB : Int32 → Int32 → Mm → Prop) (K38 : Int32 → Mm → Prop) (v2 : Int32) (v3 : Int32) (M : Mm) : Prop :=
  ((gi M 312 10) ≤ v3 → K38 v2 M) ∧ (¬ (gi M 312 10) ≤ v3 → wp_M_waterOf a1 v3 M (fun (r28 : Int32) (M28 : Mm) => vp_in v3 5 ∧ (∀ x32 : Int32, x32 = v3 + (1 : Int32) → KB v2 x32 (si M28 328 (tn v3) r28))))
def lp_M_passes_12 (a1 : Int32) (Q : Int32 → Mm → Prop) (K38 : Int32 → Mm → Prop) : Nat → Int32 → Int32 → Mm → Prop
  | 0 => fun _ _ _ => False
  | n + 1 => fun v2 v3 M => k_M_passes_12 a1 Q (lp_M_passes_12 a1 Q K38 n) K38 v2 v3 M
def k_M_passes_287 (a1 : Int32) (Q : Int32 → Mm → Prop) (KB : Int32 → Int32 → Mm → Prop) (K293 : Int32 → Mm → Prop) (v2 : Int32) (v3 : Int32) (M : Mm) : Prop :=
  ∀ x287 : Int32, x287 = v3 + (1 : Int32) → KB v2 x287 M
def k_M_passes_227 (a1 : Int32) (Q : Int32 → Mm → Prop) (KB : Int32 → Int32 → Mm → Prop) (K293 : Int32 → Mm → Prop) (v2 : Int32) (v3 : Int32) (s0 : Int32) (M : Mm) : Prop :=
  wp_M_lesser (9 : Int32) s0 M (fun (r243 : Int32) (M243 : Mm) => vp_in ((v2 + (10 : Int32)) + v3) 186 ∧ ((s0 < (9 : Int32) → k_M_passes_287 a1 Q KB K293 v2 v3 (si M243 327 (tn ((v2 + (10 : Int32)) + v3)) r243)) ∧ (¬ s0 < (9 : Int32) → vp_in ((v2 + (25 : Int32)) + v3) 186 ∧ (vp_in ((v2 + (20 : Int32)) + v3) 186 ∧ (vp_in (v2 + v3) 186 ∧ (k_M_passes_287 a1 Q KB K293 v2 v3 (si (si (si (si M243 327 (tn ((v2 + (10 : Int32)) + v3)) r243) 327 (tn ((v2 + (25 : Int32)) + v3)) (1 : Int32)) 327 (tn ((v2 + (20 : Int32)) + v3)) (0 : Int32)) 327 (tn (v2 + v3)) (0 : Int32))))))))
def k_M_passes_226 (a1 : Int32) (Q : Int32 → Mm → Prop) (KB : Int32 → Int32 → Mm → Prop) (K293 : Int32 → Mm → Prop) (v2 : Int32) (v3 : Int32) (s0 : Int32) (s1 : Int32) (M : Mm) : Prop :=
  k_M_passes_227 a1 Q KB K293 v2 v3 (s1 + s0) M
def k_M_passes_177 (a1 : Int32) (Q : Int32 → Mm → Prop) (KB : Int32 → Int32 → Mm → Prop) (K293 : Int32 → Mm → Prop) (v2 : Int32) (v3 : Int32) (s0 : Int32) (s1 : Int32) (M : Mm) : Prop :=
  vp_in s1 186 ∧ (vp_in ((v2 + (10 : Int32)) + v3) 186 ∧ (∀ x189 : Int32, x189 = (gi (si M 327 (tn s1) s0) 327 (tn ((v2 + (10 : Int32)) + v3))) → wp_M_isOpen a1 v3 (si M 327 (tn s1) s0) (fun (r194 : Int32) (M194 : Mm) => (r194 = 0 → wp_M_isSilty v3 M194 (fun (r215 : Int32) (M215 : Mm) => (r215 = 0 → k_M_passes_226 a1 Q KB K293 v2 v3 (1 : Int32) x189 M215) ∧ (¬ r215 = 0 → k_M_passes_226 a1 Q KB K293 v2 v3 (2 : Int32) x189 M215))) ∧ (¬ r194 = 0 → wp_M_greater (0 : Int32) (x189 - (1 : Int32)) M194 (fun (r205 : Int32) (M205 : Mm) => k_M_passes_227 a1 Q KB K293 v2 v3 r205 M205)))))
def k_M_passes_173 (a1 : Int32) (Q : Int32 → Mm → Prop) (KB : Int32 → Int32 → Mm → Prop) (K293 : Int32 → Mm → Prop) (v2 : Int32) (v3 : Int32) (s0 : Int32) (s1 : Int32) (s2 : Int32) (s3 : Int32) (M : Mm) : Prop :=
  wp_M_lesser s2 (s1 + s0) M (fun (r174 : Int32) (M174 : Mm) => k_M_passes_177 a1 Q KB K293 v2 v3 r174 s3 M174)
def k_M_passes_129 (a1 : Int32) (Q : Int32 → Mm → Prop) (KB : Int32 → Int32 → Mm → Prop) (K293 : Int32 → Mm → Prop) (v2 : Int32) (v3 : Int32) (v4 : Int32) (v5 : Int32) (M : Mm) : Prop :=
  (v4 = 0 → vp_in v3 5 ∧ ((¬ (gi M 319 (tn v3)) = (1 : Int32) → k_M_passes_173 a1 Q KB K293 v2 v3 (1 : Int32) v5 (9 : Int32) ((v2 + (5 : Int32)) + v3) M) ∧ ((gi M 319 (tn v3)) = (1 : Int32) → k_M_passes_173 a1 Q KB K293 v2 v3 (2 : Int32) v5 (9 : Int32) ((v2 + (5 : Int32)) + v3) M))) ∧ (¬ v4 = 0 → wp_M_greater (0 : Int32) (v5 - (1 : Int32)) M (fun (r148 : Int32) (M148 : Mm) => k_M_passes_177 a1 Q KB K293 v2 v3 r148 ((v2 + (5 : Int32)) + v3) M148))
def k_M_passes_68 (a1 : Int32) (Q : Int32 → Mm → Prop) (KB : Int32 → Int32 → Mm → Prop) (K293 : Int32 → Mm → Prop) (v2 : Int32) (v3 : Int32) (s0 : Int32) (M : Mm) : Prop :=
  vp_in ((v2 + (5 : Int32)) + v3) 186 ∧ (∀ x80 : Int32, x80 = (gi M 327 (tn ((v2 + (5 : Int32)) + v3))) → (s0 = 0 → k_M_passes_129 a1 Q KB K293 v2 v3 s0 x80 M) ∧ (¬ s0 = 0 → wp_M_isDead a1 v3 M (fun (r90 : Int32) (M90 : Mm) => (¬ r90 = 0 → k_M_passes_129 a1 Q KB K293 v2 v3 s0 x80 M90) ∧ (r90 = 0 → ((4 : Int32) < x80 → k_M_passes_129 a1 Q KB K293 v2 v3 s0 x80 M90) ∧ (¬ (4 : Int32) < x80 → ∀ x111 : Int32, x111 = ((gi M90 312 26) ||| ((1 : Int32) <<< (v3 &&& 31))) → vp_in ((v2 + (15 : Int32)) + v3) 186 ∧ (∀ x128 : Int32, x128 = ((gi (si M90 312 26 x111) 327 (tn ((v2 + (15 : Int32)) + v3))) + (1 : Int32)) → vp_in ((v2 + (15 : Int32)) + v3) 186 ∧ (k_M_passes_129 a1 Q KB K293 v2 v3 s0 x80 (si (si M90 312 26 x111) 327 (tn ((v2 + (15 : Int32)) + v3)) x128))))))))
def k_M_passes_40 (a1 : Int32) (Q : Int32 → Mm → Prop) (KB : Int32 → Int32 → Mm → Prop) (K293 : Int32 → Mm → Prop) (v2 : Int32) (v3 : Int32) (M : Mm) : Prop :=
  ((gi M 312 10) ≤ v3 → K293 v2 M) ∧ (¬ (gi M 312 10) ≤ v3 → vp_in v3 5 ∧ (vp_in v3 5 ∧ (((gi M 328 (tn v3)) < (gi M 321 (tn v3)) → k_M_passes_68 a1 Q KB K293 v2 v3 (0 : Int32) M) ∧ (¬ (gi M 328 (tn v3)) < (gi M 321 (tn v3)) → k_M_passes_68 a1 Q KB K293 v2 v3 (1 : Int32) M))))
def lp_M_passes_40 (a1 : Int32) (Q : Int32 → Mm → Prop) (K293 : Int32 → Mm → Prop) : Nat → Int32 → Int32 → Mm → Prop
  | 0 => fun _ _ _ => False
  | n + 1 => fun v2 v3 M => k_M_passes_40 a1 Q (lp_M_passes_40 a1 Q K293 n) K293 v2 v3 M
def wp_M_passes (a1 : Int32) (M : Mm) (Q : Int32 → Mm → Prop) : Prop :=
  ∀ x4 : Int32, x4 = ((31 : Int32) * a1) → ∃ n : Nat, lp_M_passes_12 a1 Q (fun (v2 : Int32) (M : Mm) => ∃ n : Nat, lp_M_passes_40 a1 Q (fun (v2 : Int32) (M : Mm) => vp_in (v2 + (30 : Int32)) 186 ∧ (∀ x305 : Int32, x305 = ((gi M 327 (tn (v2 + (30 : Int32)))) + (1 : Int32)) → vp_in (v2 + (30 : Int32)) 186 ∧ (wp_M_bits (gi (si M 327 (tn (v2 + (30 : Int32))) x305) 312 26) (si M 327 (tn (v2 + (30 : Int32))) x305) (fun (r310 : Int32) (M310 : Mm) => Q r310 M310)))) n v2 (0 : Int32) M) n x4 (0 : Int32) (si M 312 26 (0 : Int32))
def wp_M_season  (M : Mm) (Q : Int32 → Mm → Prop) : Prop :=
  (¬ (gi M 312 10) = 0 → (¬ (gi M 312 28) = (60 : Int32) → wp_M_remember M (fun (M23 : Mm) => wp_M_passes (0 : Int32) M23 (fun (r28 : Int32) (M28 : Mm) => wp_M_tells (gi M28 312 26) r28 M28 (fun (r38 : Int32) (M38 : Mm) => Q r38 M38)))) ∧ ((gi M 312 28) = (60 : Int32) → Q (-2 : Int32) M)) ∧ ((gi M 312 10) = 0 → Q (-4 : Int32) M)
def wp_M_leaves (a1 : Int32) (a2 : Int32) (M : Mm) (Q : Mm → Prop) : Prop :=
  vp_in ((((31 : Int32) * a1) + (20 : Int32)) + a2) 186 ∧ (vp_in (((31 : Int32) * a1) + a2) 186 ∧ (Q (si (si M 327 (tn ((((31 : Int32) * a1) + (20 : Int32)) + a2)) (0 : Int32)) 327 (tn (((31 : Int32) * a1) + a2)) (0 : Int32))))
def wp_M_leave (a1 : Int32) (M : Mm) (Q : Int32 → Mm → Prop) : Prop :=
  wp_M_isArm a1 M (fun (r2 : Int32) (M2 : Mm) => (¬ r2 = 0 → wp_M_isBarge (0 : Int32) a1 M2 (fun (r13 : Int32) (M13 : Mm) => (¬ r13 = 0 → (¬ (gi M13 312 28) = (60 : Int32) → wp_M_remember M13 (fun (M35 : Mm) => wp_M_leaves (0 : Int32) a1 M35 (fun (M41 : Mm) => Q (1 : Int32) M41))) ∧ ((gi M13 312 28) = (60 : Int32) → Q (-2 : Int32) M13)) ∧ (r13 = 0 → Q (-4 : Int32) M13))) ∧ (r2 = 0 → Q (-1 : Int32) M2))
def k_M_undo_23 (a1 : Int32) (Q : Int32 → Mm → Prop) (KB : Int32 → Int32 → Mm → Prop) (v2 : Int32) (v3 : Int32) (M : Mm) : Prop :=
  ((31 : Int32) ≤ v3 → Q v2 (si M 312 28 a1)) ∧ (¬ (31 : Int32) ≤ v3 → (v2 ≤ 0 → Q v2 (si M 312 28 a1)) ∧ (¬ v2 ≤ 0 → vp_in (((31 : Int32) * a1) + v3) 1860 ∧ (∀ x49 : Int32, x49 = (gi M 329 (tn (((31 : Int32) * a1) + v3))) → vp_in v3 186 ∧ (∀ x50 : Int32, x50 = v3 + (1 : Int32) → KB v2 x50 (si M 327 (tn v3) x49)))))
def lp_M_undo_23 (a1 : Int32) (Q : Int32 → Mm → Prop)  : Nat → Int32 → Int32 → Mm → Prop
  | 0 => fun _ _ _ => False
  | n + 1 => fun v2 v3 M => k_M_undo_23 a1 Q (lp_M_undo_23 a1 Q n)  v2 v3 M
def wp_M_undo (a1 : Int32) (M : Mm) (Q : Int32 → Mm → Prop) : Prop :=
  wp_M_in a1 (0 : Int32) (gi M 312 28) M (fun (r6 : Int32) (M6 : Mm) => (¬ r6 = 0 → ∀ x20 : Int32, x20 = ((gi M6 312 28) - a1) → ∃ n : Nat, lp_M_undo_23 a1 Q n x20 (0 : Int32) M6) ∧ (r6 = 0 → Q (-1 : Int32) M6))
def wp_M_now  (M : Mm) (Q : Int32 → Mm → Prop) : Prop :=
  (¬ (gi M 312 10) = 0 → wp_M_openSet (0 : Int32) M (fun (r15 : Int32) (M15 : Mm) => vp_in (30 : Int32) 186 ∧ (wp_M_tells r15 (gi M15 327 (tn (30 : Int32))) M15 (fun (r25 : Int32) (M25 : Mm) => Q r25 M25)))) ∧ ((gi M 312 10) = 0 → Q (-4 : Int32) M)
def wp_M_water (a1 : Int32) (M : Mm) (Q : Int32 → Mm → Prop) : Prop :=
  wp_M_isArm a1 M (fun (r2 : Int32) (M2 : Mm) => (r2 = 0 → Q (-1 : Int32) M2) ∧ (¬ r2 = 0 → wp_M_waterOf (0 : Int32) a1 M2 (fun (r11 : Int32) (M11 : Mm) => Q r11 M11)))
def k_M_keep_40 (a1 : Int32) (Q : Int32 → Mm → Prop) (KB : Int32 → Mm → Prop) (K69 : Mm → Prop) (v2 : Int32) (M : Mm) : Prop :=
  ((31 : Int32) ≤ v2 → K69 M) ∧ (¬ (31 : Int32) ≤ v2 → vp_in v2 186 ∧ (∀ x62 : Int32, x62 = (gi M 327 (tn v2)) → vp_in (((31 : Int32) * a1) + v2) 93 ∧ (∀ x63 : Int32, x63 = v2 + (1 : Int32) → KB x63 (si M 332 (tn (((31 : Int32) * a1) + v2)) x62))))
def lp_M_keep_40 (a1 : Int32) (Q : Int32 → Mm → Prop) (K69 : Mm → Prop) : Nat → Int32 → Mm → Prop
  | 0 => fun _ _ => False
  | n + 1 => fun v2 M => k_M_keep_40 a1 Q (lp_M_keep_40 a1 Q K69 n) K69 v2 M
def k_M_keep_71 (a1 : Int32) (Q : Int32 → Mm → Prop) (KB : Int32 → Mm → Prop) (K98 : Mm → Prop) (v2 : Int32) (M : Mm) : Prop :=
  ((5 : Int32) ≤ v2 → K98 M) ∧ (¬ (5 : Int32) ≤ v2 → vp_in v2 5 ∧ (∀ x91 : Int32, x91 = (gi M 321 (tn v2)) → vp_in (((5 : Int32) * a1) + v2) 15 ∧ (∀ x92 : Int32, x92 = v2 + (1 : Int32) → KB x92 (si M 333 (tn (((5 : Int32) * a1) + v2)) x91))))
def lp_M_keep_71 (a1 : Int32) (Q : Int32 → Mm → Prop) (K98 : Mm → Prop) : Nat → Int32 → Mm → Prop
  | 0 => fun _ _ => False
  | n + 1 => fun v2 M => k_M_keep_71 a1 Q (lp_M_keep_71 a1 Q K98 n) K98 v2 M
def k_M_keep_100 (a1 : Int32) (Q : Int32 → Mm → Prop) (KB : Int32 → Mm → Prop) (v2 : Int32) (M : Mm) : Prop :=
  (((31 : Int32) * (gi M 312 28)) ≤ v2 → Q (gi M 312 28) M) ∧ (¬ ((31 : Int32) * (gi M 312 28)) ≤ v2 → vp_in v2 1860 ∧ (∀ x128 : Int32, x128 = (gi M 329 (tn v2)) → vp_in (((1860 : Int32) * a1) + v2) 5580 ∧ (∀ x129 : Int32, x129 = v2 + (1 : Int32) → KB x129 (si M 334 (tn (((1860 : Int32) * a1) + v2)) x128))))
def lp_M_keep_100 (a1 : Int32) (Q : Int32 → Mm → Prop)  : Nat → Int32 → Mm → Prop
  | 0 => fun _ _ => False
  | n + 1 => fun v2 M => k_M_keep_100 a1 Q (lp_M_keep_100 a1 Q n)  v2 M
def wp_M_keep (a1 : Int32) (M : Mm) (Q : Int32 → Mm → Prop) : Prop :=
  wp_M_in a1 (0 : Int32) (2 : Int32) M (fun (r3 : Int32) (M3 : Mm) => (¬ r3 = 0 → (¬ (gi M3 312 10) = 0 → vp_in a1 3 ∧ (∀ x37 : Int32, x37 = (gi (si M3 330 (tn a1) (vp_nar .boolean (1 : Int32))) 312 28) → vp_in a1 3 ∧ (∃ n : Nat, lp_M_keep_40 a1 Q (fun (M : Mm) => ∃ n : Nat, lp_M_keep_71 a1 Q (fun (M : Mm) => ∃ n : Nat, lp_M_keep_100 a1 Q n (0 : Int32) M) n (0 : Int32) M) n (0 : Int32) (si (si M3 330 (tn a1) (vp_nar .boolean (1 : Int32))) 331 (tn a1) x37)))) ∧ ((gi M3 312 10) = 0 → Q (-4 : Int32) M3)) ∧ (r3 = 0 → Q (-1 : Int32) M3))
def k_M_on_38 (a1 : Int32) (Q : Int32 → Mm → Prop) (KB : Int32 → Mm → Prop) (K67 : Mm → Prop) (v2 : Int32) (M : Mm) : Prop :=
  ((31 : Int32) ≤ v2 → K67 M) ∧ (¬ (31 : Int32) ≤ v2 → vp_in (((31 : Int32) * a1) + v2) 93 ∧ (∀ x60 : Int32, x60 = (gi M 332 (tn (((31 : Int32) * a1) + v2))) → vp_in v2 186 ∧ (∀ x61 : Int32, x61 = v2 + (1 : Int32) → KB x61 (si M 327 (tn v2) x60))))
def lp_M_on_38 (a1 : Int32) (Q : Int32 → Mm → Prop) (K67 : Mm → Prop) : Nat → Int32 → Mm → Prop
  | 0 => fun _ _ => False
  | n + 1 => fun v2 M => k_M_on_38 a1 Q (lp_M_on_38 a1 Q K67 n) K67 v2 M
def k_M_on_69 (a1 : Int32) (Q : Int32 → Mm → Prop) (KB : Int32 → Mm → Prop) (K96 : Mm → Prop) (v2 : Int32) (M : Mm) : Prop :=
  ((5 : Int32) ≤ v2 → K96 M) ∧ (¬ (5 : Int32) ≤ v2 → vp_in (((5 : Int32) * a1) + v2) 15 ∧ (∀ x89 : Int32, x89 = (gi M 333 (tn (((5 : Int32) * a1) + v2))) → vp_in v2 5 ∧ (∀ x90 : Int32, x90 = v2 + (1 : Int32) → KB x90 (si M 321 (tn v2) x89))))
def lp_M_on_69 (a1 : Int32) (Q : Int32 → Mm → Prop) (K96 : Mm → Prop) : Nat → Int32 → Mm → Prop
  | 0 => fun _ _ => False
  | n + 1 => fun v2 M => k_M_on_69 a1 Q (lp_M_on_69 a1 Q K96 n) K96 v2 M
def k_M_on_98 (a1 : Int32) (Q : Int32 → Mm → Prop) (KB : Int32 → Mm → Prop) (v2 : Int32) (M : Mm) : Prop :=
  (((31 : Int32) * (gi M 312 28)) ≤ v2 → Q (gi M 312 28) M) ∧ (¬ ((31 : Int32) * (gi M 312 28)) ≤ v2 → vp_in (((1860 : Int32) * a1) + v2) 5580 ∧ (∀ x126 : Int32, x126 = (gi M 334 (tn (((1860 : Int32) * a1) + v2))) → vp_in v2 1860 ∧ (∀ x127 : Int32, x127 = v2 + (1 : Int32) → KB x127 (si M 329 (tn v2) x126))))
def lp_M_on_98 (a1 : Int32) (Q : Int32 → Mm → Prop)  : Nat → Int32 → Mm → Prop
  | 0 => fun _ _ => False
  | n + 1 => fun v2 M => k_M_on_98 a1 Q (lp_M_on_98 a1 Q n)  v2 M
def wp_M_on (a1 : Int32) (M : Mm) (Q : Int32 → Mm → Prop) : Prop :=
  wp_M_in a1 (0 : Int32) (2 : Int32) M (fun (r3 : Int32) (M3 : Mm) => (¬ r3 = 0 → vp_in a1 3 ∧ ((¬ (gi M3 330 (tn a1)) = 0 → vp_in a1 3 ∧ (∀ x33 : Int32, x33 = (gi M3 331 (tn a1)) → ∃ n : Nat, lp_M_on_38 a1 Q (fun (M : Mm) => ∃ n : Nat, lp_M_on_69 a1 Q (fun (M : Mm) => ∃ n : Nat, lp_M_on_98 a1 Q n (0 : Int32) M) n (0 : Int32) M) n (0 : Int32) (si M3 312 28 x33))) ∧ ((gi M3 330 (tn a1)) = 0 → wp_M_meets (1 : Int32) M3 (fun (r22 : Int32) (M22 : Mm) => Q r22 M22)))) ∧ (r3 = 0 → Q (-1 : Int32) M3))
def wp_M_setMany  (M : Mm) (Q : Int32 → Mm → Prop) : Prop :=
  Q ((1 : Int32) <<< ((gi M 312 10) &&& 31)) M
def k_M_copyTo_2 (a1 : Int32) (a2 : Int32) (Q : Mm → Prop) (KB : Int32 → Mm → Prop) (v3 : Int32) (M : Mm) : Prop :=
  ((31 : Int32) ≤ v3 → Q M) ∧ (¬ (31 : Int32) ≤ v3 → vp_in (((31 : Int32) * a1) + v3) 186 ∧ (∀ x29 : Int32, x29 = (gi M 327 (tn (((31 : Int32) * a1) + v3))) → vp_in (((31 : Int32) * a2) + v3) 186 ∧ (∀ x30 : Int32, x30 = v3 + (1 : Int32) → KB x30 (si M 327 (tn (((31 : Int32) * a2) + v3)) x29))))
def lp_M_copyTo_2 (a1 : Int32) (a2 : Int32) (Q : Mm → Prop)  : Nat → Int32 → Mm → Prop
  | 0 => fun _ _ => False
  | n + 1 => fun v3 M => k_M_copyTo_2 a1 a2 Q (lp_M_copyTo_2 a1 a2 Q n)  v3 M
def wp_M_copyTo (a1 : Int32) (a2 : Int32) (M : Mm) (Q : Mm → Prop) : Prop :=
  ∃ n : Nat, lp_M_copyTo_2 a1 a2 Q n (0 : Int32) M
def k_M_stampsOf_47 (a1 : Int32) (a2 : Int32) (Q : Int32 → Mm → Prop) (KB : Int32 → Int32 → Mm → Prop) (v3 : Int32) (v4 : Int32) (M : Mm) : Prop :=
  ∀ x47 : Int32, x47 = v4 + (1 : Int32) → KB v3 x47 M
def k_M_stampsOf_5 (a1 : Int32) (a2 : Int32) (Q : Int32 → Mm → Prop) (KB : Int32 → Int32 → Mm → Prop) (v3 : Int32) (v4 : Int32) (M : Mm) : Prop :=
  ((gi M 312 10) ≤ v4 → Q v3 M) ∧ (¬ (gi M 312 10) ≤ v4 → wp_M_has a2 v4 M (fun (r17 : Int32) (M17 : Mm) => (r17 = 0 → k_M_stampsOf_47 a1 a2 Q KB v3 v4 M17) ∧ (¬ r17 = 0 → wp_M_mayBe a1 v4 M17 (fun (r27 : Int32) (M27 : Mm) => (r27 = 0 → k_M_stampsOf_47 a1 a2 Q KB v3 v4 M27) ∧ (¬ r27 = 0 → wp_M_stamps a1 v4 M27 (fun (M37 : Mm) => ∀ x46 : Int32, x46 = (v3 ||| ((1 : Int32) <<< (v4 &&& 31))) → k_M_stampsOf_47 a1 a2 Q KB x46 v4 M37))))))
def lp_M_stampsOf_5 (a1 : Int32) (a2 : Int32) (Q : Int32 → Mm → Prop)  : Nat → Int32 → Int32 → Mm → Prop
  | 0 => fun _ _ _ => False
  | n + 1 => fun v3 v4 M => k_M_stampsOf_5 a1 a2 Q (lp_M_stampsOf_5 a1 a2 Q n)  v3 v4 M
def wp_M_stampsOf (a1 : Int32) (a2 : Int32) (M : Mm) (Q : Int32 → Mm → Prop) : Prop :=
  ∃ n : Nat, lp_M_stampsOf_5 a1 a2 Q n (0 : Int32) (0 : Int32) M
def k_M_run_93 (a1 : Int32) (Q : Int32 → Mm → Prop) (KB : Int32 → Int32 → Mm → Prop) (K100 : Int32 → Mm → Prop) (v3 : Int32) (s0 : Int32) (M : Mm) : Prop :=
  ∀ x94 : Int32, x94 = v3 + (1 : Int32) → KB s0 x94 M
def k_M_run_92 (a1 : Int32) (Q : Int32 → Mm → Prop) (KB : Int32 → Int32 → Mm → Prop) (K100 : Int32 → Mm → Prop) (v3 : Int32) (M : Mm) : Prop :=
  k_M_run_93 a1 Q KB K100 v3 (0 : Int32) M
def k_M_run_55 (a1 : Int32) (Q : Int32 → Mm → Prop) (KB : Int32 → Int32 → Mm → Prop) (K100 : Int32 → Mm → Prop) (v2 : Int32) (v3 : Int32) (M : Mm) : Prop :=
  vp_in a1 6 ∧ (((gi M 314 (tn a1)) ≤ v3 → K100 v2 M) ∧ (¬ (gi M 314 (tn a1)) ≤ v3 → (v2 = 0 → k_M_run_92 a1 Q KB K100 v3 M) ∧ (¬ v2 = 0 → wp_M_rowAt a1 v3 M (fun (r72 : Int32) (M72 : Mm) => wp_M_setMany M72 (fun (r77 : Int32) (M77 : Mm) => wp_M_in r72 (0 : Int32) (r77 - (1 : Int32)) M77 (fun (r82 : Int32) (M82 : Mm) => (r82 = 0 → k_M_run_92 a1 Q KB K100 v3 M82) ∧ (¬ r82 = 0 → k_M_run_93 a1 Q KB K100 v3 (1 : Int32) M82)))))))
def lp_M_run_55 (a1 : Int32) (Q : Int32 → Mm → Prop) (K100 : Int32 → Mm → Prop) : Nat → Int32 → Int32 → Mm → Prop
  | 0 => fun _ _ _ => False
  | n + 1 => fun v2 v3 M => k_M_run_55 a1 Q (lp_M_run_55 a1 Q K100 n) K100 v2 v3 M
def k_M_run_124 (a1 : Int32) (Q : Int32 → Mm → Prop) (KB : Int32 → Int32 → Int32 → Mm → Prop) (K169 : Int32 → Int32 → Mm → Prop) (v3 : Int32) (v4 : Int32) (v5 : Int32) (M : Mm) : Prop :=
  vp_in a1 6 ∧ (((gi M 314 (tn a1)) ≤ v5 → K169 v3 v4 M) ∧ (¬ (gi M 314 (tn a1)) ≤ v5 → wp_M_rowAt a1 v5 M (fun (r142 : Int32) (M142 : Mm) => wp_M_stampsOf (1 : Int32) r142 M142 (fun (r145 : Int32) (M145 : Mm) => wp_M_bits r145 M145 (fun (r148 : Int32) (M148 : Mm) => ∀ x152 : Int32, x152 = (v3 + r148) → wp_M_passes (1 : Int32) M148 (fun (r157 : Int32) (M157 : Mm) => ∀ x161 : Int32, x161 = (v4 + r157) → ∀ x163 : Int32, x163 = v5 + (1 : Int32) → KB x152 x161 x163 M157))))))
def lp_M_run_124 (a1 : Int32) (Q : Int32 → Mm → Prop) (K169 : Int32 → Int32 → Mm → Prop) : Nat → Int32 → Int32 → Int32 → Mm → Prop
  | 0 => fun _ _ _ _ => False
  | n + 1 => fun v3 v4 v5 M => k_M_run_124 a1 Q (lp_M_run_124 a1 Q K169 n) K169 v3 v4 v5 M
def wp_M_run (a1 : Int32) (M : Mm) (Q : Int32 → Mm → Prop) : Prop :=
  wp_M_isRow a1 M (fun (r1 : Int32) (M1 : Mm) => (¬ r1 = 0 → (¬ (gi M1 312 10) = 0 → vp_in a1 6 ∧ ((0 ≤ (gi M1 314 (tn a1)) → vp_in a1 6 ∧ (((gi M1 314 (tn a1)) ≤ (12 : Int32) → ∃ n : Nat, lp_M_run_55 a1 Q (fun (v2 : Int32) (M : Mm) => (¬ v2 = 0 → wp_M_copyTo (0 : Int32) (1 : Int32) M (fun (M113 : Mm) => ∃ n : Nat, lp_M_run_124 a1 Q (fun (v3 : Int32) (v4 : Int32) (M : Mm) => wp_M_tells v3 v4 M (fun (r173 : Int32) (M173 : Mm) => Q r173 M173)) n (0 : Int32) (0 : Int32) (0 : Int32) M113)) ∧ (v2 = 0 → wp_M_meets (3 : Int32) M (fun (r106 : Int32) (M106 : Mm) => Q r106 M106))) n (1 : Int32) (0 : Int32) M1) ∧ (¬ (gi M1 314 (tn a1)) ≤ (12 : Int32) → wp_M_meets (5 : Int32) M1 (fun (r47 : Int32) (M47 : Mm) => Q r47 M47)))) ∧ (¬ 0 ≤ (gi M1 314 (tn a1)) → wp_M_meets (1 : Int32) M1 (fun (r30 : Int32) (M30 : Mm) => Q r30 M30)))) ∧ ((gi M1 312 10) = 0 → Q (-4 : Int32) M1)) ∧ (r1 = 0 → Q (-1 : Int32) M1))
def k_M_takes_13 (a1 : Int32) (a2 : Int32) (a3 : Int32) (Q : Mm → Prop) (KB : Int32 → Mm → Prop) (v4 : Int32) (M : Mm) : Prop :=
  (a1 ≤ v4 → Q M) ∧ (¬ a1 ≤ v4 → vp_in v4 4 ∧ (∀ x32 : Int32, x32 = (gi M 335 (tn v4)) → vp_in v4 4 ∧ (∀ x33 : Int32, x33 = v4 + (1 : Int32) → KB x33 (si M 336 (tn v4) x32))))
def lp_M_takes_13 (a1 : Int32) (a2 : Int32) (a3 : Int32) (Q : Mm → Prop)  : Nat → Int32 → Mm → Prop
  | 0 => fun _ _ => False
  | n + 1 => fun v4 M => k_M_takes_13 a1 a2 a3 Q (lp_M_takes_13 a1 a2 a3 Q n)  v4 M
def wp_M_takes (a1 : Int32) (a2 : Int32) (a3 : Int32) (M : Mm) (Q : Mm → Prop) : Prop :=
  ∃ n : Nat, lp_M_takes_13 a1 a2 a3 Q n (0 : Int32) (si (si M 312 37 a2) 312 38 a3)
def k_M_layPlans_103 (RC : Int32 → Int32 → Int32 → Int32 → Int32 → Mm → (Mm → Prop) → Prop) (a1 : Int32) (a2 : Int32) (a3 : Int32) (a4 : Int32) (a5 : Int32) (Q : Mm → Prop) (KB : Int32 → Mm → Prop) (v6 : Int32) (M : Mm) : Prop :=
  wp_M_setMany M (fun (r106 : Int32) (M106 : Mm) => (r106 ≤ v6 → Q M106) ∧ (¬ r106 ≤ v6 → wp_M_copyTo ((1 : Int32) + a1) ((2 : Int32) + a1) M106 (fun (M119 : Mm) => vp_in a1 4 ∧ (wp_M_stampsOf ((2 : Int32) + a1) v6 (si M119 335 (tn a1) v6) (fun (r136 : Int32) (M136 : Mm) => wp_M_bits r136 M136 (fun (r139 : Int32) (M139 : Mm) => wp_M_passes ((2 : Int32) + a1) M139 (fun (r148 : Int32) (M148 : Mm) => RC (a1 + (1 : Int32)) a2 a3 (a4 + r148) (a5 + r139) M148 (fun (M169 : Mm) => ∀ x172 : Int32, x172 = v6 + (1 : Int32) → KB x172 M169))))))))
def lp_M_layPlans_103 (RC : Int32 → Int32 → Int32 → Int32 → Int32 → Mm → (Mm → Prop) → Prop) (a1 : Int32) (a2 : Int32) (a3 : Int32) (a4 : Int32) (a5 : Int32) (Q : Mm → Prop)  : Nat → Int32 → Mm → Prop
  | 0 => fun _ _ => False
  | n + 1 => fun v6 M => k_M_layPlans_103 RC a1 a2 a3 a4 a5 Q (lp_M_layPlans_103 RC a1 a2 a3 a4 a5 Q n)  v6 M
def k_M_layPlans_94 (RC : Int32 → Int32 → Int32 → Int32 → Int32 → Mm → (Mm → Prop) → Prop) (a1 : Int32) (a2 : Int32) (a3 : Int32) (a4 : Int32) (a5 : Int32) (Q : Mm → Prop)  (s0 : Int32) (s1 : Int32) (M : Mm) : Prop :=
  wp_M_takes s1 s0 a5 M (fun (M96 : Mm) => Q M96)
def k_M_layPlans_80 (RC : Int32 → Int32 → Int32 → Int32 → Int32 → Mm → (Mm → Prop) → Prop) (a1 : Int32) (a2 : Int32) (a3 : Int32) (a4 : Int32) (a5 : Int32) (Q : Mm → Prop)   (M : Mm) : Prop :=
  (¬ a3 = (-9 : Int32) → k_M_layPlans_94 RC a1 a2 a3 a4 a5 Q (0 : Int32) a2 M) ∧ (a3 = (-9 : Int32) → k_M_layPlans_94 RC a1 a2 a3 a4 a5 Q a4 a2 M)
def k_M_layPlans_37 (RC : Int32 → Int32 → Int32 → Int32 → Int32 → Mm → (Mm → Prop) → Prop) (a1 : Int32) (a2 : Int32) (a3 : Int32) (a4 : Int32) (a5 : Int32) (Q : Mm → Prop)  (s0 : Int32) (M : Mm) : Prop :=
  (¬ a3 = (-9 : Int32) → wp_M_has (gi M 312 26) a3 M (fun (r58 : Int32) (M58 : Mm) => (r58 = 0 → Q M58) ∧ (¬ r58 = 0 → ((gi M58 312 37) < 0 → k_M_layPlans_80 RC a1 a2 a3 a4 a5 Q M58) ∧ (¬ (gi M58 312 37) < 0 → ((gi M58 312 38) ≤ a5 → Q M58) ∧ (¬ (gi M58 312 38) ≤ a5 → k_M_layPlans_80 RC a1 a2 a3 a4 a5 Q M58))))) ∧ (a3 = (-9 : Int32) → (s0 = 0 → Q M) ∧ (¬ s0 = 0 → k_M_layPlans_80 RC a1 a2 a3 a4 a5 Q M))
def k_M_layPlans_32 (RC : Int32 → Int32 → Int32 → Int32 → Int32 → Mm → (Mm → Prop) → Prop) (a1 : Int32) (a2 : Int32) (a3 : Int32) (a4 : Int32) (a5 : Int32) (Q : Mm → Prop)   (M : Mm) : Prop :=
  k_M_layPlans_37 RC a1 a2 a3 a4 a5 Q (1 : Int32) M
def k_M_layPlans_36 (RC : Int32 → Int32 → Int32 → Int32 → Int32 → Mm → (Mm → Prop) → Prop) (a1 : Int32) (a2 : Int32) (a3 : Int32) (a4 : Int32) (a5 : Int32) (Q : Mm → Prop)   (M : Mm) : Prop :=
  k_M_layPlans_37 RC a1 a2 a3 a4 a5 Q (0 : Int32) M
def wpB_M_layPlans (RC : Int32 → Int32 → Int32 → Int32 → Int32 → Mm → (Mm → Prop) → Prop) (a1 : Int32) (a2 : Int32) (a3 : Int32) (a4 : Int32) (a5 : Int32) (M : Mm) (Q : Mm → Prop) : Prop :=
  (¬ a1 = a2 → ∃ n : Nat, lp_M_layPlans_103 RC a1 a2 a3 a4 a5 Q n (0 : Int32) M) ∧ (a1 = a2 → ((gi M 312 37) < a4 → k_M_layPlans_32 RC a1 a2 a3 a4 a5 Q M) ∧ (¬ (gi M 312 37) < a4 → (¬ a4 = (gi M 312 37) → k_M_layPlans_36 RC a1 a2 a3 a4 a5 Q M) ∧ (a4 = (gi M 312 37) → ((gi M 312 38) ≤ a5 → k_M_layPlans_36 RC a1 a2 a3 a4 a5 Q M) ∧ (¬ (gi M 312 38) ≤ a5 → k_M_layPlans_32 RC a1 a2 a3 a4 a5 Q M))))
def wp_M_layPlans : Nat → Int32 → Int32 → Int32 → Int32 → Int32 → Mm → (Mm → Prop) → Prop
  | 0 => fun _ _ _ _ _ _ _ => False
  | n + 1 => fun a1 a2 a3 a4 a5 M Q => wpB_M_layPlans (wp_M_layPlans n) a1 a2 a3 a4 a5 M Q
def wp_M_allPlans (a1 : Int32) (a2 : Int32) (M : Mm) (Q : Mm → Prop) : Prop :=
  wp_M_copyTo (0 : Int32) (1 : Int32) (si (si (si M 312 37 (-1 : Int32)) 312 38 (0 : Int32)) 312 26 (0 : Int32)) (fun (M18 : Mm) => wp_M_layPlans 8 (0 : Int32) a1 a2 (0 : Int32) (0 : Int32) M18 (fun (M27 : Mm) => Q M27))
def k_M_layRow_42 (a1 : Int32) (a2 n2 : Nat) (a3 : Int32) (Q : Mm → Prop) (KB : Int32 → Mm → Prop) (v4 : Int32) (s0 : Int32) (s1 : Int32) (M : Mm) : Prop :=
  vp_in s1 240 ∧ (∀ x43 : Int32, x43 = v4 + (1 : Int32) → KB x43 (si M 315 (tn s1) s0))
def k_M_layRow_10 (a1 : Int32) (a2 n2 : Nat) (a3 : Int32) (Q : Mm → Prop) (KB : Int32 → Mm → Prop) (v4 : Int32) (M : Mm) : Prop :=
  ((40 : Int32) ≤ v4 → Q M) ∧ (¬ (40 : Int32) ≤ v4 → (a3 ≤ v4 → k_M_layRow_42 a1 a2 n2 a3 Q KB v4 (0 : Int32) (((40 : Int32) * a1) + v4) M) ∧ (¬ a3 ≤ v4 → vp_in v4 n2 ∧ (k_M_layRow_42 a1 a2 n2 a3 Q KB v4 (gi M a2 (tn v4)) (((40 : Int32) * a1) + v4) M)))
def lp_M_layRow_10 (a1 : Int32) (a2 n2 : Nat) (a3 : Int32) (Q : Mm → Prop)  : Nat → Int32 → Mm → Prop
  | 0 => fun _ _ => False
  | n + 1 => fun v4 M => k_M_layRow_10 a1 a2 n2 a3 Q (lp_M_layRow_10 a1 a2 n2 a3 Q n)  v4 M
def wp_M_layRow (a1 : Int32) (a2 n2 : Nat) (a3 : Int32) (M : Mm) (Q : Mm → Prop) : Prop :=
  vp_in a1 6 ∧ (∃ n : Nat, lp_M_layRow_10 a1 a2 n2 a3 Q n (0 : Int32) (si M 314 (tn a1) a3))
def wp_M_best (a1 : Int32) (a2 : Int32) (M : Mm) (Q : Int32 → Mm → Prop) : Prop :=
  wp_M_in a1 (0 : Int32) (3 : Int32) M (fun (r3 : Int32) (M3 : Mm) => (r3 = 0 → Q (-1 : Int32) M3) ∧ (¬ r3 = 0 → wp_M_isRow a2 M3 (fun (r10 : Int32) (M10 : Mm) => (¬ r10 = 0 → (¬ (gi M10 312 10) = 0 → wp_M_allPlans a1 (-9 : Int32) M10 (fun (M32 : Mm) => wp_M_layRow a2 336 4 a1 M32 (fun (M42 : Mm) => wp_M_tells (gi M42 312 38) (gi M42 312 37) M42 (fun (r54 : Int32) (M54 : Mm) => Q r54 M54)))) ∧ ((gi M10 312 10) = 0 → Q (-4 : Int32) M10)) ∧ (r10 = 0 → Q (-1 : Int32) M10))))
def wp_M_fewest (a1 : Int32) (a2 : Int32) (a3 : Int32) (M : Mm) (Q : Int32 → Mm → Prop) : Prop :=
  wp_M_isArm a1 M (fun (r2 : Int32) (M2 : Mm) => (r2 = 0 → Q (-1 : Int32) M2) ∧ (¬ r2 = 0 → wp_M_in a2 (0 : Int32) (3 : Int32) M2 (fun (r11 : Int32) (M11 : Mm) => (r11 = 0 → Q (-1 : Int32) M11) ∧ (¬ r11 = 0 → wp_M_isRow a3 M11 (fun (r18 : Int32) (M18 : Mm) => (¬ r18 = 0 → wp_M_allPlans a2 a1 M18 (fun (M29 : Mm) => (0 ≤ (gi M29 312 37) → wp_M_layRow a3 336 4 a2 M29 (fun (M49 : Mm) => Q (gi M49 312 38) M49)) ∧ (¬ 0 ≤ (gi M29 312 37) → Q (-9 : Int32) M29))) ∧ (r18 = 0 → Q (-1 : Int32) M18))))))
def k_M_dies_65  (Q : Int32 → Mm → Prop) (KB : Int32 → Int32 → Mm → Prop) (K58 : Int32 → Int32 → Mm → Prop) (K71 : Int32 → Mm → Prop) (v1 : Int32) (v2 : Int32) (M : Mm) : Prop :=
  ∀ x65 : Int32, x65 = v2 + (1 : Int32) → KB v1 x65 M
def k_M_dies_32  (Q : Int32 → Mm → Prop) (KB : Int32 → Int32 → Mm → Prop) (K58 : Int32 → Int32 → Mm → Prop) (K71 : Int32 → Mm → Prop) (v1 : Int32) (v2 : Int32) (M : Mm) : Prop :=
  ((gi M 312 10) ≤ v2 → K71 v1 M) ∧ (¬ (gi M 312 10) ≤ v2 → wp_M_isDead (1 : Int32) v2 M (fun (r43 : Int32) (M43 : Mm) => (r43 = 0 → k_M_dies_65 Q KB K58 K71 v1 v2 M43) ∧ (¬ r43 = 0 → wp_M_isDead (0 : Int32) v2 M43 (fun (r52 : Int32) (M52 : Mm) => (¬ r52 = 0 → k_M_dies_65 Q KB K58 K71 v1 v2 M52) ∧ (r52 = 0 → K58 v1 v2 M52)))))
def lp_M_dies_32  (Q : Int32 → Mm → Prop) (K58 : Int32 → Int32 → Mm → Prop) (K71 : Int32 → Mm → Prop) : Nat → Int32 → Int32 → Mm → Prop
  | 0 => fun _ _ _ => False
  | n + 1 => fun v1 v2 M => k_M_dies_32  Q (lp_M_dies_32 Q K58 K71 n) K58 K71 v1 v2 M
def k_M_dies_18  (Q : Int32 → Mm → Prop) (KB : Int32 → Mm → Prop) (K58 : Int32 → Int32 → Mm → Prop) (v1 : Int32) (M : Mm) : Prop :=
  ((40 : Int32) < v1 → Q (-9 : Int32) M) ∧ (¬ (40 : Int32) < v1 → wp_M_passes (1 : Int32) M (fun (r26 : Int32) (M26 : Mm) => ∃ n : Nat, lp_M_dies_32 Q (fun (v1 : Int32) (v2 : Int32) (M : Mm) => K58 v1 v2 M) (fun (v1 : Int32) (M : Mm) => ∀ x71 : Int32, x71 = v1 + (1 : Int32) → KB x71 M) n v1 (0 : Int32) M26))
def lp_M_dies_18  (Q : Int32 → Mm → Prop) (K58 : Int32 → Int32 → Mm → Prop) : Nat → Int32 → Mm → Prop
  | 0 => fun _ _ => False
  | n + 1 => fun v1 M => k_M_dies_18  Q (lp_M_dies_18 Q K58 n) K58 v1 M
def wp_M_dies  (M : Mm) (Q : Int32 → Mm → Prop) : Prop :=
  (¬ (gi M 312 10) = 0 → wp_M_copyTo (0 : Int32) (1 : Int32) M (fun (M13 : Mm) => ∃ n : Nat, lp_M_dies_18 Q (fun (v1 : Int32) (v2 : Int32) (M : Mm) => wp_M_tells v1 v2 M (fun (r61 : Int32) (M61 : Mm) => Q r61 M61)) n (1 : Int32) M13)) ∧ ((gi M 312 10) = 0 → Q (-4 : Int32) M)
def k_M_passesOf_5 (a1 : Int32) (a2 : Int32) (Q : Int32 → Mm → Prop) (KB : Int32 → Int32 → Mm → Prop) (v3 : Int32) (v4 : Int32) (M : Mm) : Prop :=
  (a2 ≤ v4 → Q v3 M) ∧ (¬ a2 ≤ v4 → wp_M_passes a1 M (fun (r14 : Int32) (M14 : Mm) => ∀ x18 : Int32, x18 = (v3 + r14) → ∀ x19 : Int32, x19 = v4 + (1 : Int32) → KB x18 x19 M14))
def lp_M_passesOf_5 (a1 : Int32) (a2 : Int32) (Q : Int32 → Mm → Prop)  : Nat → Int32 → Int32 → Mm → Prop
  | 0 => fun _ _ _ => False
  | n + 1 => fun v3 v4 M => k_M_passesOf_5 a1 a2 Q (lp_M_passesOf_5 a1 a2 Q n)  v3 v4 M
def wp_M_passesOf (a1 : Int32) (a2 : Int32) (M : Mm) (Q : Int32 → Mm → Prop) : Prop :=
  ∃ n : Nat, lp_M_passesOf_5 a1 a2 Q n (0 : Int32) (0 : Int32) M
def wp_M_barge (a1 : Int32) (a2 : Int32) (M : Mm) (Q : Int32 → Mm → Prop) : Prop :=
  wp_M_isArm a1 M (fun (r2 : Int32) (M2 : Mm) => (r2 = 0 → Q (-1 : Int32) M2) ∧ (¬ r2 = 0 → wp_M_in a2 (0 : Int32) (12 : Int32) M2 (fun (r12 : Int32) (M12 : Mm) => (¬ r12 = 0 → wp_M_isBarge (0 : Int32) a1 M12 (fun (r23 : Int32) (M23 : Mm) => (¬ r23 = 0 → wp_M_copyTo (0 : Int32) (1 : Int32) M23 (fun (M35 : Mm) => wp_M_copyTo (0 : Int32) (2 : Int32) M35 (fun (M41 : Mm) => wp_M_leaves (2 : Int32) a1 M41 (fun (M47 : Mm) => wp_M_passesOf (2 : Int32) a2 M47 (fun (r55 : Int32) (M55 : Mm) => wp_M_passesOf (1 : Int32) a2 M55 (fun (r62 : Int32) (M62 : Mm) => Q (((100 : Int32) + r55) - r62) M62)))))) ∧ (r23 = 0 → Q (100 : Int32) M23))) ∧ (r12 = 0 → Q (-1 : Int32) M12))))
def wp_M_needArms (a1 : Int32) (M : Mm) (Q : Int32 → Mm → Prop) : Prop :=
  wp_M_isRow a1 M (fun (r1 : Int32) (M1 : Mm) => (¬ r1 = 0 → (¬ (gi M1 312 10) = 0 → vp_in a1 6 ∧ ((0 ≤ (gi M1 314 (tn a1)) → vp_in a1 6 ∧ (((gi M1 314 (tn a1)) = (gi M1 312 10) → Q (0 : Int32) M1) ∧ (¬ (gi M1 314 (tn a1)) = (gi M1 312 10) → wp_M_meets (5 : Int32) M1 (fun (r49 : Int32) (M49 : Mm) => Q r49 M49)))) ∧ (¬ 0 ≤ (gi M1 314 (tn a1)) → wp_M_meets (1 : Int32) M1 (fun (r30 : Int32) (M30 : Mm) => Q r30 M30)))) ∧ ((gi M1 312 10) = 0 → Q (-4 : Int32) M1)) ∧ (r1 = 0 → Q (-1 : Int32) M1))
def k_M_saltBy_64 (a1 : Int32) (a2 : Int32) (Q : Int32 → Mm → Prop) (KB : Int32 → Int32 → Int32 → Mm → Prop) (K72 : Int32 → Int32 → Mm → Prop) (v3 : Int32) (v5 : Int32) (s0 : Int32) (M : Mm) : Prop :=
  ∀ x66 : Int32, x66 = v5 + (1 : Int32) → KB v3 s0 x66 M
def k_M_saltBy_63 (a1 : Int32) (a2 : Int32) (Q : Int32 → Mm → Prop) (KB : Int32 → Int32 → Int32 → Mm → Prop) (K72 : Int32 → Int32 → Mm → Prop) (v3 : Int32) (v5 : Int32) (M : Mm) : Prop :=
  k_M_saltBy_64 a1 a2 Q KB K72 v3 v5 (0 : Int32) M
def k_M_saltBy_25 (a1 : Int32) (a2 : Int32) (Q : Int32 → Mm → Prop) (KB : Int32 → Int32 → Int32 → Mm → Prop) (K72 : Int32 → Int32 → Mm → Prop) (v3 : Int32) (v4 : Int32) (v5 : Int32) (M : Mm) : Prop :=
  ((gi M 312 10) ≤ v5 → K72 v3 v4 M) ∧ (¬ (gi M 312 10) ≤ v5 → (v4 = 0 → k_M_saltBy_63 a1 a2 Q KB K72 v3 v5 M) ∧ (¬ v4 = 0 → vp_in ((36 : Int32) + v5) 186 ∧ (wp_M_rowAt a1 v5 M (fun (r53 : Int32) (M53 : Mm) => (¬ (gi M 327 (tn ((36 : Int32) + v5))) = r53 → k_M_saltBy_63 a1 a2 Q KB K72 v3 v5 M53) ∧ ((gi M 327 (tn ((36 : Int32) + v5))) = r53 → k_M_saltBy_64 a1 a2 Q KB K72 v3 v5 (1 : Int32) M53)))))
def lp_M_saltBy_25 (a1 : Int32) (a2 : Int32) (Q : Int32 → Mm → Prop) (K72 : Int32 → Int32 → Mm → Prop) : Nat → Int32 → Int32 → Int32 → Mm → Prop
  | 0 => fun _ _ _ _ => False
  | n + 1 => fun v3 v4 v5 M => k_M_saltBy_25 a1 a2 Q (lp_M_saltBy_25 a1 a2 Q K72 n) K72 v3 v4 v5 M
def wp_M_saltBy (a1 : Int32) (a2 : Int32) (M : Mm) (Q : Int32 → Mm → Prop) : Prop :=
  wp_M_copyTo (0 : Int32) (1 : Int32) M (fun (M3 : Mm) => wp_M_stampsOf (1 : Int32) a2 M3 (fun (r9 : Int32) (M9 : Mm) => wp_M_passes (1 : Int32) M9 (fun (r15 : Int32) (M15 : Mm) => ∃ n : Nat, lp_M_saltBy_25 a1 a2 Q (fun (v3 : Int32) (v4 : Int32) (M : Mm) => (v4 = 0 → Q (-9 : Int32) M) ∧ (¬ v4 = 0 → Q v3 M)) n r9 (1 : Int32) (0 : Int32) M15)))
def k_M_fits_78 (a1 : Int32) (Q : Int32 → Mm → Prop) (KB : Int32 → Int32 → Int32 → Mm → Prop) (K86 : Int32 → Int32 → Mm → Prop) (v4 : Int32) (v5 : Int32) (s0 : Int32) (s1 : Int32) (M : Mm) : Prop :=
  ∀ x79 : Int32, x79 = (s1 + s0) → ∀ x80 : Int32, x80 = v5 + (1 : Int32) → KB x79 v4 x80 M
def k_M_fits_65 (a1 : Int32) (Q : Int32 → Mm → Prop) (KB : Int32 → Int32 → Int32 → Mm → Prop) (K86 : Int32 → Int32 → Mm → Prop) (v3 : Int32) (v5 : Int32) (v6 : Int32) (s0 : Int32) (M : Mm) : Prop :=
  (v6 = 0 → k_M_fits_78 a1 Q KB K86 s0 v5 (0 : Int32) v3 M) ∧ (¬ v6 = 0 → k_M_fits_78 a1 Q KB K86 s0 v5 (1 : Int32) v3 M)
def k_M_fits_63 (a1 : Int32) (Q : Int32 → Mm → Prop) (KB : Int32 → Int32 → Int32 → Mm → Prop) (K86 : Int32 → Int32 → Mm → Prop) (v3 : Int32) (v4 : Int32) (v5 : Int32) (v6 : Int32) (M : Mm) : Prop :=
  k_M_fits_65 a1 Q KB K86 v3 v5 v6 v4 M
def k_M_fits_47 (a1 : Int32) (Q : Int32 → Mm → Prop) (KB : Int32 → Int32 → Int32 → Mm → Prop) (K86 : Int32 → Int32 → Mm → Prop) (v3 : Int32) (v4 : Int32) (v5 : Int32) (s0 : Int32) (M : Mm) : Prop :=
  (s0 = 0 → k_M_fits_63 a1 Q KB K86 v3 v4 v5 s0 M) ∧ (¬ s0 = 0 → (¬ v3 = 0 → k_M_fits_63 a1 Q KB K86 v3 v4 v5 s0 M) ∧ (v3 = 0 → k_M_fits_65 a1 Q KB K86 v3 v5 s0 v5 M))
def k_M_fits_21 (a1 : Int32) (Q : Int32 → Mm → Prop) (KB : Int32 → Int32 → Int32 → Mm → Prop) (K86 : Int32 → Int32 → Mm → Prop) (v3 : Int32) (v4 : Int32) (v5 : Int32) (M : Mm) : Prop :=
  wp_M_setMany M (fun (r24 : Int32) (M24 : Mm) => (r24 ≤ v5 → K86 v3 v4 M24) ∧ (¬ r24 ≤ v5 → wp_M_saltBy a1 v5 M24 (fun (r34 : Int32) (M34 : Mm) => (r34 = (-9 : Int32) → k_M_fits_47 a1 Q KB K86 v3 v4 v5 (0 : Int32) M34) ∧ (¬ r34 = (-9 : Int32) → k_M_fits_47 a1 Q KB K86 v3 v4 v5 (1 : Int32) M34))))
def lp_M_fits_21 (a1 : Int32) (Q : Int32 → Mm → Prop) (K86 : Int32 → Int32 → Mm → Prop) : Nat → Int32 → Int32 → Int32 → Mm → Prop
  | 0 => fun _ _ _ _ => False
  | n + 1 => fun v3 v4 v5 M => k_M_fits_21 a1 Q (lp_M_fits_21 a1 Q K86 n) K86 v3 v4 v5 M
def wp_M_fits (a1 : Int32) (M : Mm) (Q : Int32 → Mm → Prop) : Prop :=
  wp_M_needArms a1 M (fun (r2 : Int32) (M2 : Mm) => (0 ≤ r2 → ∃ n : Nat, lp_M_fits_21 a1 Q (fun (v3 : Int32) (v4 : Int32) (M : Mm) => wp_M_tells v4 v3 M (fun (r90 : Int32) (M90 : Mm) => Q r90 M90)) n (0 : Int32) (-9 : Int32) (0 : Int32) M2) ∧ (¬ 0 ≤ r2 → Q r2 M2))
def k_M_opened_76 (a1 : Int32) (Q : Int32 → Mm → Prop) (KB : Int32 → Int32 → Int32 → Mm → Prop) (K84 : Int32 → Int32 → Mm → Prop) (v4 : Int32) (v5 : Int32) (s0 : Int32) (s1 : Int32) (M : Mm) : Prop :=
  ∀ x77 : Int32, x77 = (s1 &&& s0) → ∀ x78 : Int32, x78 = v5 + (1 : Int32) → KB x77 v4 x78 M
def k_M_opened_60 (a1 : Int32) (Q : Int32 → Mm → Prop) (KB : Int32 → Int32 → Int32 → Mm → Prop) (K84 : Int32 → Int32 → Mm → Prop) (v3 : Int32) (v5 : Int32) (v6 : Int32) (s0 : Int32) (M : Mm) : Prop :=
  (v6 = (-9 : Int32) → k_M_opened_76 a1 Q KB K84 s0 v5 (-1 : Int32) v3 M) ∧ (¬ v6 = (-9 : Int32) → k_M_opened_76 a1 Q KB K84 s0 v5 v6 v3 M)
def k_M_opened_55 (a1 : Int32) (Q : Int32 → Mm → Prop) (KB : Int32 → Int32 → Int32 → Mm → Prop) (K84 : Int32 → Int32 → Mm → Prop) (v3 : Int32) (v5 : Int32) (v6 : Int32) (M : Mm) : Prop :=
  k_M_opened_60 a1 Q KB K84 v3 v5 v6 (1 : Int32) M
def k_M_opened_25 (a1 : Int32) (Q : Int32 → Mm → Prop) (KB : Int32 → Int32 → Int32 → Mm → Prop) (K84 : Int32 → Int32 → Mm → Prop) (v3 : Int32) (v4 : Int32) (v5 : Int32) (M : Mm) : Prop :=
  wp_M_setMany M (fun (r28 : Int32) (M28 : Mm) => (r28 ≤ v5 → K84 v3 v4 M28) ∧ (¬ r28 ≤ v5 → wp_M_saltBy a1 v5 M28 (fun (r38 : Int32) (M38 : Mm) => (¬ v4 = 0 → k_M_opened_55 a1 Q KB K84 v3 v5 r38 M38) ∧ (v4 = 0 → (r38 = (-9 : Int32) → k_M_opened_60 a1 Q KB K84 v3 v5 r38 (0 : Int32) M38) ∧ (¬ r38 = (-9 : Int32) → k_M_opened_55 a1 Q KB K84 v3 v5 r38 M38)))))
def lp_M_opened_25 (a1 : Int32) (Q : Int32 → Mm → Prop) (K84 : Int32 → Int32 → Mm → Prop) : Nat → Int32 → Int32 → Int32 → Mm → Prop
  | 0 => fun _ _ _ _ => False
  | n + 1 => fun v3 v4 v5 M => k_M_opened_25 a1 Q (lp_M_opened_25 a1 Q K84 n) K84 v3 v4 v5 M
def wp_M_opened (a1 : Int32) (M : Mm) (Q : Int32 → Mm → Prop) : Prop :=
  wp_M_needArms a1 M (fun (r2 : Int32) (M2 : Mm) => (0 ≤ r2 → wp_M_setMany M2 (fun (r13 : Int32) (M13 : Mm) => ∀ x18 : Int32, x18 = (r13 - (1 : Int32)) → ∃ n : Nat, lp_M_opened_25 a1 Q (fun (v3 : Int32) (v4 : Int32) (M : Mm) => (v4 = 0 → Q (0 : Int32) M) ∧ (¬ v4 = 0 → Q v3 M)) n x18 (0 : Int32) (0 : Int32) M13)) ∧ (¬ 0 ≤ r2 → Q r2 M2))
def k_M_owedBy_36 (a1 : Int32) (a2 : Int32) (Q : Int64 → Mm → Prop) (KB : Int64 → Int32 → Mm → Prop) (v5 : Int32) (s0 : Int64) (s1 : Int64) (M : Mm) : Prop :=
  ∀ x37 : Int64, x37 = (s1 + s0) → ∀ x38 : Int32, x38 = v5 + (1 : Int32) → KB x37 x38 M
def k_M_owedBy_5 (a1 : Int32) (a2 : Int32) (Q : Int64 → Mm → Prop) (KB : Int64 → Int32 → Mm → Prop) (v3 : Int64) (v5 : Int32) (M : Mm) : Prop :=
  ((gi M 312 10) ≤ v5 → Q v3 M) ∧ (¬ (gi M 312 10) ≤ v5 → wp_M_has a2 v5 M (fun (r18 : Int32) (M18 : Mm) => (r18 = 0 → k_M_owedBy_36 a1 a2 Q KB v5 (0 : Int64) v3 M18) ∧ (¬ r18 = 0 → wp_M_rowAt a1 v5 M18 (fun (r28 : Int32) (M28 : Mm) => k_M_owedBy_36 a1 a2 Q KB v5 r28.toInt64 v3 M28))))
def lp_M_owedBy_5 (a1 : Int32) (a2 : Int32) (Q : Int64 → Mm → Prop)  : Nat → Int64 → Int32 → Mm → Prop
  | 0 => fun _ _ _ => False
  | n + 1 => fun v3 v5 M => k_M_owedBy_5 a1 a2 Q (lp_M_owedBy_5 a1 a2 Q n)  v3 v5 M
def wp_M_owedBy (a1 : Int32) (a2 : Int32) (M : Mm) (Q : Int64 → Mm → Prop) : Prop :=
  ∃ n : Nat, lp_M_owedBy_5 a1 a2 Q n (0 : Int64) (0 : Int32) M
def k_M_parts_40 (RC : Int32 → Int32 → Mm → (Int32 → Mm → Prop) → Prop) (a1 : Int32) (a2 : Int32) (Q : Int32 → Mm → Prop) (KB : Int32 → Int32 → Mm → Prop) (v3 : Int32) (v4 : Int32) (M : Mm) : Prop :=
  ∀ x46 : Int32, x46 = ((v4 - (1 : Int32)) &&& a2) → KB v3 x46 M
def k_M_parts_5 (RC : Int32 → Int32 → Mm → (Int32 → Mm → Prop) → Prop) (a1 : Int32) (a2 : Int32) (Q : Int32 → Mm → Prop) (KB : Int32 → Int32 → Mm → Prop) (v3 : Int32) (v4 : Int32) (M : Mm) : Prop :=
  (v4 ≤ 0 → Q v3 M) ∧ (¬ v4 ≤ 0 → wp_M_owedBy a1 v4 M (fun (r14 : Int64) (M14 : Mm) => (¬ (lg_cmp r14 (0 : Int64)) = 0 → k_M_parts_40 RC a1 a2 Q KB v3 v4 M14) ∧ ((lg_cmp r14 (0 : Int64)) = 0 → RC a1 (a2 &&& (v4 ^^^ (-1 : Int32))) M14 (fun (r32 : Int32) (M32 : Mm) => wp_M_greater v3 ((1 : Int32) + r32) M32 (fun (r36 : Int32) (M36 : Mm) => k_M_parts_40 RC a1 a2 Q KB r36 v4 M36)))))
def lp_M_parts_5 (RC : Int32 → Int32 → Mm → (Int32 → Mm → Prop) → Prop) (a1 : Int32) (a2 : Int32) (Q : Int32 → Mm → Prop)  : Nat → Int32 → Int32 → Mm → Prop
  | 0 => fun _ _ _ => False
  | n + 1 => fun v3 v4 M => k_M_parts_5 RC a1 a2 Q (lp_M_parts_5 RC a1 a2 Q n)  v3 v4 M
def wpB_M_parts (RC : Int32 → Int32 → Mm → (Int32 → Mm → Prop) → Prop) (a1 : Int32) (a2 : Int32) (M : Mm) (Q : Int32 → Mm → Prop) : Prop :=
  ∃ n : Nat, lp_M_parts_5 RC a1 a2 Q n (0 : Int32) a2 M
def wp_M_parts : Nat → Int32 → Int32 → Mm → (Int32 → Mm → Prop) → Prop
  | 0 => fun _ _ _ _ => False
  | n + 1 => fun a1 a2 M Q => wpB_M_parts (wp_M_parts n) a1 a2 M Q
def k_M_settle_67 (a1 : Int32) (Q : Int32 → Mm → Prop) (KB : Int32 → Int32 → Mm → Prop) (K75 : Int32 → Mm → Prop) (v4 : Int32) (s0 : Int32) (s1 : Int32) (M : Mm) : Prop :=
  ∀ x68 : Int32, x68 = (s1 ||| s0) → ∀ x69 : Int32, x69 = v4 + (1 : Int32) → KB x68 x69 M
def k_M_settle_39 (a1 : Int32) (Q : Int32 → Mm → Prop) (KB : Int32 → Int32 → Mm → Prop) (K75 : Int32 → Mm → Prop) (v3 : Int32) (v4 : Int32) (M : Mm) : Prop :=
  ((gi M 312 10) ≤ v4 → K75 v3 M) ∧ (¬ (gi M 312 10) ≤ v4 → wp_M_rowAt a1 v4 M (fun (r53 : Int32) (M53 : Mm) => (r53 = 0 → k_M_settle_67 a1 Q KB K75 v4 (0 : Int32) v3 M53) ∧ (¬ r53 = 0 → k_M_settle_67 a1 Q KB K75 v4 ((1 : Int32) <<< (v4 &&& 31)) v3 M53)))
def lp_M_settle_39 (a1 : Int32) (Q : Int32 → Mm → Prop) (K75 : Int32 → Mm → Prop) : Nat → Int32 → Int32 → Mm → Prop
  | 0 => fun _ _ _ => False
  | n + 1 => fun v3 v4 M => k_M_settle_39 a1 Q (lp_M_settle_39 a1 Q K75 n) K75 v3 v4 M
def wp_M_settle (a1 : Int32) (M : Mm) (Q : Int32 → Mm → Prop) : Prop :=
  wp_M_needArms a1 M (fun (r2 : Int32) (M2 : Mm) => (0 ≤ r2 → wp_M_setMany M2 (fun (r15 : Int32) (M15 : Mm) => wp_M_owedBy a1 (r15 - (1 : Int32)) M15 (fun (r20 : Int64) (M20 : Mm) => ((lg_cmp r20 (0 : Int64)) = 0 → ∃ n : Nat, lp_M_settle_39 a1 Q (fun (v3 : Int32) (M : Mm) => wp_M_bits v3 M (fun (r76 : Int32) (M76 : Mm) => wp_M_parts 8 a1 v3 M76 (fun (r82 : Int32) (M82 : Mm) => Q (r76 - r82) M82))) n (0 : Int32) (0 : Int32) M20) ∧ (¬ (lg_cmp r20 (0 : Int64)) = 0 → wp_M_meets (4 : Int32) M20 (fun (r30 : Int32) (M30 : Mm) => Q r30 M30))))) ∧ (¬ 0 ≤ r2 → Q r2 M2))
def k_M_waitMany_4  (Q : Int32 → Mm → Prop) (KB : Int32 → Int32 → Mm → Prop) (v1 : Int32) (v2 : Int32) (M : Mm) : Prop :=
  ((gi M 312 10) ≤ v2 → Q v1 M) ∧ (¬ (gi M 312 10) ≤ v2 → vp_in v2 5 ∧ (wp_M_bits (gi M 324 (tn v2)) M (fun (r19 : Int32) (M19 : Mm) => ∀ x23 : Int32, x23 = (v1 + r19) → ∀ x24 : Int32, x24 = v2 + (1 : Int32) → KB x23 x24 M19)))
def lp_M_waitMany_4  (Q : Int32 → Mm → Prop)  : Nat → Int32 → Int32 → Mm → Prop
  | 0 => fun _ _ _ => False
  | n + 1 => fun v1 v2 M => k_M_waitMany_4  Q (lp_M_waitMany_4 Q n)  v1 v2 M
def wp_M_waitMany  (M : Mm) (Q : Int32 → Mm → Prop) : Prop :=
  ∃ n : Nat, lp_M_waitMany_4 Q n (0 : Int32) (0 : Int32) M
def k_M_stalled_64  (Q : Int32 → Mm → Prop) (KB : Int32 → Int32 → Int32 → Int32 → Int32 → Mm → Prop) (K72 : Int32 → Int32 → Int32 → Int32 → Mm → Prop) (v1 : Int32) (v2 : Int32) (v4 : Int32) (v5 : Int32) (s0 : Int32) (s1 : Int32) (M : Mm) : Prop :=
  ∀ x65 : Int32, x65 = (s1 ||| s0) → ∀ x66 : Int32, x66 = v5 + (1 : Int32) → KB v1 v2 x65 v4 x66 M
def k_M_stalled_34  (Q : Int32 → Mm → Prop) (KB : Int32 → Int32 → Int32 → Int32 → Int32 → Mm → Prop) (K72 : Int32 → Int32 → Int32 → Int32 → Mm → Prop) (v1 : Int32) (v2 : Int32) (v3 : Int32) (v4 : Int32) (v5 : Int32) (M : Mm) : Prop :=
  ((gi M 312 10) ≤ v5 → K72 v1 v2 v3 v4 M) ∧ (¬ (gi M 312 10) ≤ v5 → wp_M_has v3 v5 M (fun (r47 : Int32) (M47 : Mm) => (r47 = 0 → k_M_stalled_64 Q KB K72 v1 v2 v4 v5 (0 : Int32) v3 M47) ∧ (¬ r47 = 0 → vp_in v5 5 ∧ (k_M_stalled_64 Q KB K72 v1 v2 v4 v5 (gi M47 324 (tn v5)) v3 M47))))
def lp_M_stalled_34  (Q : Int32 → Mm → Prop) (K72 : Int32 → Int32 → Int32 → Int32 → Mm → Prop) : Nat → Int32 → Int32 → Int32 → Int32 → Int32 → Mm → Prop
  | 0 => fun _ _ _ _ _ _ => False
  | n + 1 => fun v1 v2 v3 v4 v5 M => k_M_stalled_34  Q (lp_M_stalled_34 Q K72 n) K72 v1 v2 v3 v4 v5 M
def k_M_stalled_22  (Q : Int32 → Mm → Prop) (KB : Int32 → Int32 → Int32 → Int32 → Mm → Prop) (K78 : Int32 → Int32 → Int32 → Mm → Prop) (v1 : Int32) (v2 : Int32) (v3 : Int32) (v4 : Int32) (M : Mm) : Prop :=
  ((gi M 312 10) ≤ v4 → K78 v1 v2 v3 M) ∧ (¬ (gi M 312 10) ≤ v4 → ∃ n : Nat, lp_M_stalled_34 Q (fun (v1 : Int32) (v2 : Int32) (v3 : Int32) (v4 : Int32) (M : Mm) => ∀ x72 : Int32, x72 = v4 + (1 : Int32) → KB v1 v2 v3 x72 M) n v1 v2 v3 v4 (0 : Int32) M)
def lp_M_stalled_22  (Q : Int32 → Mm → Prop) (K78 : Int32 → Int32 → Int32 → Mm → Prop) : Nat → Int32 → Int32 → Int32 → Int32 → Mm → Prop
  | 0 => fun _ _ _ _ _ => False
  | n + 1 => fun v1 v2 v3 v4 M => k_M_stalled_22  Q (lp_M_stalled_22 Q K78 n) K78 v1 v2 v3 v4 M
def k_M_stalled_94  (Q : Int32 → Mm → Prop) (KB : Int32 → Int32 → Mm → Prop) (K102 : Int32 → Mm → Prop) (v2 : Int32) (s0 : Int32) (s1 : Int32) (M : Mm) : Prop :=
  ∀ x95 : Int32, x95 = (s1 ||| s0) → ∀ x96 : Int32, x96 = v2 + (1 : Int32) → KB x95 x96 M
def k_M_stalled_4  (Q : Int32 → Mm → Prop) (KB : Int32 → Int32 → Mm → Prop) (K102 : Int32 → Mm → Prop) (v1 : Int32) (v2 : Int32) (M : Mm) : Prop :=
  ((gi M 312 10) ≤ v2 → K102 v1 M) ∧ (¬ (gi M 312 10) ≤ v2 → vp_in v2 5 ∧ (∀ x18 : Int32, x18 = (gi M 324 (tn v2)) → ∃ n : Nat, lp_M_stalled_22 Q (fun (v1 : Int32) (v2 : Int32) (v3 : Int32) (M : Mm) => wp_M_has v3 v2 M (fun (r81 : Int32) (M81 : Mm) => (r81 = 0 → k_M_stalled_94 Q KB K102 v2 (0 : Int32) v1 M81) ∧ (¬ r81 = 0 → k_M_stalled_94 Q KB K102 v2 ((1 : Int32) <<< (v2 &&& 31)) v1 M81))) n v1 v2 x18 (0 : Int32) M))
def lp_M_stalled_4  (Q : Int32 → Mm → Prop) (K102 : Int32 → Mm → Prop) : Nat → Int32 → Int32 → Mm → Prop
  | 0 => fun _ _ _ => False
  | n + 1 => fun v1 v2 M => k_M_stalled_4  Q (lp_M_stalled_4 Q K102 n) K102 v1 v2 M
def wp_M_stalled  (M : Mm) (Q : Int32 → Mm → Prop) : Prop :=
  ∃ n : Nat, lp_M_stalled_4 Q (fun (v1 : Int32) (M : Mm) => wp_M_waitMany M (fun (r104 : Int32) (M104 : Mm) => wp_M_tells r104 v1 M104 (fun (r108 : Int32) (M108 : Mm) => Q r108 M108))) n (0 : Int32) (0 : Int32) M
def k_M_layBack_75  (Q : Int32 → Mm → Prop) (KB : Int32 → Int32 → Mm → Prop) (v1 : Int32) (v2 : Int32) (M : Mm) : Prop :=
  ∀ x75 : Int32, x75 = v2 + (1 : Int32) → KB v1 x75 M
def k_M_layBack_4  (Q : Int32 → Mm → Prop) (KB : Int32 → Int32 → Mm → Prop) (v1 : Int32) (v2 : Int32) (M : Mm) : Prop :=
  (((8 : Int32) * (gi M 312 10)) ≤ v2 → Q v1 M) ∧ (¬ ((8 : Int32) * (gi M 312 10)) ≤ v2 → ∀ x19 : Int32, x19 = (v2 / (8 : Int32)) → ∀ x24 : Int32, x24 = (v2 - v2 / (8 : Int32) * (8 : Int32)) → ((gi M 312 10) ≤ x24 → k_M_layBack_75 Q KB v1 v2 M) ∧ (¬ (gi M 312 10) ≤ x24 → vp_in x19 5 ∧ (wp_M_has (gi M 324 (tn x19)) x24 M (fun (r43 : Int32) (M43 : Mm) => (r43 = 0 → k_M_layBack_75 Q KB v1 v2 M43) ∧ (¬ r43 = 0 → vp_in x19 5 ∧ (vp_in x24 5 ∧ (((gi M43 339 (tn x24)) ≤ (gi M43 339 (tn x19)) → k_M_layBack_75 Q KB v1 v2 M43) ∧ (¬ (gi M43 339 (tn x24)) ≤ (gi M43 339 (tn x19)) → vp_in v1 20 ∧ (∀ x72 : Int32, x72 = v1 + (1 : Int32) → k_M_layBack_75 Q KB x72 v2 (si M43 337 (tn v1) v2))))))))))
def lp_M_layBack_4  (Q : Int32 → Mm → Prop)  : Nat → Int32 → Int32 → Mm → Prop
  | 0 => fun _ _ _ => False
  | n + 1 => fun v1 v2 M => k_M_layBack_4  Q (lp_M_layBack_4 Q n)  v1 v2 M
def wp_M_layBack  (M : Mm) (Q : Int32 → Mm → Prop) : Prop :=
  ∃ n : Nat, lp_M_layBack_4 Q n (0 : Int32) (0 : Int32) M
def k_M_isAhead_2 (a1 : Int32) (Q : Int32 → Mm → Prop) (KB : Int32 → Mm → Prop) (K28 : Int32 → Mm → Prop) (v2 : Int32) (M : Mm) : Prop :=
  (a1 ≤ v2 → K28 v2 M) ∧ (¬ a1 ≤ v2 → vp_in v2 20 ∧ (vp_in v2 20 ∧ ((¬ (gi M 337 (tn v2)) = (gi M 338 (tn v2)) → K28 v2 M) ∧ ((gi M 337 (tn v2)) = (gi M 338 (tn v2)) → ∀ x22 : Int32, x22 = v2 + (1 : Int32) → KB x22 M))))
def lp_M_isAhead_2 (a1 : Int32) (Q : Int32 → Mm → Prop) (K28 : Int32 → Mm → Prop) : Nat → Int32 → Mm → Prop
  | 0 => fun _ _ => False
  | n + 1 => fun v2 M => k_M_isAhead_2 a1 Q (lp_M_isAhead_2 a1 Q K28 n) K28 v2 M
def k_M_isAhead_28 (a1 : Int32) (Q : Int32 → Mm → Prop)  (v2 : Int32) (M : Mm) : Prop :=
  (a1 ≤ v2 → Q (0 : Int32) M) ∧ (¬ a1 ≤ v2 → vp_in v2 20 ∧ (vp_in v2 20 ∧ (((gi M 338 (tn v2)) ≤ (gi M 337 (tn v2)) → Q (0 : Int32) M) ∧ (¬ (gi M 338 (tn v2)) ≤ (gi M 337 (tn v2)) → Q (1 : Int32) M))))
def wp_M_isAhead (a1 : Int32) (M : Mm) (Q : Int32 → Mm → Prop) : Prop :=
  ∃ n : Nat, lp_M_isAhead_2 a1 Q (fun (v2 : Int32) (M : Mm) => k_M_isAhead_28 a1 Q v2 M) n (0 : Int32) M
def k_M_layOrders_109 (RC : Int32 → Int32 → Mm → (Mm → Prop) → Prop) (a1 : Int32) (a2 : Int32) (Q : Mm → Prop) (KB : Int32 → Mm → Prop) (v3 : Int32) (M : Mm) : Prop :=
  ∀ x109 : Int32, x109 = v3 + (1 : Int32) → KB x109 M
def k_M_layOrders_74 (RC : Int32 → Int32 → Mm → (Mm → Prop) → Prop) (a1 : Int32) (a2 : Int32) (Q : Mm → Prop) (KB : Int32 → Mm → Prop) (v3 : Int32) (M : Mm) : Prop :=
  ((gi M 312 10) ≤ v3 → Q M) ∧ (¬ (gi M 312 10) ≤ v3 → wp_M_has a2 v3 M (fun (r84 : Int32) (M84 : Mm) => (¬ r84 = 0 → k_M_layOrders_109 RC a1 a2 Q KB v3 M84) ∧ (r84 = 0 → vp_in a1 5 ∧ (RC (a1 + (1 : Int32)) (a2 ||| ((1 : Int32) <<< (v3 &&& 31))) (si M84 339 (tn a1) v3) (fun (M106 : Mm) => k_M_layOrders_109 RC a1 a2 Q KB v3 M106)))))
def lp_M_layOrders_74 (RC : Int32 → Int32 → Mm → (Mm → Prop) → Prop) (a1 : Int32) (a2 : Int32) (Q : Mm → Prop)  : Nat → Int32 → Mm → Prop
  | 0 => fun _ _ => False
  | n + 1 => fun v3 M => k_M_layOrders_74 RC a1 a2 Q (lp_M_layOrders_74 RC a1 a2 Q n)  v3 M
def k_M_layOrders_45 (RC : Int32 → Int32 → Mm → (Mm → Prop) → Prop) (a1 : Int32) (a2 : Int32) (Q : Mm → Prop) (KB : Int32 → Int32 → Mm → Prop) (v3 : Int32) (v4 : Int32) (M : Mm) : Prop :=
  (v3 ≤ v4 → Q M) ∧ (¬ v3 ≤ v4 → vp_in v4 20 ∧ (∀ x64 : Int32, x64 = (gi M 337 (tn v4)) → vp_in v4 20 ∧ (∀ x65 : Int32, x65 = v4 + (1 : Int32) → KB v3 x65 (si M 338 (tn v4) x64))))
def lp_M_layOrders_45 (RC : Int32 → Int32 → Mm → (Mm → Prop) → Prop) (a1 : Int32) (a2 : Int32) (Q : Mm → Prop)  : Nat → Int32 → Int32 → Mm → Prop
  | 0 => fun _ _ _ => False
  | n + 1 => fun v3 v4 M => k_M_layOrders_45 RC a1 a2 Q (lp_M_layOrders_45 RC a1 a2 Q n)  v3 v4 M
def k_M_layOrders_37 (RC : Int32 → Int32 → Mm → (Mm → Prop) → Prop) (a1 : Int32) (a2 : Int32) (Q : Mm → Prop)  (v3 : Int32) (M : Mm) : Prop :=
  ∃ n : Nat, lp_M_layOrders_45 RC a1 a2 Q n v3 (0 : Int32) (si M 312 42 v3)
def wpB_M_layOrders (RC : Int32 → Int32 → Mm → (Mm → Prop) → Prop) (a1 : Int32) (a2 : Int32) (M : Mm) (Q : Mm → Prop) : Prop :=
  (¬ a1 = (gi M 312 10) → ∃ n : Nat, lp_M_layOrders_74 RC a1 a2 Q n (0 : Int32) M) ∧ (a1 = (gi M 312 10) → wp_M_layBack M (fun (r9 : Int32) (M9 : Mm) => (r9 < (gi M9 312 42) → k_M_layOrders_37 RC a1 a2 Q r9 M9) ∧ (¬ r9 < (gi M9 312 42) → (¬ r9 = (gi M9 312 42) → Q M9) ∧ (r9 = (gi M9 312 42) → wp_M_isAhead r9 M9 (fun (r31 : Int32) (M31 : Mm) => (r31 = 0 → Q M31) ∧ (¬ r31 = 0 → k_M_layOrders_37 RC a1 a2 Q r9 M31))))))
def wp_M_layOrders : Nat → Int32 → Int32 → Mm → (Mm → Prop) → Prop
  | 0 => fun _ _ _ _ => False
  | n + 1 => fun a1 a2 M Q => wpB_M_layOrders (wp_M_layOrders n) a1 a2 M Q
def wp_M_loosen (a1 : Int32) (M : Mm) (Q : Int32 → Mm → Prop) : Prop :=
  wp_M_isRow a1 M (fun (r1 : Int32) (M1 : Mm) => (¬ r1 = 0 → wp_M_layOrders 8 (0 : Int32) (0 : Int32) (si M1 312 42 (100 : Int32)) (fun (M18 : Mm) => wp_M_layRow a1 338 20 (gi M18 312 42) M18 (fun (M31 : Mm) => Q (gi M31 312 42) M31))) ∧ (r1 = 0 → Q (-1 : Int32) M1))
def k_M_eels_61 (a1 : Int32) (a2 : Int32) (Q : Int32 → Mm → Prop) (KB : Int32 → Int32 → Mm → Prop) (K68 : Int32 → Mm → Prop) (v4 : Int32) (s0 : Int32) (M : Mm) : Prop :=
  ∀ x62 : Int32, x62 = v4 + (1 : Int32) → KB s0 x62 M
def k_M_eels_60 (a1 : Int32) (a2 : Int32) (Q : Int32 → Mm → Prop) (KB : Int32 → Int32 → Mm → Prop) (K68 : Int32 → Mm → Prop) (v4 : Int32) (M : Mm) : Prop :=
  k_M_eels_61 a1 a2 Q KB K68 v4 (0 : Int32) M
def k_M_eels_32 (a1 : Int32) (a2 : Int32) (Q : Int32 → Mm → Prop) (KB : Int32 → Int32 → Mm → Prop) (K68 : Int32 → Mm → Prop) (v3 : Int32) (v4 : Int32) (M : Mm) : Prop :=
  wp_M_greater a1 a2 M (fun (r36 : Int32) (M36 : Mm) => (r36 < v4 → K68 v3 M36) ∧ (¬ r36 < v4 → (v3 = 0 → k_M_eels_60 a1 a2 Q KB K68 v4 M36) ∧ (¬ v3 = 0 → wp_M_isOpen (0 : Int32) v4 M36 (fun (r50 : Int32) (M50 : Mm) => (r50 = 0 → k_M_eels_60 a1 a2 Q KB K68 v4 M50) ∧ (¬ r50 = 0 → k_M_eels_61 a1 a2 Q KB K68 v4 (1 : Int32) M50)))))
def lp_M_eels_32 (a1 : Int32) (a2 : Int32) (Q : Int32 → Mm → Prop) (K68 : Int32 → Mm → Prop) : Nat → Int32 → Int32 → Mm → Prop
  | 0 => fun _ _ _ => False
  | n + 1 => fun v3 v4 M => k_M_eels_32 a1 a2 Q (lp_M_eels_32 a1 a2 Q K68 n) K68 v3 v4 M
def wp_M_eels (a1 : Int32) (a2 : Int32) (M : Mm) (Q : Int32 → Mm → Prop) : Prop :=
  wp_M_isArm a1 M (fun (r2 : Int32) (M2 : Mm) => (r2 = 0 → Q (-1 : Int32) M2) ∧ (¬ r2 = 0 → wp_M_isArm a2 M2 (fun (r10 : Int32) (M10 : Mm) => (r10 = 0 → Q (-1 : Int32) M10) ∧ (¬ r10 = 0 → (¬ a1 = a2 → wp_M_lesser a1 a2 M10 (fun (r27 : Int32) (M27 : Mm) => ∃ n : Nat, lp_M_eels_32 a1 a2 Q (fun (v3 : Int32) (M : Mm) => (v3 = 0 → Q (-9 : Int32) M) ∧ (¬ v3 = 0 → wp_M_greater a1 a2 M (fun (r74 : Int32) (M74 : Mm) => wp_M_lesser a1 a2 M74 (fun (r79 : Int32) (M79 : Mm) => Q ((r74 - r79) - (1 : Int32)) M79)))) n (1 : Int32) r27 M27)) ∧ (a1 = a2 → Q (-1 : Int32) M10)))))
def k_M_part_5 (a1 : Int32) (a2 : Int32) (Q : Int32 → Mm → Prop) (KB : Int32 → Int32 → Mm → Prop) (K26 : Int32 → Mm → Prop) (v3 : Int32) (v4 : Int32) (M : Mm) : Prop :=
  (v4 = 0 → K26 v3 M) ∧ (¬ v4 = 0 → (¬ v4 = 0) ∧ (∀ x14 : Int32, x14 = (v3 - v3 / v4 * v4) → KB v4 x14 M))
def lp_M_part_5 (a1 : Int32) (a2 : Int32) (Q : Int32 → Mm → Prop) (K26 : Int32 → Mm → Prop) : Nat → Int32 → Int32 → Mm → Prop
  | 0 => fun _ _ _ => False
  | n + 1 => fun v3 v4 M => k_M_part_5 a1 a2 Q (lp_M_part_5 a1 a2 Q K26 n) K26 v3 v4 M
def wp_M_part (a1 : Int32) (a2 : Int32) (M : Mm) (Q : Int32 → Mm → Prop) : Prop :=
  ∃ n : Nat, lp_M_part_5 a1 a2 Q (fun (v3 : Int32) (M : Mm) => (¬ v3 = 0) ∧ (∀ x31 : Int64, x31 = (a1 / v3).toInt64 → (¬ v3 = 0) ∧ (∀ x39 : Int64, x39 = (a2 / v3).toInt64 → Q (1 : Int32) (sl (sl M 312 3 x31) 312 4 x39)))) n a1 a2 M
def k_M_odds_39 (a1 : Int32) (Q : Int32 → Mm → Prop) (KB : Int32 → Int32 → Mm → Prop) (K47 : Int32 → Mm → Prop) (v3 : Int32) (s0 : Int32) (s1 : Int32) (M : Mm) : Prop :=
  ∀ x40 : Int32, x40 = (s1 ||| s0) → ∀ x41 : Int32, x41 = v3 + (1 : Int32) → KB x40 x41 M
def k_M_odds_14 (a1 : Int32) (Q : Int32 → Mm → Prop) (KB : Int32 → Int32 → Mm → Prop) (K47 : Int32 → Mm → Prop) (v2 : Int32) (v3 : Int32) (M : Mm) : Prop :=
  ((gi M 312 10) ≤ v3 → K47 v2 M) ∧ (¬ (gi M 312 10) ≤ v3 → wp_M_mayBe (0 : Int32) v3 M (fun (r26 : Int32) (M26 : Mm) => (r26 = 0 → k_M_odds_39 a1 Q KB K47 v3 (0 : Int32) v2 M26) ∧ (¬ r26 = 0 → k_M_odds_39 a1 Q KB K47 v3 ((1 : Int32) <<< (v3 &&& 31)) v2 M26)))
def lp_M_odds_14 (a1 : Int32) (Q : Int32 → Mm → Prop) (K47 : Int32 → Mm → Prop) : Nat → Int32 → Int32 → Mm → Prop
  | 0 => fun _ _ _ => False
  | n + 1 => fun v2 v3 M => k_M_odds_14 a1 Q (lp_M_odds_14 a1 Q K47 n) K47 v2 v3 M
def k_M_odds_117 (a1 : Int32) (Q : Int32 → Mm → Prop) (KB : Int32 → Int32 → Int32 → Int32 → Mm → Prop) (K123 : Int32 → Int32 → Mm → Prop) (v2 : Int32) (v3 : Int32) (v4 : Int32) (v5 : Int32) (M : Mm) : Prop :=
  ∀ x117 : Int32, x117 = v5 + (1 : Int32) → KB v2 v3 v4 x117 M
def k_M_odds_114 (a1 : Int32) (Q : Int32 → Mm → Prop) (KB : Int32 → Int32 → Int32 → Int32 → Mm → Prop) (K123 : Int32 → Int32 → Mm → Prop) (v2 : Int32) (v3 : Int32) (v5 : Int32) (s0 : Int32) (s1 : Int32) (M : Mm) : Prop :=
  ∀ x115 : Int32, x115 = (s1 + s0) → k_M_odds_117 a1 Q KB K123 v2 v3 x115 v5 M
def k_M_odds_55 (a1 : Int32) (Q : Int32 → Mm → Prop) (KB : Int32 → Int32 → Int32 → Int32 → Mm → Prop) (K123 : Int32 → Int32 → Mm → Prop) (v2 : Int32) (v3 : Int32) (v4 : Int32) (v5 : Int32) (M : Mm) : Prop :=
  wp_M_setMany M (fun (r58 : Int32) (M58 : Mm) => (r58 ≤ v5 → K123 v3 v4 M58) ∧ (¬ r58 ≤ v5 → (¬ (v5 &&& (v2 ^^^ (-1 : Int32))) = 0 → k_M_odds_117 a1 Q KB K123 v2 v3 v4 v5 M58) ∧ ((v5 &&& (v2 ^^^ (-1 : Int32))) = 0 → wp_M_copyTo (0 : Int32) (1 : Int32) M58 (fun (M76 : Mm) => wp_M_stampsOf (1 : Int32) v5 M76 (fun (r83 : Int32) (M83 : Mm) => wp_M_passes (1 : Int32) M83 (fun (r89 : Int32) (M89 : Mm) => ∀ x93 : Int32, x93 = v3 + (1 : Int32) → wp_M_has (gi M89 312 26) a1 M89 (fun (r103 : Int32) (M103 : Mm) => (r103 = 0 → k_M_odds_114 a1 Q KB K123 v2 x93 v5 (0 : Int32) v4 M103) ∧ (¬ r103 = 0 → k_M_odds_114 a1 Q KB K123 v2 x93 v5 (1 : Int32) v4 M103))))))))
def lp_M_odds_55 (a1 : Int32) (Q : Int32 → Mm → Prop) (K123 : Int32 → Int32 → Mm → Prop) : Nat → Int32 → Int32 → Int32 → Int32 → Mm → Prop
  | 0 => fun _ _ _ _ _ => False
  | n + 1 => fun v2 v3 v4 v5 M => k_M_odds_55 a1 Q (lp_M_odds_55 a1 Q K123 n) K123 v2 v3 v4 v5 M
def wp_M_odds (a1 : Int32) (M : Mm) (Q : Int32 → Mm → Prop) : Prop :=
  wp_M_isArm a1 M (fun (r2 : Int32) (M2 : Mm) => (¬ r2 = 0 → ∃ n : Nat, lp_M_odds_14 a1 Q (fun (v2 : Int32) (M : Mm) => ∃ n : Nat, lp_M_odds_55 a1 Q (fun (v3 : Int32) (v4 : Int32) (M : Mm) => wp_M_part v4 v3 M (fun (r127 : Int32) (M127 : Mm) => Q r127 M127)) n v2 (0 : Int32) (0 : Int32) (0 : Int32) M) n (0 : Int32) (0 : Int32) M2) ∧ (r2 = 0 → Q (-1 : Int32) M2))
def k_M_lots_113 (a1 : Int32) (a2 : Int32) (Q : Int32 → Mm → Prop) (KB : Int64 → Int32 → Int32 → Int32 → Int32 → Mm → Prop) (K119 : Int64 → Int32 → Int32 → Mm → Prop) (v3 : Int64) (v5 : Int32) (v6 : Int32) (v7 : Int32) (v8 : Int32) (M : Mm) : Prop :=
  ∀ x113 : Int32, x113 = v8 + (1 : Int32) → KB v3 v5 v6 v7 x113 M
def k_M_lots_87 (a1 : Int32) (a2 : Int32) (Q : Int32 → Mm → Prop) (KB : Int64 → Int32 → Int32 → Int32 → Int32 → Mm → Prop) (K119 : Int64 → Int32 → Int32 → Mm → Prop) (v3 : Int64) (v5 : Int32) (v6 : Int32) (v7 : Int32) (v8 : Int32) (M : Mm) : Prop :=
  ((gi M 312 10) ≤ v8 → K119 v3 v5 v6 M) ∧ (¬ (gi M 312 10) ≤ v8 → wp_M_has v7 v8 M (fun (r100 : Int32) (M100 : Mm) => (r100 = 0 → k_M_lots_113 a1 a2 Q KB K119 v3 v5 v6 v7 v8 M100) ∧ (¬ r100 = 0 → wp_M_stamp v8 M100 (fun (r109 : Int32) (M109 : Mm) => k_M_lots_113 a1 a2 Q KB K119 v3 v5 v6 v7 v8 M109))))
def lp_M_lots_87 (a1 : Int32) (a2 : Int32) (Q : Int32 → Mm → Prop) (K119 : Int64 → Int32 → Int32 → Mm → Prop) : Nat → Int64 → Int32 → Int32 → Int32 → Int32 → Mm → Prop
  | 0 => fun _ _ _ _ _ _ => False
  | n + 1 => fun v3 v5 v6 v7 v8 M => k_M_lots_87 a1 a2 Q (lp_M_lots_87 a1 a2 Q K119 n) K119 v3 v5 v6 v7 v8 M
def k_M_lots_42 (a1 : Int32) (a2 : Int32) (Q : Int32 → Mm → Prop) (KB : Int64 → Int32 → Int32 → Mm → Prop) (v3 : Int64) (v5 : Int32) (v6 : Int32) (M : Mm) : Prop :=
  (a1 ≤ v6 → Q v5 M) ∧ (¬ a1 ≤ v6 → ((60 : Int32) < ((gi M 312 28) + (6 : Int32)) → Q v5 M) ∧ (¬ (60 : Int32) < ((gi M 312 28) + (6 : Int32)) → ∀ x69 : Int64, x69 = (((48271 : Int64) * v3) - ((48271 : Int64) * v3) / (2147483647 : Int64) * (2147483647 : Int64)) → wp_M_setMany M (fun (r76 : Int32) (M76 : Mm) => (¬ r76.toInt64 = 0) ∧ (∀ x82 : Int32, x82 = ((x69 / (32 : Int64)) - (x69 / (32 : Int64)) / r76.toInt64 * r76.toInt64).toInt32 → ∃ n : Nat, lp_M_lots_87 a1 a2 Q (fun (v3 : Int64) (v5 : Int32) (v6 : Int32) (M : Mm) => wp_M_remember M (fun (M120 : Mm) => wp_M_passes (0 : Int32) M120 (fun (r127 : Int32) (M127 : Mm) => ∀ x131 : Int32, x131 = (v5 + r127) → ∀ x133 : Int32, x133 = v6 + (1 : Int32) → KB v3 x131 x133 M127))) n x69 v5 v6 x82 (0 : Int32) M76))))
def lp_M_lots_42 (a1 : Int32) (a2 : Int32) (Q : Int32 → Mm → Prop)  : Nat → Int64 → Int32 → Int32 → Mm → Prop
  | 0 => fun _ _ _ _ => False
  | n + 1 => fun v3 v5 v6 M => k_M_lots_42 a1 a2 Q (lp_M_lots_42 a1 a2 Q n)  v3 v5 v6 M
def wp_M_lots (a1 : Int32) (a2 : Int32) (M : Mm) (Q : Int32 → Mm → Prop) : Prop :=
  wp_M_in a1 (1 : Int32) (20 : Int32) M (fun (r4 : Int32) (M4 : Mm) => (r4 = 0 → Q (-1 : Int32) M4) ∧ (¬ r4 = 0 → wp_M_in a2 (1 : Int32) (2147483646 : Int32) M4 (fun (r15 : Int32) (M15 : Mm) => (¬ r15 = 0 → (¬ (gi M15 312 10) = 0 → ∀ x35 : Int64, x35 = a2.toInt64 → ∃ n : Nat, lp_M_lots_42 a1 a2 Q n x35 (0 : Int32) (0 : Int32) M15) ∧ ((gi M15 312 10) = 0 → Q (-4 : Int32) M15)) ∧ (r15 = 0 → Q (-1 : Int32) M15))))
def k_M_counted_83 (a1 : Int32) (Q : Int32 → Mm → Prop) (KB : Int32 → Int32 → Mm → Prop) (K91 : Int32 → Mm → Prop) (v3 : Int32) (s0 : Int32) (s1 : Int32) (M : Mm) : Prop :=
  ∀ x84 : Int32, x84 = (s1 + s0) → ∀ x85 : Int32, x85 = v3 + (1 : Int32) → KB x84 x85 M
def k_M_counted_64 (a1 : Int32) (Q : Int32 → Mm → Prop) (KB : Int32 → Int32 → Mm → Prop) (K91 : Int32 → Mm → Prop) (v3 : Int32) (s0 : Int32) (M : Mm) : Prop :=
  (¬ a1 = (9 : Int32) → k_M_counted_83 a1 Q KB K91 v3 (0 : Int32) s0 M) ∧ (a1 = (9 : Int32) → vp_in ((15 : Int32) + v3) 186 ∧ (k_M_counted_83 a1 Q KB K91 v3 (gi M 327 (tn ((15 : Int32) + v3))) s0 M))
def k_M_counted_4 (a1 : Int32) (Q : Int32 → Mm → Prop) (KB : Int32 → Int32 → Mm → Prop) (K91 : Int32 → Mm → Prop) (v2 : Int32) (v3 : Int32) (M : Mm) : Prop :=
  ((gi M 312 10) ≤ v3 → K91 v2 M) ∧ (¬ (gi M 312 10) ≤ v3 → (¬ a1 = (3 : Int32) → (¬ a1 = (4 : Int32) → (¬ a1 = (5 : Int32) → k_M_counted_64 a1 Q KB K91 v3 v2 M) ∧ (a1 = (5 : Int32) → wp_M_isSilty v3 M (fun (r54 : Int32) (M54 : Mm) => (r54 = 0 → k_M_counted_64 a1 Q KB K91 v3 v2 M54) ∧ (¬ r54 = 0 → k_M_counted_83 a1 Q KB K91 v3 (1 : Int32) v2 M54)))) ∧ (a1 = (4 : Int32) → vp_in ((20 : Int32) + v3) 186 ∧ (k_M_counted_83 a1 Q KB K91 v3 (gi M 327 (tn ((20 : Int32) + v3))) v2 M))) ∧ (a1 = (3 : Int32) → vp_in ((25 : Int32) + v3) 186 ∧ (k_M_counted_83 a1 Q KB K91 v3 (gi M 327 (tn ((25 : Int32) + v3))) v2 M)))
def lp_M_counted_4 (a1 : Int32) (Q : Int32 → Mm → Prop) (K91 : Int32 → Mm → Prop) : Nat → Int32 → Int32 → Mm → Prop
  | 0 => fun _ _ _ => False
  | n + 1 => fun v2 v3 M => k_M_counted_4 a1 Q (lp_M_counted_4 a1 Q K91 n) K91 v2 v3 M
def k_M_counted_120 (a1 : Int32) (Q : Int32 → Mm → Prop) (KB : Int32 → Int32 → Mm → Prop) (K128 : Int32 → Mm → Prop) (v3 : Int32) (s0 : Int32) (s1 : Int32) (M : Mm) : Prop :=
  ∀ x121 : Int32, x121 = (s1 + s0) → ∀ x122 : Int32, x122 = v3 + (1 : Int32) → KB x121 x122 M
def k_M_counted_119 (a1 : Int32) (Q : Int32 → Mm → Prop) (KB : Int32 → Int32 → Mm → Prop) (K128 : Int32 → Mm → Prop) (v3 : Int32) (s0 : Int32) (M : Mm) : Prop :=
  k_M_counted_120 a1 Q KB K128 v3 (0 : Int32) s0 M
def k_M_counted_93 (a1 : Int32) (Q : Int32 → Mm → Prop) (KB : Int32 → Int32 → Mm → Prop) (K128 : Int32 → Mm → Prop) (v2 : Int32) (v3 : Int32) (M : Mm) : Prop :=
  ((6 : Int32) ≤ v3 → K128 v2 M) ∧ (¬ (6 : Int32) ≤ v3 → (¬ a1 = (6 : Int32) → k_M_counted_119 a1 Q KB K128 v3 v2 M) ∧ (a1 = (6 : Int32) → vp_in v3 6 ∧ (((gi M 314 (tn v3)) < 0 → k_M_counted_119 a1 Q KB K128 v3 v2 M) ∧ (¬ (gi M 314 (tn v3)) < 0 → k_M_counted_120 a1 Q KB K128 v3 (1 : Int32) v2 M))))
def lp_M_counted_93 (a1 : Int32) (Q : Int32 → Mm → Prop) (K128 : Int32 → Mm → Prop) : Nat → Int32 → Int32 → Mm → Prop
  | 0 => fun _ _ _ => False
  | n + 1 => fun v2 v3 M => k_M_counted_93 a1 Q (lp_M_counted_93 a1 Q K128 n) K128 v2 v3 M
def k_M_counted_156 (a1 : Int32) (Q : Int32 → Mm → Prop) (KB : Int32 → Int32 → Mm → Prop) (K164 : Int32 → Mm → Prop) (v3 : Int32) (s0 : Int32) (s1 : Int32) (M : Mm) : Prop :=
  ∀ x157 : Int32, x157 = (s1 + s0) → ∀ x158 : Int32, x158 = v3 + (1 : Int32) → KB x157 x158 M
def k_M_counted_155 (a1 : Int32) (Q : Int32 → Mm → Prop) (KB : Int32 → Int32 → Mm → Prop) (K164 : Int32 → Mm → Prop) (v3 : Int32) (s0 : Int32) (M : Mm) : Prop :=
  k_M_counted_156 a1 Q KB K164 v3 (0 : Int32) s0 M
def k_M_counted_130 (a1 : Int32) (Q : Int32 → Mm → Prop) (KB : Int32 → Int32 → Mm → Prop) (K164 : Int32 → Mm → Prop) (v2 : Int32) (v3 : Int32) (M : Mm) : Prop :=
  ((4 : Int32) ≤ v3 → K164 v2 M) ∧ (¬ (4 : Int32) ≤ v3 → (¬ a1 = (7 : Int32) → k_M_counted_155 a1 Q KB K164 v3 v2 M) ∧ (a1 = (7 : Int32) → vp_in v3 4 ∧ (((gi M 317 (tn v3)) < 0 → k_M_counted_155 a1 Q KB K164 v3 v2 M) ∧ (¬ (gi M 317 (tn v3)) < 0 → k_M_counted_156 a1 Q KB K164 v3 (1 : Int32) v2 M))))
def lp_M_counted_130 (a1 : Int32) (Q : Int32 → Mm → Prop) (K164 : Int32 → Mm → Prop) : Nat → Int32 → Int32 → Mm → Prop
  | 0 => fun _ _ _ => False
  | n + 1 => fun v2 v3 M => k_M_counted_130 a1 Q (lp_M_counted_130 a1 Q K164 n) K164 v2 v3 M
def k_M_counted_192 (a1 : Int32) (Q : Int32 → Mm → Prop) (KB : Int32 → Int32 → Mm → Prop) (K200 : Int32 → Mm → Prop) (v3 : Int32) (s0 : Int32) (s1 : Int32) (M : Mm) : Prop :=
  ∀ x193 : Int32, x193 = (s1 + s0) → ∀ x194 : Int32, x194 = v3 + (1 : Int32) → KB x193 x194 M
def k_M_counted_191 (a1 : Int32) (Q : Int32 → Mm → Prop) (KB : Int32 → Int32 → Mm → Prop) (K200 : Int32 → Mm → Prop) (v3 : Int32) (s0 : Int32) (M : Mm) : Prop :=
  k_M_counted_192 a1 Q KB K200 v3 (0 : Int32) s0 M
def k_M_counted_166 (a1 : Int32) (Q : Int32 → Mm → Prop) (KB : Int32 → Int32 → Mm → Prop) (K200 : Int32 → Mm → Prop) (v2 : Int32) (v3 : Int32) (M : Mm) : Prop :=
  ((3 : Int32) ≤ v3 → K200 v2 M) ∧ (¬ (3 : Int32) ≤ v3 → (¬ a1 = (8 : Int32) → k_M_counted_191 a1 Q KB K200 v3 v2 M) ∧ (a1 = (8 : Int32) → vp_in v3 3 ∧ (((gi M 330 (tn v3)) = 0 → k_M_counted_191 a1 Q KB K200 v3 v2 M) ∧ (¬ (gi M 330 (tn v3)) = 0 → k_M_counted_192 a1 Q KB K200 v3 (1 : Int32) v2 M))))
def lp_M_counted_166 (a1 : Int32) (Q : Int32 → Mm → Prop) (K200 : Int32 → Mm → Prop) : Nat → Int32 → Int32 → Mm → Prop
  | 0 => fun _ _ _ => False
  | n + 1 => fun v2 v3 M => k_M_counted_166 a1 Q (lp_M_counted_166 a1 Q K200 n) K200 v2 v3 M
def wp_M_counted (a1 : Int32) (M : Mm) (Q : Int32 → Mm → Prop) : Prop :=
  ∃ n : Nat, lp_M_counted_4 a1 Q (fun (v2 : Int32) (M : Mm) => ∃ n : Nat, lp_M_counted_93 a1 Q (fun (v2 : Int32) (M : Mm) => ∃ n : Nat, lp_M_counted_130 a1 Q (fun (v2 : Int32) (M : Mm) => ∃ n : Nat, lp_M_counted_166 a1 Q (fun (v2 : Int32) (M : Mm) => (¬ a1 = 0 → (¬ a1 = (1 : Int32) → (¬ a1 = (2 : Int32) → Q v2 M) ∧ (a1 = (2 : Int32) → Q (gi M 312 28) M)) ∧ (a1 = (1 : Int32) → Q (gi M 312 11) M)) ∧ (a1 = 0 → Q (gi M 312 10) M)) n v2 (0 : Int32) M) n v2 (0 : Int32) M) n v2 (0 : Int32) M) n (0 : Int32) (0 : Int32) M
def wp_M_count (a1 : Int32) (M : Mm) (Q : Int32 → Mm → Prop) : Prop :=
  wp_M_in a1 (0 : Int32) (9 : Int32) M (fun (r4 : Int32) (M4 : Mm) => (r4 = 0 → Q (-1 : Int32) M4) ∧ (¬ r4 = 0 → wp_M_counted a1 M4 (fun (r12 : Int32) (M12 : Mm) => Q r12 M12)))
def wp_M_mix (a1 : Int64) (M : Mm) (Q : Mm → Prop) : Prop :=
  ∀ x11 : Int64, x11 = (((31 : Int64) * (gl M 312 43)) + a1) → Q (sl M 312 43 x11)
def k_M_mixDelta_24  (Q : Mm → Prop) (KB : Int32 → Int32 → Mm → Prop) (K47 : Int32 → Mm → Prop) (v1 : Int32) (v2 : Int32) (M : Mm) : Prop :=
  ((8 : Int32) ≤ v2 → K47 v1 M) ∧ (¬ (8 : Int32) ≤ v2 → wp_M_armTells v1 v2 M (fun (r34 : Int32) (M34 : Mm) => wp_M_mix r34.toInt64 M34 (fun (M38 : Mm) => ∀ x41 : Int32, x41 = v2 + (1 : Int32) → KB v1 x41 M38)))
def lp_M_mixDelta_24  (Q : Mm → Prop) (K47 : Int32 → Mm → Prop) : Nat → Int32 → Int32 → Mm → Prop
  | 0 => fun _ _ _ => False
  | n + 1 => fun v1 v2 M => k_M_mixDelta_24  Q (lp_M_mixDelta_24 Q K47 n) K47 v1 v2 M
def k_M_mixDelta_14  (Q : Mm → Prop) (KB : Int32 → Mm → Prop) (K64 : Mm → Prop) (v1 : Int32) (M : Mm) : Prop :=
  ((gi M 312 10) ≤ v1 → K64 M) ∧ (¬ (gi M 312 10) ≤ v1 → ∃ n : Nat, lp_M_mixDelta_24 Q (fun (v1 : Int32) (M : Mm) => vp_in v1 5 ∧ (wp_M_mix ((gi M 324 (tn v1)).toInt64) M (fun (M55 : Mm) => ∀ x58 : Int32, x58 = v1 + (1 : Int32) → KB x58 M55))) n v1 (0 : Int32) M)
def lp_M_mixDelta_14  (Q : Mm → Prop) (K64 : Mm → Prop) : Nat → Int32 → Mm → Prop
  | 0 => fun _ _ => False
  | n + 1 => fun v1 M => k_M_mixDelta_14  Q (lp_M_mixDelta_14 Q K64 n) K64 v1 M
def k_M_mixDelta_94  (Q : Mm → Prop) (KB : Int32 → Mm → Prop) (v1 : Int32) (s0 : Int64) (M : Mm) : Prop :=
  wp_M_mix s0 M (fun (M94 : Mm) => ∀ x97 : Int32, x97 = v1 + (1 : Int32) → KB x97 M94)
def k_M_mixDelta_66  (Q : Mm → Prop) (KB : Int32 → Mm → Prop) (v1 : Int32) (M : Mm) : Prop :=
  ((3 : Int32) ≤ v1 → Q M) ∧ (¬ (3 : Int32) ≤ v1 → vp_in v1 3 ∧ (((gi M 330 (tn v1)) = 0 → k_M_mixDelta_94 Q KB v1 (-1 : Int64) M) ∧ (¬ (gi M 330 (tn v1)) = 0 → vp_in v1 3 ∧ (k_M_mixDelta_94 Q KB v1 ((gi M 331 (tn v1)).toInt64) M))))
def lp_M_mixDelta_66  (Q : Mm → Prop)  : Nat → Int32 → Mm → Prop
  | 0 => fun _ _ => False
  | n + 1 => fun v1 M => k_M_mixDelta_66  Q (lp_M_mixDelta_66 Q n)  v1 M
def wp_M_mixDelta  (M : Mm) (Q : Mm → Prop) : Prop :=
  vp_in (30 : Int32) 186 ∧ (wp_M_mix ((gi M 327 (tn (30 : Int32))).toInt64) M (fun (M9 : Mm) => ∃ n : Nat, lp_M_mixDelta_14 Q (fun (M : Mm) => ∃ n : Nat, lp_M_mixDelta_66 Q n (0 : Int32) M) n (0 : Int32) M9))
def k_M_digest_9  (Q : Int64 → Mm → Prop) (KB : Int32 → Mm → Prop) (K31 : Mm → Prop) (v1 : Int32) (M : Mm) : Prop :=
  ((10 : Int32) ≤ v1 → K31 M) ∧ (¬ (10 : Int32) ≤ v1 → wp_M_counted v1 M (fun (r18 : Int32) (M18 : Mm) => wp_M_mix r18.toInt64 M18 (fun (M22 : Mm) => ∀ x25 : Int32, x25 = v1 + (1 : Int32) → KB x25 M22)))
def lp_M_digest_9  (Q : Int64 → Mm → Prop) (K31 : Mm → Prop) : Nat → Int32 → Mm → Prop
  | 0 => fun _ _ => False
  | n + 1 => fun v1 M => k_M_digest_9  Q (lp_M_digest_9 Q K31 n) K31 v1 M
def k_M_digest_56  (Q : Int64 → Mm → Prop) (KB : Int32 → Int32 → Mm → Prop) (K83 : Int32 → Mm → Prop) (v1 : Int32) (v2 : Int32) (M : Mm) : Prop :=
  vp_in v1 6 ∧ (((gi M 314 (tn v1)) ≤ v2 → K83 v1 M) ∧ (¬ (gi M 314 (tn v1)) ≤ v2 → wp_M_rowAt v1 v2 M (fun (r70 : Int32) (M70 : Mm) => wp_M_mix r70.toInt64 M70 (fun (M74 : Mm) => ∀ x77 : Int32, x77 = v2 + (1 : Int32) → KB v1 x77 M74))))
def lp_M_digest_56  (Q : Int64 → Mm → Prop) (K83 : Int32 → Mm → Prop) : Nat → Int32 → Int32 → Mm → Prop
  | 0 => fun _ _ _ => False
  | n + 1 => fun v1 v2 M => k_M_digest_56  Q (lp_M_digest_56 Q K83 n) K83 v1 v2 M
def k_M_digest_37  (Q : Int64 → Mm → Prop) (KB : Int32 → Mm → Prop) (K89 : Mm → Prop) (v1 : Int32) (M : Mm) : Prop :=
  ((6 : Int32) ≤ v1 → K89 M) ∧ (¬ (6 : Int32) ≤ v1 → vp_in v1 6 ∧ (wp_M_mix ((gi M 314 (tn v1)).toInt64) M (fun (M51 : Mm) => ∃ n : Nat, lp_M_digest_56 Q (fun (v1 : Int32) (M : Mm) => ∀ x83 : Int32, x83 = v1 + (1 : Int32) → KB x83 M) n v1 (0 : Int32) M51)))
def lp_M_digest_37  (Q : Int64 → Mm → Prop) (K89 : Mm → Prop) : Nat → Int32 → Mm → Prop
  | 0 => fun _ _ => False
  | n + 1 => fun v1 M => k_M_digest_37  Q (lp_M_digest_37 Q K89 n) K89 v1 M
def k_M_digest_109  (Q : Int64 → Mm → Prop) (KB : Int32 → Int32 → Mm → Prop) (K136 : Int32 → Mm → Prop) (v1 : Int32) (v2 : Int32) (M : Mm) : Prop :=
  vp_in v1 4 ∧ (((gi M 317 (tn v1)) ≤ v2 → K136 v1 M) ∧ (¬ (gi M 317 (tn v1)) ≤ v2 → wp_M_byteAt v1 v2 M (fun (r123 : Int32) (M123 : Mm) => wp_M_mix r123.toInt64 M123 (fun (M127 : Mm) => ∀ x130 : Int32, x130 = v2 + (1 : Int32) → KB v1 x130 M127))))
def lp_M_digest_109  (Q : Int64 → Mm → Prop) (K136 : Int32 → Mm → Prop) : Nat → Int32 → Int32 → Mm → Prop
  | 0 => fun _ _ _ => False
  | n + 1 => fun v1 v2 M => k_M_digest_109  Q (lp_M_digest_109 Q K136 n) K136 v1 v2 M
def k_M_digest_91  (Q : Int64 → Mm → Prop) (KB : Int32 → Mm → Prop) (v1 : Int32) (M : Mm) : Prop :=
  ((4 : Int32) ≤ v1 → Q (gl M 312 43) M) ∧ (¬ (4 : Int32) ≤ v1 → vp_in v1 4 ∧ (wp_M_mix ((gi M 317 (tn v1)).toInt64) M (fun (M104 : Mm) => ∃ n : Nat, lp_M_digest_109 Q (fun (v1 : Int32) (M : Mm) => ∀ x136 : Int32, x136 = v1 + (1 : Int32) → KB x136 M) n v1 (0 : Int32) M104)))
def lp_M_digest_91  (Q : Int64 → Mm → Prop)  : Nat → Int32 → Mm → Prop
  | 0 => fun _ _ => False
  | n + 1 => fun v1 M => k_M_digest_91  Q (lp_M_digest_91 Q n)  v1 M
def wp_M_digest  (M : Mm) (Q : Int64 → Mm → Prop) : Prop :=
  ∃ n : Nat, lp_M_digest_9 Q (fun (M : Mm) => wp_M_mixDelta M (fun (M32 : Mm) => ∃ n : Nat, lp_M_digest_37 Q (fun (M : Mm) => ∃ n : Nat, lp_M_digest_91 Q n (0 : Int32) M) n (0 : Int32) M32)) n (0 : Int32) (sl M 312 43 (17 : Int64))
def k_L_law_1315 (b L : Nat) (xs : Nat → Int32) (Q : Int32 → Mm → Prop) (KB : Int32 → Mm → Prop) (v3 : Int32) (M : Mm) : Prop :=
  ∀ x1315 : Int32, x1315 = v3 + (6 : Int32) → KB x1315 M
def k_L_law_18 (b L : Nat) (xs : Nat → Int32) (Q : Int32 → Mm → Prop) (KB : Int32 → Mm → Prop) (v3 : Int32) (M : Mm) : Prop :=
  (((Int32.ofNat L) - (6 : Int32)) < v3 → Q (1 : Int32) M) ∧ (¬ ((Int32.ofNat L) - (6 : Int32)) < v3 → vp_in v3 L ∧ ((((xs (tn v3)) &&& (63 : Int32)) = 0 → vp_in (v3 + (1 : Int32)) L ∧ (vp_in (v3 + (2 : Int32)) L ∧ (wp_B_row (xs (tn (v3 + (1 : Int32)))) (xs (tn (v3 + (2 : Int32)))) M (fun (r227 : Int32) (M227 : Mm) => vp_in (v3 + (1 : Int32)) L ∧ (vp_in (v3 + (2 : Int32)) L ∧ (wp_M_row (xs (tn (v3 + (1 : Int32)))) (xs (tn (v3 + (2 : Int32)))) M227 (fun (r241 : Int32) (M241 : Mm) => (r227 = r241 → k_L_law_1315 b L xs Q KB v3 M241) ∧ (¬ r227 = r241 → Q (0 : Int32) M241)))))))) ∧ (((xs (tn v3)) &&& (63 : Int32)) = 1 → vp_in (v3 + (1 : Int32)) L ∧ (vp_in (v3 + (2 : Int32)) L ∧ (vp_in (v3 + (3 : Int32)) L ∧ (wp_B_lay (xs (tn (v3 + (1 : Int32)))) (xs (tn (v3 + (2 : Int32)))) (xs (tn (v3 + (3 : Int32)))) M (fun (r265 : Int32) (M265 : Mm) => vp_in (v3 + (1 : Int32)) L ∧ (vp_in (v3 + (2 : Int32)) L ∧ (vp_in (v3 + (3 : Int32)) L ∧ (wp_M_lay (xs (tn (v3 + (1 : Int32)))) (xs (tn (v3 + (2 : Int32)))) (xs (tn (v3 + (3 : Int32)))) M265 (fun (r284 : Int32) (M284 : Mm) => (r265 = r284 → k_L_law_1315 b L xs Q KB v3 M284) ∧ (¬ r265 = r284 → Q (0 : Int32) M284)))))))))) ∧ (((xs (tn v3)) &&& (63 : Int32)) = 2 → vp_in (v3 + (1 : Int32)) L ∧ (vp_in (v3 + (2 : Int32)) L ∧ (wp_B_at (xs (tn (v3 + (1 : Int32)))) (xs (tn (v3 + (2 : Int32)))) M (fun (r303 : Int32) (M303 : Mm) => vp_in (v3 + (1 : Int32)) L ∧ (vp_in (v3 + (2 : Int32)) L ∧ (wp_M_at (xs (tn (v3 + (1 : Int32)))) (xs (tn (v3 + (2 : Int32)))) M303 (fun (r317 : Int32) (M317 : Mm) => (r303 = r317 → k_L_law_1315 b L xs Q KB v3 M317) ∧ (¬ r303 = r317 → Q (0 : Int32) M317)))))))) ∧ (((xs (tn v3)) &&& (63 : Int32)) = 3 → vp_in (v3 + (1 : Int32)) L ∧ (wp_B_tear (xs (tn (v3 + (1 : Int32)))) M (fun (r331 : Int32) (M331 : Mm) => vp_in (v3 + (1 : Int32)) L ∧ (wp_M_tear (xs (tn (v3 + (1 : Int32)))) M331 (fun (r340 : Int32) (M340 : Mm) => (r331 = r340 → k_L_law_1315 b L xs Q KB v3 M340) ∧ (¬ r331 = r340 → Q (0 : Int32) M340)))))) ∧ (((xs (tn v3)) &&& (63 : Int32)) = 4 → vp_in (v3 + (1 : Int32)) L ∧ (vp_in (v3 + (2 : Int32)) L ∧ (vp_in (v3 + (3 : Int32)) L ∧ (vp_in (v3 + (4 : Int32)) L ∧ (vp_in (v3 + (5 : Int32)) L ∧ (wp_B_copy (xs (tn (v3 + (1 : Int32)))) (xs (tn (v3 + (2 : Int32)))) (xs (tn (v3 + (3 : Int32)))) (xs (tn (v3 + (4 : Int32)))) (xs (tn (v3 + (5 : Int32)))) M (fun (r374 : Int32) (M374 : Mm) => vp_in (v3 + (1 : Int32)) L ∧ (vp_in (v3 + (2 : Int32)) L ∧ (vp_in (v3 + (3 : Int32)) L ∧ (vp_in (v3 + (4 : Int32)) L ∧ (vp_in (v3 + (5 : Int32)) L ∧ (wp_M_copy (xs (tn (v3 + (1 : Int32)))) (xs (tn (v3 + (2 : Int32)))) (xs (tn (v3 + (3 : Int32)))) (xs (tn (v3 + (4 : Int32)))) (xs (tn (v3 + (5 : Int32)))) M374 (fun (r403 : Int32) (M403 : Mm) => (r374 = r403 → k_L_law_1315 b L xs Q KB v3 M403) ∧ (¬ r374 = r403 → Q (0 : Int32) M403)))))))))))))) ∧ (((xs (tn v3)) &&& (63 : Int32)) = 5 → vp_in (v3 + (1 : Int32)) L ∧ (wp_B_mean (xs (tn (v3 + (1 : Int32)))) M (fun (r417 : Int32) (M417 : Mm) => vp_in (v3 + (1 : Int32)) L ∧ (wp_M_mean (xs (tn (v3 + (1 : Int32)))) M417 (fun (r426 : Int32) (M426 : Mm) => (r417 = r426 → k_L_law_1315 b L xs Q KB v3 M426) ∧ (¬ r417 = r426 → Q (0 : Int32) M426)))))) ∧ (((xs (tn v3)) &&& (63 : Int32)) = 6 → vp_in (v3 + (1 : Int32)) L ∧ (vp_in (v3 + (2 : Int32)) L ∧ (wp_B_text (xs (tn (v3 + (1 : Int32)))) (xs (tn (v3 + (2 : Int32)))) M (fun (r445 : Int32) (M445 : Mm) => vp_in (v3 + (1 : Int32)) L ∧ (vp_in (v3 + (2 : Int32)) L ∧ (wp_M_text (xs (tn (v3 + (1 : Int32)))) (xs (tn (v3 + (2 : Int32)))) M445 (fun (r459 : Int32) (M459 : Mm) => (r445 = r459 → k_L_law_1315 b L xs Q KB v3 M459) ∧ (¬ r445 = r459 → Q (0 : Int32) M459)))))))) ∧ (((xs (tn v3)) &&& (63 : Int32)) = 7 → vp_in (v3 + (1 : Int32)) L ∧ (vp_in (v3 + (2 : Int32)) L ∧ (vp_in (v3 + (3 : Int32)) L ∧ (wp_B_put (xs (tn (v3 + (1 : Int32)))) (xs (tn (v3 + (2 : Int32)))) (xs (tn (v3 + (3 : Int32)))) M (fun (r483 : Int32) (M483 : Mm) => vp_in (v3 + (1 : Int32)) L ∧ (vp_in (v3 + (2 : Int32)) L ∧ (vp_in (v3 + (3 : Int32)) L ∧ (wp_M_put (xs (tn (v3 + (1 : Int32)))) (xs (tn (v3 + (2 : Int32)))) (xs (tn (v3 + (3 : Int32)))) M483 (fun (r502 : Int32) (M502 : Mm) => (r483 = r502 → k_L_law_1315 b L xs Q KB v3 M502) ∧ (¬ r483 = r502 → Q (0 : Int32) M502)))))))))) ∧ (((xs (tn v3)) &&& (63 : Int32)) = 8 → vp_in (v3 + (1 : Int32)) L ∧ (wp_B_fault (xs (tn (v3 + (1 : Int32)))) M (fun (r516 : Int32) (M516 : Mm) => vp_in (v3 + (1 : Int32)) L ∧ (wp_M_fault (xs (tn (v3 + (1 : Int32)))) M516 (fun (r525 : Int32) (M525 : Mm) => (r516 = r525 → k_L_law_1315 b L xs Q KB v3 M525) ∧ (¬ r516 = r525 → Q (0 : Int32) M525)))))) ∧ (((xs (tn v3)) &&& (63 : Int32)) = 9 → vp_in (v3 + (1 : Int32)) L ∧ (wp_B_delta (xs (tn (v3 + (1 : Int32)))) M (fun (r539 : Int32) (M539 : Mm) => vp_in (v3 + (1 : Int32)) L ∧ (wp_M_delta (xs (tn (v3 + (1 : Int32)))) M539 (fun (r548 : Int32) (M548 : Mm) => (r539 = r548 → k_L_law_1315 b L xs Q KB v3 M548) ∧ (¬ r539 = r548 → Q (0 : Int32) M548)))))) ∧ (((xs (tn v3)) &&& (63 : Int32)) = 10 → vp_in (v3 + (1 : Int32)) L ∧ (vp_in (v3 + (2 : Int32)) L ∧ (wp_B_arm (xs (tn (v3 + (1 : Int32)))) (xs (tn (v3 + (2 : Int32)))) M (fun (r567 : Int32) (M567 : Mm) => vp_in (v3 + (1 : Int32)) L ∧ (vp_in (v3 + (2 : Int32)) L ∧ (wp_M_arm (xs (tn (v3 + (1 : Int32)))) (xs (tn (v3 + (2 : Int32)))) M567 (fun (r581 : Int32) (M581 : Mm) => (r567 = r581 → k_L_law_1315 b L xs Q KB v3 M581) ∧ (¬ r567 = r581 → Q (0 : Int32) M581)))))))) ∧ (((xs (tn v3)) &&& (63 : Int32)) = 11 → vp_in (v3 + (1 : Int32)) L ∧ (vp_in (v3 + (2 : Int32)) L ∧ (wp_B_mark (xs (tn (v3 + (1 : Int32)))) (xs (tn (v3 + (2 : Int32)))) M (fun (r600 : Int32) (M600 : Mm) => vp_in (v3 + (1 : Int32)) L ∧ (vp_in (v3 + (2 : Int32)) L ∧ (wp_M_mark (xs (tn (v3 + (1 : Int32)))) (xs (tn (v3 + (2 : Int32)))) M600 (fun (r614 : Int32) (M614 : Mm) => (r600 = r614 → k_L_law_1315 b L xs Q KB v3 M614) ∧ (¬ r600 = r614 → Q (0 : Int32) M614)))))))) ∧ (((xs (tn v3)) &&& (63 : Int32)) = 12 → vp_in (v3 + (1 : Int32)) L ∧ (vp_in (v3 + (2 : Int32)) L ∧ (wp_B_need (xs (tn (v3 + (1 : Int32)))) (xs (tn (v3 + (2 : Int32)))) M (fun (r633 : Int32) (M633 : Mm) => vp_in (v3 + (1 : Int32)) L ∧ (vp_in (v3 + (2 : Int32)) L ∧ (wp_M_need (xs (tn (v3 + (1 : Int32)))) (xs (tn (v3 + (2 : Int32)))) M633 (fun (r647 : Int32) (M647 : Mm) => (r633 = r647 → k_L_law_1315 b L xs Q KB v3 M647) ∧ (¬ r633 = r647 → Q (0 : Int32) M647)))))))) ∧ (((xs (tn v3)) &&& (63 : Int32)) = 13 → vp_in (v3 + (1 : Int32)) L ∧ (vp_in (v3 + (2 : Int32)) L ∧ (vp_in (v3 + (3 : Int32)) L ∧ (wp_B_awaits (xs (tn (v3 + (1 : Int32)))) (xs (tn (v3 + (2 : Int32)))) (xs (tn (v3 + (3 : Int32)))) M (fun (r671 : Int32) (M671 : Mm) => vp_in (v3 + (1 : Int32)) L ∧ (vp_in (v3 + (2 : Int32)) L ∧ (vp_in (v3 + (3 : Int32)) L ∧ (wp_M_awaits (xs (tn (v3 + (1 : Int32)))) (xs (tn (v3 + (2 : Int32)))) (xs (tn (v3 + (3 : Int32)))) M671 (fun (r690 : Int32) (M690 : Mm) => (r671 = r690 → k_L_law_1315 b L xs Q KB v3 M690) ∧ (¬ r671 = r690 → Q (0 : Int32) M690)))))))))) ∧ (((xs (tn v3)) &&& (63 : Int32)) = 14 → vp_in (v3 + (1 : Int32)) L ∧ (wp_B_stamp (xs (tn (v3 + (1 : Int32)))) M (fun (r704 : Int32) (M704 : Mm) => vp_in (v3 + (1 : Int32)) L ∧ (wp_M_stamp (xs (tn (v3 + (1 : Int32)))) M704 (fun (r713 : Int32) (M713 : Mm) => (r704 = r713 → k_L_law_1315 b L xs Q KB v3 M713) ∧ (¬ r704 = r713 → Q (0 : Int32) M713)))))) ∧ (((xs (tn v3)) &&& (63 : Int32)) = 15 → wp_B_season M (fun (r722 : Int32) (M722 : Mm) => wp_M_season M722 (fun (r726 : Int32) (M726 : Mm) => (r722 = r726 → k_L_law_1315 b L xs Q KB v3 M726) ∧ (¬ r722 = r726 → Q (0 : Int32) M726)))) ∧ (((xs (tn v3)) &&& (63 : Int32)) = 16 → vp_in (v3 + (1 : Int32)) L ∧ (wp_B_leave (xs (tn (v3 + (1 : Int32)))) M (fun (r740 : Int32) (M740 : Mm) => vp_in (v3 + (1 : Int32)) L ∧ (wp_M_leave (xs (tn (v3 + (1 : Int32)))) M740 (fun (r749 : Int32) (M749 : Mm) => (r740 = r749 → k_L_law_1315 b L xs Q KB v3 M749) ∧ (¬ r740 = r749 → Q (0 : Int32) M749)))))) ∧ (((xs (tn v3)) &&& (63 : Int32)) = 17 → vp_in (v3 + (1 : Int32)) L ∧ (wp_B_undo (xs (tn (v3 + (1 : Int32)))) M (fun (r763 : Int32) (M763 : Mm) => vp_in (v3 + (1 : Int32)) L ∧ (wp_M_undo (xs (tn (v3 + (1 : Int32)))) M763 (fun (r772 : Int32) (M772 : Mm) => (r763 = r772 → k_L_law_1315 b L xs Q KB v3 M772) ∧ (¬ r763 = r772 → Q (0 : Int32) M772)))))) ∧ (((xs (tn v3)) &&& (63 : Int32)) = 18 → wp_B_now M (fun (r781 : Int32) (M781 : Mm) => wp_M_now M781 (fun (r785 : Int32) (M785 : Mm) => (r781 = r785 → k_L_law_1315 b L xs Q KB v3 M785) ∧ (¬ r781 = r785 → Q (0 : Int32) M785)))) ∧ (((xs (tn v3)) &&& (63 : Int32)) = 19 → vp_in (v3 + (1 : Int32)) L ∧ (wp_B_water (xs (tn (v3 + (1 : Int32)))) M (fun (r799 : Int32) (M799 : Mm) => vp_in (v3 + (1 : Int32)) L ∧ (wp_M_water (xs (tn (v3 + (1 : Int32)))) M799 (fun (r808 : Int32) (M808 : Mm) => (r799 = r808 → k_L_law_1315 b L xs Q KB v3 M808) ∧ (¬ r799 = r808 → Q (0 : Int32) M808)))))) ∧ (((xs (tn v3)) &&& (63 : Int32)) = 20 → vp_in (v3 + (1 : Int32)) L ∧ (wp_B_keep (xs (tn (v3 + (1 : Int32)))) M (fun (r822 : Int32) (M822 : Mm) => vp_in (v3 + (1 : Int32)) L ∧ (wp_M_keep (xs (tn (v3 + (1 : Int32)))) M822 (fun (r831 : Int32) (M831 : Mm) => (r822 = r831 → k_L_law_1315 b L xs Q KB v3 M831) ∧ (¬ r822 = r831 → Q (0 : Int32) M831)))))) ∧ (((xs (tn v3)) &&& (63 : Int32)) = 21 → vp_in (v3 + (1 : Int32)) L ∧ (wp_B_on (xs (tn (v3 + (1 : Int32)))) M (fun (r845 : Int32) (M845 : Mm) => vp_in (v3 + (1 : Int32)) L ∧ (wp_M_on (xs (tn (v3 + (1 : Int32)))) M845 (fun (r854 : Int32) (M854 : Mm) => (r845 = r854 → k_L_law_1315 b L xs Q KB v3 M854) ∧ (¬ r845 = r854 → Q (0 : Int32) M854)))))) ∧ (((xs (tn v3)) &&& (63 : Int32)) = 22 → vp_in (v3 + (1 : Int32)) L ∧ (wp_B_run (xs (tn (v3 + (1 : Int32)))) M (fun (r868 : Int32) (M868 : Mm) => vp_in (v3 + (1 : Int32)) L ∧ (wp_M_run (xs (tn (v3 + (1 : Int32)))) M868 (fun (r877 : Int32) (M877 : Mm) => (r868 = r877 → k_L_law_1315 b L xs Q KB v3 M877) ∧ (¬ r868 = r877 → Q (0 : Int32) M877)))))) ∧ (((xs (tn v3)) &&& (63 : Int32)) = 23 → vp_in (v3 + (1 : Int32)) L ∧ (vp_in (v3 + (2 : Int32)) L ∧ (wp_B_best (xs (tn (v3 + (1 : Int32)))) (xs (tn (v3 + (2 : Int32)))) M (fun (r896 : Int32) (M896 : Mm) => vp_in (v3 + (1 : Int32)) L ∧ (vp_in (v3 + (2 : Int32)) L ∧ (wp_M_best (xs (tn (v3 + (1 : Int32)))) (xs (tn (v3 + (2 : Int32)))) M896 (fun (r910 : Int32) (M910 : Mm) => (r896 = r910 → k_L_law_1315 b L xs Q KB v3 M910) ∧ (¬ r896 = r910 → Q (0 : Int32) M910)))))))) ∧ (((xs (tn v3)) &&& (63 : Int32)) = 24 → vp_in (v3 + (1 : Int32)) L ∧ (vp_in (v3 + (2 : Int32)) L ∧ (vp_in (v3 + (3 : Int32)) L ∧ (wp_B_fewest (xs (tn (v3 + (1 : Int32)))) (xs (tn (v3 + (2 : Int32)))) (xs (tn (v3 + (3 : Int32)))) M (fun (r934 : Int32) (M934 : Mm) => vp_in (v3 + (1 : Int32)) L ∧ (vp_in (v3 + (2 : Int32)) L ∧ (vp_in (v3 + (3 : Int32)) L ∧ (wp_M_fewest (xs (tn (v3 + (1 : Int32)))) (xs (tn (v3 + (2 : Int32)))) (xs (tn (v3 + (3 : Int32)))) M934 (fun (r953 : Int32) (M953 : Mm) => (r934 = r953 → k_L_law_1315 b L xs Q KB v3 M953) ∧ (¬ r934 = r953 → Q (0 : Int32) M953)))))))))) ∧ (((xs (tn v3)) &&& (63 : Int32)) = 25 → wp_B_dies M (fun (r962 : Int32) (M962 : Mm) => wp_M_dies M962 (fun (r966 : Int32) (M966 : Mm) => (r962 = r966 → k_L_law_1315 b L xs Q KB v3 M966) ∧ (¬ r962 = r966 → Q (0 : Int32) M966)))) ∧ (((xs (tn v3)) &&& (63 : Int32)) = 26 → vp_in (v3 + (1 : Int32)) L ∧ (vp_in (v3 + (2 : Int32)) L ∧ (wp_B_barge (xs (tn (v3 + (1 : Int32)))) (xs (tn (v3 + (2 : Int32)))) M (fun (r985 : Int32) (M985 : Mm) => vp_in (v3 + (1 : Int32)) L ∧ (vp_in (v3 + (2 : Int32)) L ∧ (wp_M_barge (xs (tn (v3 + (1 : Int32)))) (xs (tn (v3 + (2 : Int32)))) M985 (fun (r999 : Int32) (M999 : Mm) => (r985 = r999 → k_L_law_1315 b L xs Q KB v3 M999) ∧ (¬ r985 = r999 → Q (0 : Int32) M999)))))))) ∧ (((xs (tn v3)) &&& (63 : Int32)) = 27 → vp_in (v3 + (1 : Int32)) L ∧ (wp_B_fits (xs (tn (v3 + (1 : Int32)))) M (fun (r1013 : Int32) (M1013 : Mm) => vp_in (v3 + (1 : Int32)) L ∧ (wp_M_fits (xs (tn (v3 + (1 : Int32)))) M1013 (fun (r1022 : Int32) (M1022 : Mm) => (r1013 = r1022 → k_L_law_1315 b L xs Q KB v3 M1022) ∧ (¬ r1013 = r1022 → Q (0 : Int32) M1022)))))) ∧ (((xs (tn v3)) &&& (63 : Int32)) = 28 → vp_in (v3 + (1 : Int32)) L ∧ (wp_B_opened (xs (tn (v3 + (1 : Int32)))) M (fun (r1036 : Int32) (M1036 : Mm) => vp_in (v3 + (1 : Int32)) L ∧ (wp_M_opened (xs (tn (v3 + (1 : Int32)))) M1036 (fun (r1045 : Int32) (M1045 : Mm) => (r1036 = r1045 → k_L_law_1315 b L xs Q KB v3 M1045) ∧ (¬ r1036 = r1045 → Q (0 : Int32) M1045)))))) ∧ (((xs (tn v3)) &&& (63 : Int32)) = 29 → vp_in (v3 + (1 : Int32)) L ∧ (wp_B_settle (xs (tn (v3 + (1 : Int32)))) M (fun (r1059 : Int32) (M1059 : Mm) => vp_in (v3 + (1 : Int32)) L ∧ (wp_M_settle (xs (tn (v3 + (1 : Int32)))) M1059 (fun (r1068 : Int32) (M1068 : Mm) => (r1059 = r1068 → k_L_law_1315 b L xs Q KB v3 M1068) ∧ (¬ r1059 = r1068 → Q (0 : Int32) M1068)))))) ∧ (((xs (tn v3)) &&& (63 : Int32)) = 30 → wp_B_stalled M (fun (r1077 : Int32) (M1077 : Mm) => wp_M_stalled M1077 (fun (r1081 : Int32) (M1081 : Mm) => (r1077 = r1081 → k_L_law_1315 b L xs Q KB v3 M1081) ∧ (¬ r1077 = r1081 → Q (0 : Int32) M1081)))) ∧ (((xs (tn v3)) &&& (63 : Int32)) = 31 → vp_in (v3 + (1 : Int32)) L ∧ (wp_B_loosen (xs (tn (v3 + (1 : Int32)))) M (fun (r1095 : Int32) (M1095 : Mm) => vp_in (v3 + (1 : Int32)) L ∧ (wp_M_loosen (xs (tn (v3 + (1 : Int32)))) M1095 (fun (r1104 : Int32) (M1104 : Mm) => (r1095 = r1104 → k_L_law_1315 b L xs Q KB v3 M1104) ∧ (¬ r1095 = r1104 → Q (0 : Int32) M1104)))))) ∧ (((xs (tn v3)) &&& (63 : Int32)) = 32 → vp_in (v3 + (1 : Int32)) L ∧ (vp_in (v3 + (2 : Int32)) L ∧ (wp_B_eels (xs (tn (v3 + (1 : Int32)))) (xs (tn (v3 + (2 : Int32)))) M (fun (r1123 : Int32) (M1123 : Mm) => vp_in (v3 + (1 : Int32)) L ∧ (vp_in (v3 + (2 : Int32)) L ∧ (wp_M_eels (xs (tn (v3 + (1 : Int32)))) (xs (tn (v3 + (2 : Int32)))) M1123 (fun (r1137 : Int32) (M1137 : Mm) => (r1123 = r1137 → k_L_law_1315 b L xs Q KB v3 M1137) ∧ (¬ r1123 = r1137 → Q (0 : Int32) M1137)))))))) ∧ (((xs (tn v3)) &&& (63 : Int32)) = 33 → vp_in (v3 + (1 : Int32)) L ∧ (wp_B_odds (xs (tn (v3 + (1 : Int32)))) M (fun (r1151 : Int32) (M1151 : Mm) => vp_in (v3 + (1 : Int32)) L ∧ (wp_M_odds (xs (tn (v3 + (1 : Int32)))) M1151 (fun (r1160 : Int32) (M1160 : Mm) => (r1151 = r1160 → k_L_law_1315 b L xs Q KB v3 M1160) ∧ (¬ r1151 = r1160 → Q (0 : Int32) M1160)))))) ∧ (((xs (tn v3)) &&& (63 : Int32)) = 34 → vp_in (v3 + (1 : Int32)) L ∧ (vp_in (v3 + (2 : Int32)) L ∧ (wp_B_lots (xs (tn (v3 + (1 : Int32)))) (xs (tn (v3 + (2 : Int32)))) M (fun (r1179 : Int32) (M1179 : Mm) => vp_in (v3 + (1 : Int32)) L ∧ (vp_in (v3 + (2 : Int32)) L ∧ (wp_M_lots (xs (tn (v3 + (1 : Int32)))) (xs (tn (v3 + (2 : Int32)))) M1179 (fun (r1193 : Int32) (M1193 : Mm) => (r1179 = r1193 → k_L_law_1315 b L xs Q KB v3 M1193) ∧ (¬ r1179 = r1193 → Q (0 : Int32) M1193)))))))) ∧ (((xs (tn v3)) &&& (63 : Int32)) = 35 → wp_B_asked M (fun (r1202 : Int32) (M1202 : Mm) => wp_M_asked M1202 (fun (r1206 : Int32) (M1206 : Mm) => (r1202 = r1206 → k_L_law_1315 b L xs Q KB v3 M1206) ∧ (¬ r1202 = r1206 → Q (0 : Int32) M1206)))) ∧ (((xs (tn v3)) &&& (63 : Int32)) = 36 → wp_B_upper M (fun (r1215 : Int64) (M1215 : Mm) => wp_M_upper M1215 (fun (r1219 : Int64) (M1219 : Mm) => ((lg_cmp r1215 r1219) = 0 → k_L_law_1315 b L xs Q KB v3 M1219) ∧ (¬ (lg_cmp r1215 r1219) = 0 → Q (0 : Int32) M1219)))) ∧ (((xs (tn v3)) &&& (63 : Int32)) = 37 → wp_B_lower M (fun (r1229 : Int64) (M1229 : Mm) => wp_M_lower M1229 (fun (r1233 : Int64) (M1233 : Mm) => ((lg_cmp r1229 r1233) = 0 → k_L_law_1315 b L xs Q KB v3 M1233) ∧ (¬ (lg_cmp r1229 r1233) = 0 → Q (0 : Int32) M1233)))) ∧ (((xs (tn v3)) &&& (63 : Int32)) = 38 → vp_in (v3 + (1 : Int32)) L ∧ (wp_B_count (xs (tn (v3 + (1 : Int32)))) M (fun (r1248 : Int32) (M1248 : Mm) => vp_in (v3 + (1 : Int32)) L ∧ (wp_M_count (xs (tn (v3 + (1 : Int32)))) M1248 (fun (r1257 : Int32) (M1257 : Mm) => (r1248 = r1257 → k_L_law_1315 b L xs Q KB v3 M1257) ∧ (¬ r1248 = r1257 → Q (0 : Int32) M1257)))))) ∧ (((xs (tn v3)) &&& (63 : Int32)) = 39 → wp_B_finding M (fun (r1266 : Int32) (M1266 : Mm) => wp_M_finding M1266 (fun (r1270 : Int32) (M1270 : Mm) => (r1266 = r1270 → k_L_law_1315 b L xs Q KB v3 M1270) ∧ (¬ r1266 = r1270 → Q (0 : Int32) M1270)))) ∧ (((xs (tn v3)) &&& (63 : Int32)) = 40 → vp_in (v3 + (1 : Int32)) L ∧ (wp_B_findings (xs (tn (v3 + (1 : Int32)))) M (fun (r1284 : Int32) (M1284 : Mm) => vp_in (v3 + (1 : Int32)) L ∧ (wp_M_findings (xs (tn (v3 + (1 : Int32)))) M1284 (fun (r1293 : Int32) (M1293 : Mm) => (r1284 = r1293 → k_L_law_1315 b L xs Q KB v3 M1293) ∧ (¬ r1284 = r1293 → Q (0 : Int32) M1293)))))) ∧ (((xs (tn v3)) &&& (63 : Int32)) = 41 → wp_B_digest M (fun (r1302 : Int64) (M1302 : Mm) => wp_M_digest M1302 (fun (r1306 : Int64) (M1306 : Mm) => ((lg_cmp r1302 r1306) = 0 → k_L_law_1315 b L xs Q KB v3 M1306) ∧ (¬ (lg_cmp r1302 r1306) = 0 → Q (0 : Int32) M1306)))) ∧ (((xs (tn v3)) &&& (63 : Int32)).toInt < 0 ∨ 41 < ((xs (tn v3)) &&& (63 : Int32)).toInt → k_L_law_1315 b L xs Q KB v3 M)))
def lp_L_law_18 (b L : Nat) (xs : Nat → Int32) (Q : Int32 → Mm → Prop)  : Nat → Int32 → Mm → Prop
  | 0 => fun _ _ => False
  | n + 1 => fun v3 M => k_L_law_18 b L xs Q (lp_L_law_18 b L xs Q n)  v3 M
def wp_law (b L : Nat) (xs : Nat → Int32) (M : Mm) (Q : Int32 → Mm → Prop) : Prop :=
  ∃ n : Nat, lp_L_law_18 b L xs Q n (0 : Int32) M
