
def ixA : List Nat := [0, 116, 100, 101, 1, 9, 2, 3, 4, 5, 6, 7, 8, 10, 16, 11, 12, 13, 14, 15, 17, 18, 19, 20, 21, 22, 23, 24, 28, 29, 30, 31, 32, 33, 34, 35, 25, 26, 27, 36, 102, 103, 105, 104, 106, 107, 108, 109, 110, 111, 112, 113, 114, 115, 117, 181, 182, 246, 247, 311]
def ixF (k : Nat) : Nat := if k < 60 then ixA.getD k 0 else if k < 123 then k - 23 else if k < 186 then k - 5 else if k < 249 then k - 3 else if k < 312 then k - 1 else k
def ixV : List Nat := [0, 4, 6, 7, 8, 9, 10, 11, 12, 5, 13, 15, 16, 17, 18, 19, 14, 20, 21, 22, 23, 24, 25, 26, 27, 36, 37, 38, 28, 29, 30, 31, 32, 33, 34, 35, 39, 60, 61, 62, 63, 64, 65, 66, 67, 68, 69, 70, 71, 72, 73, 74, 75, 76, 77, 78, 79, 80, 81, 82, 83, 84, 85, 86, 87, 88, 89, 90, 91, 92, 93, 94, 95, 96, 97, 98, 99, 100, 101, 102, 103, 104, 105, 106, 107, 108, 109, 110, 111, 112, 113, 114, 115, 116, 117, 118, 119, 120, 121, 122, 2, 3, 40, 41, 43, 42, 44, 45, 46, 47, 48, 49, 50, 51, 52, 53, 1, 54, 123, 124, 125, 126, 127, 128, 129, 130, 131, 132, 133, 134, 135, 136, 137, 138, 139, 140, 141, 142, 143, 144, 145, 146, 147, 148, 149, 150, 151, 152, 153, 154, 155, 156, 157, 158, 159, 160, 161, 162, 163, 164, 165, 166, 167, 168, 169, 170, 171, 172, 173, 174, 175, 176, 177, 178, 179, 180, 181, 182, 183, 184, 185, 55, 56, 186, 187, 188, 189, 190, 191, 192, 193, 194, 195, 196, 197, 198, 199, 200, 201, 202, 203, 204, 205, 206, 207, 208, 209, 210, 211, 212, 213, 214, 215, 216, 217, 218, 219, 220, 221, 222, 223, 224, 225, 226, 227, 228, 229, 230, 231, 232, 233, 234, 235, 236, 237, 238, 239, 240, 241, 242, 243, 244, 245, 246, 247, 248, 57, 58, 249, 250, 251, 252, 253, 254, 255, 256, 257, 258, 259, 260, 261, 262, 263, 264, 265, 266, 267, 268, 269, 270, 271, 272, 273, 274, 275, 276, 277, 278, 279, 280, 281, 282, 283, 284, 285, 286, 287, 288, 289, 290, 291, 292, 293, 294, 295, 296, 297, 298, 299, 300, 301, 302, 303, 304, 305, 306, 307, 308, 309, 310, 311, 59, 312, 313, 314, 315, 316, 317, 318, 319, 320, 321, 322, 323, 324, 325, 326, 327, 328, 329, 330, 331, 332, 333, 334, 335, 336, 337, 338, 339]
theorem ixF_inv : ∀ i, i < 340 → ixV.getD (ixF i) 999 = i := by decide +kernel
theorem ixF_lt : ∀ i, i < 340 → ixF i < 340 := by decide +kernel
theorem ixF_inj {i j : Nat} (hi : i < 340) (hj : j < 340) (h : ixF i = ixF j) : i = j := by
  rw [← ixF_inv i hi, ← ixF_inv j hj, h]
def cfL (C : Gd) (z : Nat) (cf : Nat → va_E) : Nat → va_E := cf_M C z 313 312 (va_up (cf_B C z (va_up cf 0 (.inr (9, [.null, .null, .null, .null, .null, .null, .null, .null, .null, .null, .null, .null, .int 0, .int 0, .long 0, .long 0])))) 312 (.inr (10, [.int 0, .null, .int 0, .long 0, .long 0, .null, .null, .null, .null, .null, .int 0, .int 0, .null, .null, .null, .null, .null, .null, .int 0, .int 0, .int 0, .int 0, .int 0, .null, .null, .null, .int 0, .null, .int 0, .null, .null, .null, .null, .null, .null, .null, .null, .int 0, .int 0, .null, .null, .null, .int 0, .long 0])))
theorem arrV_congr {c : ClassId} {n : Nat} {f g : Nat → Value} (h : ∀ j, j < n → f j = g j) : arrV c n f = arrV c n g := by
  unfold arrV
  congr 2
  funext j
  exact h j.val j.isLt
theorem at_I {D : va_G} {q n : Nat} {c : ClassId} {f g : Nat → Int32} {H : Heap} (h : va_at D vwCl (q, .inl (c, n, .inl f)) H) (e : ∀ j, j < n → f j = g j) : va_at D vwCl (q, .inl (c, n, .inl g)) H := by
  have h : H[q]? = some (vp_cell c (n, .inl f)) := h
  show H[q]? = some (vp_cell c (n, .inl g))
  rw [h, vp_cell_i, vp_cell_i, arrV_congr (fun j hj => by rw [e j hj])]
theorem at_J {D : va_G} {q n : Nat} {c : ClassId} {f g : Nat → Int64} {H : Heap} (h : va_at D vwCl (q, .inl (c, n, .inr (.inl f))) H) (e : ∀ j, j < n → f j = g j) : va_at D vwCl (q, .inl (c, n, .inr (.inl g))) H := by
  have h : H[q]? = some (arrV c n (fun j => .long (f j))) := h
  show H[q]? = some (arrV c n (fun j => .long (g j)))
  rw [h, arrV_congr (fun j hj => by rw [e j hj])]
theorem at_Q {D : va_G} {q n : Nat} {c : ClassId} {f g : Nat → Option Nat} {H : Heap} (h : va_at D vwCl (q, .inl (c, n, .inr (.inr (.inr (.inr f))))) H) (e : ∀ j, j < n → f j = g j) : va_at D vwCl (q, .inl (c, n, .inr (.inr (.inr (.inr g))))) H := by
  have h : H[q]? = some (vp_cell c (n, .inr (.inr (.inr (.inr f))))) := h
  show H[q]? = some (vp_cell c (n, .inr (.inr (.inr (.inr g)))))
  rw [h, vp_cell_q, vp_cell_q, arrV_congr (fun j hj => by rw [e j hj])]
def GG (C : Gd) (z : Nat) (sa : Nat → Nat) : Gs := (C.1, C.2, fun k => z + ixF k, sa)
set_option maxRecDepth 100000 in
theorem wd_0 (C : Gd) (z : Nat) (sa : Nat → Nat) (cf : Nat → va_E) : cfL C z cf 0 = cel (GG C z sa) M0 0 := by
  rw [cel_9 _ _ (show kd 0 = 9 by decide)]
  rfl
set_option maxRecDepth 100000 in
theorem wd_1 (C : Gd) (z : Nat) (sa : Nat → Nat) (cf : Nat → va_E) : ∃ f : Nat → Int32, cfL C z cf 116 = .inl (C.2 12, 6, .inl f) ∧ ∀ j, j < 6 → f j = gi M0 1 j := ⟨_, rfl, by decide +kernel⟩
set_option maxRecDepth 100000 in
theorem wd_2 (C : Gd) (z : Nat) (sa : Nat → Nat) (cf : Nat → va_E) : ∃ f : Nat → Option Nat, cfL C z cf 100 = .inl (C.2 16, 3, .inr (.inr (.inr (.inr f)))) ∧ ∀ j, j < 3 → f j = some (ad (GG C z sa) (54 + 2 * j)) := ⟨_, rfl, by intro j hj; rcases (show j = 0 ∨ j = 1 ∨ j = 2 by omega) with rfl | rfl | rfl <;> rfl⟩
set_option maxRecDepth 100000 in
theorem wd_3 (C : Gd) (z : Nat) (sa : Nat → Nat) (cf : Nat → va_E) : cfL C z cf 101 = cel (GG C z sa) M0 3 := by
  rw [cel_2 _ _ (show kd 3 = 2 by decide)]
  rfl
set_option maxRecDepth 100000 in
theorem wd_4 (C : Gd) (z : Nat) (sa : Nat → Nat) (cf : Nat → va_E) : cfL C z cf 1 = cel (GG C z sa) M0 4 := by
  rw [cel_7 _ _ (show kd 4 = 7 by decide)]
  rfl
set_option maxRecDepth 100000 in
theorem wd_5 (C : Gd) (z : Nat) (sa : Nat → Nat) (cf : Nat → va_E) : ∃ f : Nat → Int32, cfL C z cf 9 = .inl (C.2 12, 6, .inl f) ∧ ∀ j, j < 6 → f j = gi M0 5 j := ⟨_, rfl, by decide +kernel⟩
set_option maxRecDepth 100000 in
theorem wd_6 (C : Gd) (z : Nat) (sa : Nat → Nat) (cf : Nat → va_E) : ∃ f : Nat → Option Nat, cfL C z cf 2 = .inl (C.2 17, 6, .inr (.inr (.inr (.inr f)))) ∧ ∀ j, j < 6 → f j = some (ad (GG C z sa) (6 + 1 + j)) := ⟨_, rfl, by intro j hj; rcases (show j = 0 ∨ j = 1 ∨ j = 2 ∨ j = 3 ∨ j = 4 ∨ j = 5 by omega) with rfl | rfl | rfl | rfl | rfl | rfl <;> rfl⟩
set_option maxRecDepth 100000 in
theorem wd_7 (C : Gd) (z : Nat) (sa : Nat → Nat) (cf : Nat → va_E) : ∃ f : Nat → Int32, cfL C z cf 3 = .inl (C.2 12, 40, .inl f) ∧ ∀ j, j < 40 → f j = gi M0 7 j := ⟨_, rfl, by intro j hj; simp [gi, M0]⟩
set_option maxRecDepth 100000 in
theorem wd_8 (C : Gd) (z : Nat) (sa : Nat → Nat) (cf : Nat → va_E) : ∃ f : Nat → Int32, cfL C z cf 4 = .inl (C.2 12, 40, .inl f) ∧ ∀ j, j < 40 → f j = gi M0 8 j := ⟨_, rfl, by intro j hj; simp [gi, M0]⟩
set_option maxRecDepth 100000 in
theorem wd_9 (C : Gd) (z : Nat) (sa : Nat → Nat) (cf : Nat → va_E) : ∃ f : Nat → Int32, cfL C z cf 5 = .inl (C.2 12, 40, .inl f) ∧ ∀ j, j < 40 → f j = gi M0 9 j := ⟨_, rfl, by intro j hj; simp [gi, M0]⟩
set_option maxRecDepth 100000 in
theorem wd_10 (C : Gd) (z : Nat) (sa : Nat → Nat) (cf : Nat → va_E) : ∃ f : Nat → Int32, cfL C z cf 6 = .inl (C.2 12, 40, .inl f) ∧ ∀ j, j < 40 → f j = gi M0 10 j := ⟨_, rfl, by intro j hj; simp [gi, M0]⟩
set_option maxRecDepth 100000 in
theorem wd_11 (C : Gd) (z : Nat) (sa : Nat → Nat) (cf : Nat → va_E) : ∃ f : Nat → Int32, cfL C z cf 7 = .inl (C.2 12, 40, .inl f) ∧ ∀ j, j < 40 → f j = gi M0 11 j := ⟨_, rfl, by intro j hj; simp [gi, M0]⟩
set_option maxRecDepth 100000 in
theorem wd_12 (C : Gd) (z : Nat) (sa : Nat → Nat) (cf : Nat → va_E) : ∃ f : Nat → Int32, cfL C z cf 8 = .inl (C.2 12, 40, .inl f) ∧ ∀ j, j < 40 → f j = gi M0 12 j := ⟨_, rfl, by intro j hj; simp [gi, M0]⟩
set_option maxRecDepth 100000 in
theorem wd_13 (C : Gd) (z : Nat) (sa : Nat → Nat) (cf : Nat → va_E) : cfL C z cf 10 = cel (GG C z sa) M0 13 := by
  rw [cel_7 _ _ (show kd 13 = 7 by decide)]
  rfl
set_option maxRecDepth 100000 in
theorem wd_14 (C : Gd) (z : Nat) (sa : Nat → Nat) (cf : Nat → va_E) : ∃ f : Nat → Int32, cfL C z cf 16 = .inl (C.2 12, 4, .inl f) ∧ ∀ j, j < 4 → f j = gi M0 14 j := ⟨_, rfl, by decide +kernel⟩
set_option maxRecDepth 100000 in
theorem wd_15 (C : Gd) (z : Nat) (sa : Nat → Nat) (cf : Nat → va_E) : ∃ f : Nat → Option Nat, cfL C z cf 11 = .inl (C.2 17, 4, .inr (.inr (.inr (.inr f)))) ∧ ∀ j, j < 4 → f j = some (ad (GG C z sa) (15 + 1 + j)) := ⟨_, rfl, by intro j hj; rcases (show j = 0 ∨ j = 1 ∨ j = 2 ∨ j = 3 by omega) with rfl | rfl | rfl | rfl <;> rfl⟩
set_option maxRecDepth 100000 in
theorem wd_16 (C : Gd) (z : Nat) (sa : Nat → Nat) (cf : Nat → va_E) : ∃ f : Nat → Int32, cfL C z cf 12 = .inl (C.2 12, 60, .inl f) ∧ ∀ j, j < 60 → f j = gi M0 16 j := ⟨_, rfl, by intro j hj; simp [gi, M0]⟩
set_option maxRecDepth 100000 in
theorem wd_17 (C : Gd) (z : Nat) (sa : Nat → Nat) (cf : Nat → va_E) : ∃ f : Nat → Int32, cfL C z cf 13 = .inl (C.2 12, 60, .inl f) ∧ ∀ j, j < 60 → f j = gi M0 17 j := ⟨_, rfl, by intro j hj; simp [gi, M0]⟩
set_option maxRecDepth 100000 in
theorem wd_18 (C : Gd) (z : Nat) (sa : Nat → Nat) (cf : Nat → va_E) : ∃ f : Nat → Int32, cfL C z cf 14 = .inl (C.2 12, 60, .inl f) ∧ ∀ j, j < 60 → f j = gi M0 18 j := ⟨_, rfl, by intro j hj; simp [gi, M0]⟩
set_option maxRecDepth 100000 in
theorem wd_19 (C : Gd) (z : Nat) (sa : Nat → Nat) (cf : Nat → va_E) : ∃ f : Nat → Int32, cfL C z cf 15 = .inl (C.2 12, 60, .inl f) ∧ ∀ j, j < 60 → f j = gi M0 19 j := ⟨_, rfl, by intro j hj; simp [gi, M0]⟩
set_option maxRecDepth 100000 in
theorem wd_20 (C : Gd) (z : Nat) (sa : Nat → Nat) (cf : Nat → va_E) : cfL C z cf 17 = cel (GG C z sa) M0 20 := by
  rw [cel_0 _ _ (show kd 20 = 0 by decide)]
  rfl
set_option maxRecDepth 100000 in
theorem wd_21 (C : Gd) (z : Nat) (sa : Nat → Nat) (cf : Nat → va_E) : ∃ f : Nat → Int32, cfL C z cf 18 = .inl (C.2 12, 5, .inl f) ∧ ∀ j, j < 5 → f j = gi M0 21 j := ⟨_, rfl, by decide +kernel⟩
set_option maxRecDepth 100000 in
theorem wd_22 (C : Gd) (z : Nat) (sa : Nat → Nat) (cf : Nat → va_E) : ∃ f : Nat → Int32, cfL C z cf 19 = .inl (C.2 12, 5, .inl f) ∧ ∀ j, j < 5 → f j = gi M0 22 j := ⟨_, rfl, by decide +kernel⟩
set_option maxRecDepth 100000 in
theorem wd_23 (C : Gd) (z : Nat) (sa : Nat → Nat) (cf : Nat → va_E) : ∃ f : Nat → Int32, cfL C z cf 20 = .inl (C.2 12, 5, .inl f) ∧ ∀ j, j < 5 → f j = gi M0 23 j := ⟨_, rfl, by decide +kernel⟩
set_option maxRecDepth 100000 in
theorem wd_24 (C : Gd) (z : Nat) (sa : Nat → Nat) (cf : Nat → va_E) : ∃ f : Nat → Int32, cfL C z cf 21 = .inl (C.2 12, 5, .inl f) ∧ ∀ j, j < 5 → f j = gi M0 24 j := ⟨_, rfl, by decide +kernel⟩
set_option maxRecDepth 100000 in
theorem wd_25 (C : Gd) (z : Nat) (sa : Nat → Nat) (cf : Nat → va_E) : ∃ f : Nat → Int32, cfL C z cf 22 = .inl (C.2 12, 5, .inl f) ∧ ∀ j, j < 5 → f j = gi M0 25 j := ⟨_, rfl, by decide +kernel⟩
set_option maxRecDepth 100000 in
theorem wd_26 (C : Gd) (z : Nat) (sa : Nat → Nat) (cf : Nat → va_E) : ∃ f : Nat → Int32, cfL C z cf 23 = .inl (C.2 12, 5, .inl f) ∧ ∀ j, j < 5 → f j = gi M0 26 j := ⟨_, rfl, by decide +kernel⟩
set_option maxRecDepth 100000 in
theorem wd_27 (C : Gd) (z : Nat) (sa : Nat → Nat) (cf : Nat → va_E) : ∃ f : Nat → Int32, cfL C z cf 24 = .inl (C.2 12, 32, .inl f) ∧ ∀ j, j < 32 → f j = gi M0 27 j := ⟨_, rfl, by intro j hj; simp [gi, M0]⟩
set_option maxRecDepth 100000 in
theorem wd_28 (C : Gd) (z : Nat) (sa : Nat → Nat) (cf : Nat → va_E) : cfL C z cf 28 = cel (GG C z sa) M0 28 := by
  rw [cel_0 _ _ (show kd 28 = 0 by decide)]
  rfl
set_option maxRecDepth 100000 in
theorem wd_29 (C : Gd) (z : Nat) (sa : Nat → Nat) (cf : Nat → va_E) : ∃ f : Nat → Int32, cfL C z cf 29 = .inl (C.2 12, 5, .inl f) ∧ ∀ j, j < 5 → f j = gi M0 29 j := ⟨_, rfl, by decide +kernel⟩
set_option maxRecDepth 100000 in
theorem wd_30 (C : Gd) (z : Nat) (sa : Nat → Nat) (cf : Nat → va_E) : ∃ f : Nat → Int32, cfL C z cf 30 = .inl (C.2 12, 5, .inl f) ∧ ∀ j, j < 5 → f j = gi M0 30 j := ⟨_, rfl, by decide +kernel⟩
set_option maxRecDepth 100000 in
theorem wd_31 (C : Gd) (z : Nat) (sa : Nat → Nat) (cf : Nat → va_E) : ∃ f : Nat → Int32, cfL C z cf 31 = .inl (C.2 12, 5, .inl f) ∧ ∀ j, j < 5 → f j = gi M0 31 j := ⟨_, rfl, by decide +kernel⟩
set_option maxRecDepth 100000 in
theorem wd_32 (C : Gd) (z : Nat) (sa : Nat → Nat) (cf : Nat → va_E) : ∃ f : Nat → Int32, cfL C z cf 32 = .inl (C.2 12, 5, .inl f) ∧ ∀ j, j < 5 → f j = gi M0 32 j := ⟨_, rfl, by decide +kernel⟩
set_option maxRecDepth 100000 in
theorem wd_33 (C : Gd) (z : Nat) (sa : Nat → Nat) (cf : Nat → va_E) : ∃ f : Nat → Int32, cfL C z cf 33 = .inl (C.2 12, 5, .inl f) ∧ ∀ j, j < 5 → f j = gi M0 33 j := ⟨_, rfl, by decide +kernel⟩
set_option maxRecDepth 100000 in
theorem wd_34 (C : Gd) (z : Nat) (sa : Nat → Nat) (cf : Nat → va_E) : ∃ f : Nat → Int32, cfL C z cf 34 = .inl (C.2 12, 5, .inl f) ∧ ∀ j, j < 5 → f j = gi M0 34 j := ⟨_, rfl, by decide +kernel⟩
set_option maxRecDepth 100000 in
theorem wd_35 (C : Gd) (z : Nat) (sa : Nat → Nat) (cf : Nat → va_E) : ∃ f : Nat → Int32, cfL C z cf 35 = .inl (C.2 12, 32, .inl f) ∧ ∀ j, j < 32 → f j = gi M0 35 j := ⟨_, rfl, by intro j hj; simp [gi, M0]⟩
set_option maxRecDepth 100000 in
theorem wd_36 (C : Gd) (z : Nat) (sa : Nat → Nat) (cf : Nat → va_E) : cfL C z cf 25 = cel (GG C z sa) M0 36 := by
  rw [cel_6 _ _ (show kd 36 = 6 by decide)]
  rfl
set_option maxRecDepth 100000 in
theorem wd_37 (C : Gd) (z : Nat) (sa : Nat → Nat) (cf : Nat → va_E) : ∃ f : Nat → Int32, cfL C z cf 26 = .inl (C.2 12, 60, .inl f) ∧ ∀ j, j < 60 → f j = gi M0 37 j := ⟨_, rfl, by intro j hj; simp [gi, M0]⟩
set_option maxRecDepth 100000 in
theorem wd_38 (C : Gd) (z : Nat) (sa : Nat → Nat) (cf : Nat → va_E) : cfL C z cf 27 = cel (GG C z sa) M0 38 := by
  rw [cel_6 _ _ (show kd 38 = 6 by decide)]
  rfl
set_option maxRecDepth 100000 in
theorem wd_39 (C : Gd) (z : Nat) (sa : Nat → Nat) (cf : Nat → va_E) : ∃ f : Nat → Int32, cfL C z cf 36 = .inl (C.2 12, 60, .inl f) ∧ ∀ j, j < 60 → f j = gi M0 39 j := ⟨_, rfl, by intro j hj; simp [gi, M0]⟩
set_option maxRecDepth 100000 in
theorem wd_40 (C : Gd) (z : Nat) (sa : Nat → Nat) (cf : Nat → va_E) : cfL C z cf 102 = cel (GG C z sa) M0 40 := by
  rw [cel_5 _ _ (show kd 40 = 5 by decide)]
  rfl
set_option maxRecDepth 100000 in
theorem wd_41 (C : Gd) (z : Nat) (sa : Nat → Nat) (cf : Nat → va_E) : ∃ f : Nat → Int32, cfL C z cf 103 = .inl (C.2 12, 3, .inl f) ∧ ∀ j, j < 3 → f j = gi M0 41 j := ⟨_, rfl, by decide +kernel⟩
set_option maxRecDepth 100000 in
theorem wd_42 (C : Gd) (z : Nat) (sa : Nat → Nat) (cf : Nat → va_E) : ∃ f : Nat → Int32, cfL C z cf 105 = .inl (C.2 12, 3, .inl f) ∧ ∀ j, j < 3 → f j = gi M0 42 j := ⟨_, rfl, by decide +kernel⟩
set_option maxRecDepth 100000 in
theorem wd_43 (C : Gd) (z : Nat) (sa : Nat → Nat) (cf : Nat → va_E) : ∃ f : Nat → Option Nat, cfL C z cf 104 = .inl (C.2 15, 4, .inr (.inr (.inr (.inr f)))) ∧ ∀ j, j < 4 → f j = some (ad (GG C z sa) (43 + 1 + j)) := ⟨_, rfl, by intro j hj; rcases (show j = 0 ∨ j = 1 ∨ j = 2 ∨ j = 3 by omega) with rfl | rfl | rfl | rfl <;> rfl⟩
set_option maxRecDepth 100000 in
theorem wd_44 (C : Gd) (z : Nat) (sa : Nat → Nat) (cf : Nat → va_E) : cfL C z cf 106 = cel (GG C z sa) M0 44 := by
  rw [cel_2 _ _ (show kd 44 = 2 by decide)]
  rfl
set_option maxRecDepth 100000 in
theorem wd_45 (C : Gd) (z : Nat) (sa : Nat → Nat) (cf : Nat → va_E) : cfL C z cf 107 = cel (GG C z sa) M0 45 := by
  rw [cel_2 _ _ (show kd 45 = 2 by decide)]
  rfl
set_option maxRecDepth 100000 in
theorem wd_46 (C : Gd) (z : Nat) (sa : Nat → Nat) (cf : Nat → va_E) : cfL C z cf 108 = cel (GG C z sa) M0 46 := by
  rw [cel_2 _ _ (show kd 46 = 2 by decide)]
  rfl
set_option maxRecDepth 100000 in
theorem wd_47 (C : Gd) (z : Nat) (sa : Nat → Nat) (cf : Nat → va_E) : cfL C z cf 109 = cel (GG C z sa) M0 47 := by
  rw [cel_2 _ _ (show kd 47 = 2 by decide)]
  rfl
set_option maxRecDepth 100000 in
theorem wd_48 (C : Gd) (z : Nat) (sa : Nat → Nat) (cf : Nat → va_E) : cfL C z cf 110 = cel (GG C z sa) M0 48 := by
  rw [cel_1 _ _ (show kd 48 = 1 by decide)]
  rfl
set_option maxRecDepth 100000 in
theorem wd_49 (C : Gd) (z : Nat) (sa : Nat → Nat) (cf : Nat → va_E) : ∃ f : Nat → Int64, cfL C z cf 111 = .inl (C.2 13, 32, .inr (.inl f)) ∧ ∀ j, j < 32 → f j = gl M0 49 j := ⟨_, rfl, by intro j hj; simp [gl, M0]⟩
set_option maxRecDepth 100000 in
theorem wd_50 (C : Gd) (z : Nat) (sa : Nat → Nat) (cf : Nat → va_E) : ∃ f : Nat → Int32, cfL C z cf 112 = .inl (C.2 12, 32, .inl f) ∧ ∀ j, j < 32 → f j = gi M0 50 j := ⟨_, rfl, by intro j hj; simp [gi, M0]⟩
set_option maxRecDepth 100000 in
theorem wd_51 (C : Gd) (z : Nat) (sa : Nat → Nat) (cf : Nat → va_E) : cfL C z cf 113 = cel (GG C z sa) M0 51 := by
  rw [cel_4 _ _ (show kd 51 = 4 by decide)]
  rfl
set_option maxRecDepth 100000 in
theorem wd_52 (C : Gd) (z : Nat) (sa : Nat → Nat) (cf : Nat → va_E) : ∃ f : Nat → Int32, cfL C z cf 114 = .inl (C.2 12, 5, .inl f) ∧ ∀ j, j < 5 → f j = gi M0 52 j := ⟨_, rfl, by decide +kernel⟩
set_option maxRecDepth 100000 in
theorem wd_53 (C : Gd) (z : Nat) (sa : Nat → Nat) (cf : Nat → va_E) : ∃ f : Nat → Int64, cfL C z cf 115 = .inl (C.2 13, 32, .inr (.inl f)) ∧ ∀ j, j < 32 → f j = gl M0 53 j := ⟨_, rfl, by intro j hj; simp [gl, M0]⟩
set_option maxRecDepth 100000 in
theorem wd_54 (C : Gd) (z : Nat) (sa : Nat → Nat) (cf : Nat → va_E) : cfL C z cf 117 = cel (GG C z sa) M0 54 := by
  rw [cel_3 _ _ (show kd 54 = 3 by decide)]
  rfl
set_option maxRecDepth 100000 in
theorem wd_55 (C : Gd) (z : Nat) (sa : Nat → Nat) (cf : Nat → va_E) : ∃ f : Nat → Int32, cfL C z cf 181 = .inl (C.2 12, 5, .inl f) ∧ ∀ j, j < 5 → f j = gi M0 55 j := ⟨_, rfl, by decide +kernel⟩
set_option maxRecDepth 100000 in
theorem wd_56 (C : Gd) (z : Nat) (sa : Nat → Nat) (cf : Nat → va_E) : cfL C z cf 182 = cel (GG C z sa) M0 56 := by
  rw [cel_3 _ _ (show kd 56 = 3 by decide)]
  rfl
set_option maxRecDepth 100000 in
theorem wd_57 (C : Gd) (z : Nat) (sa : Nat → Nat) (cf : Nat → va_E) : ∃ f : Nat → Int32, cfL C z cf 246 = .inl (C.2 12, 5, .inl f) ∧ ∀ j, j < 5 → f j = gi M0 57 j := ⟨_, rfl, by decide +kernel⟩
set_option maxRecDepth 100000 in
theorem wd_58 (C : Gd) (z : Nat) (sa : Nat → Nat) (cf : Nat → va_E) : cfL C z cf 247 = cel (GG C z sa) M0 58 := by
  rw [cel_3 _ _ (show kd 58 = 3 by decide)]
  rfl
set_option maxRecDepth 100000 in
theorem wd_59 (C : Gd) (z : Nat) (sa : Nat → Nat) (cf : Nat → va_E) : ∃ f : Nat → Int32, cfL C z cf 311 = .inl (C.2 12, 5, .inl f) ∧ ∀ j, j < 5 → f j = gi M0 59 j := ⟨_, rfl, by decide +kernel⟩
set_option maxRecDepth 100000 in
theorem wd_60 (C : Gd) (z : Nat) (sa : Nat → Nat) (cf : Nat → va_E) : cfL C z cf 37 = cel (GG C z sa) M0 60 := by
  rw [cel_8 _ _ (show kd 60 = 8 by decide)]
  rfl
set_option maxRecDepth 100000 in
theorem wd_61 (C : Gd) (z : Nat) (sa : Nat → Nat) (cf : Nat → va_E) : cfL C z cf 38 = cel (GG C z sa) M0 61 := by
  rw [cel_2 _ _ (show kd 61 = 2 by decide)]
  rfl
set_option maxRecDepth 100000 in
theorem wd_62 (C : Gd) (z : Nat) (sa : Nat → Nat) (cf : Nat → va_E) : ∃ f : Nat → Option Nat, cfL C z cf 39 = .inl (C.2 15, 60, .inr (.inr (.inr (.inr f)))) ∧ ∀ j, j < 60 → f j = some (ad (GG C z sa) (62 + 1 + j)) := ⟨_, rfl, by intro j hj; rw [if_pos hj]; show some _ = some (z + ixF _); congr 1; unfold ixF; (repeat first | rw [if_pos (by omega)] | rw [if_neg (by omega)]); omega⟩
set_option maxRecDepth 100000 in
theorem wd_312 (C : Gd) (z : Nat) (sa : Nat → Nat) (cf : Nat → va_E) : cfL C z cf 312 = cel (GG C z sa) M0 312 := by
  rw [cel_10 _ _ (show kd 312 = 10 by decide)]
  rfl
set_option maxRecDepth 100000 in
theorem wd_313 (C : Gd) (z : Nat) (sa : Nat → Nat) (cf : Nat → va_E) : ∃ f : Nat → Int32, cfL C z cf 313 = .inl (C.2 12, 6, .inl f) ∧ ∀ j, j < 6 → f j = gi M0 313 j := ⟨_, rfl, by decide +kernel⟩
set_option maxRecDepth 100000 in
theorem wd_314 (C : Gd) (z : Nat) (sa : Nat → Nat) (cf : Nat → va_E) : ∃ f : Nat → Int32, cfL C z cf 314 = .inl (C.2 12, 6, .inl f) ∧ ∀ j, j < 6 → f j = gi M0 314 j := ⟨_, rfl, by decide +kernel⟩
set_option maxRecDepth 100000 in
theorem wd_315 (C : Gd) (z : Nat) (sa : Nat → Nat) (cf : Nat → va_E) : ∃ f : Nat → Int32, cfL C z cf 315 = .inl (C.2 12, 240, .inl f) ∧ ∀ j, j < 240 → f j = gi M0 315 j := ⟨_, rfl, by intro j hj; simp [gi, M0]⟩
set_option maxRecDepth 100000 in
theorem wd_316 (C : Gd) (z : Nat) (sa : Nat → Nat) (cf : Nat → va_E) : ∃ f : Nat → Int32, cfL C z cf 316 = .inl (C.2 12, 40, .inl f) ∧ ∀ j, j < 40 → f j = gi M0 316 j := ⟨_, rfl, by intro j hj; simp [gi, M0]⟩
set_option maxRecDepth 100000 in
theorem wd_317 (C : Gd) (z : Nat) (sa : Nat → Nat) (cf : Nat → va_E) : ∃ f : Nat → Int32, cfL C z cf 317 = .inl (C.2 12, 4, .inl f) ∧ ∀ j, j < 4 → f j = gi M0 317 j := ⟨_, rfl, by decide +kernel⟩
set_option maxRecDepth 100000 in
theorem wd_318 (C : Gd) (z : Nat) (sa : Nat → Nat) (cf : Nat → va_E) : ∃ f : Nat → Int32, cfL C z cf 318 = .inl (C.2 11, 240, .inl f) ∧ ∀ j, j < 240 → f j = gi M0 318 j := ⟨_, rfl, by intro j hj; simp [gi, M0]⟩
set_option maxRecDepth 100000 in
theorem wd_319 (C : Gd) (z : Nat) (sa : Nat → Nat) (cf : Nat → va_E) : ∃ f : Nat → Int32, cfL C z cf 319 = .inl (C.2 12, 5, .inl f) ∧ ∀ j, j < 5 → f j = gi M0 319 j := ⟨_, rfl, by decide +kernel⟩
set_option maxRecDepth 100000 in
theorem wd_320 (C : Gd) (z : Nat) (sa : Nat → Nat) (cf : Nat → va_E) : ∃ f : Nat → Int32, cfL C z cf 320 = .inl (C.2 12, 5, .inl f) ∧ ∀ j, j < 5 → f j = gi M0 320 j := ⟨_, rfl, by decide +kernel⟩
set_option maxRecDepth 100000 in
theorem wd_321 (C : Gd) (z : Nat) (sa : Nat → Nat) (cf : Nat → va_E) : ∃ f : Nat → Int32, cfL C z cf 321 = .inl (C.2 12, 5, .inl f) ∧ ∀ j, j < 5 → f j = gi M0 321 j := ⟨_, rfl, by decide +kernel⟩
set_option maxRecDepth 100000 in
theorem wd_322 (C : Gd) (z : Nat) (sa : Nat → Nat) (cf : Nat → va_E) : ∃ f : Nat → Int32, cfL C z cf 322 = .inl (C.2 12, 5, .inl f) ∧ ∀ j, j < 5 → f j = gi M0 322 j := ⟨_, rfl, by decide +kernel⟩
set_option maxRecDepth 100000 in
theorem wd_323 (C : Gd) (z : Nat) (sa : Nat → Nat) (cf : Nat → va_E) : ∃ f : Nat → Int32, cfL C z cf 323 = .inl (C.2 12, 5, .inl f) ∧ ∀ j, j < 5 → f j = gi M0 323 j := ⟨_, rfl, by decide +kernel⟩
set_option maxRecDepth 100000 in
theorem wd_324 (C : Gd) (z : Nat) (sa : Nat → Nat) (cf : Nat → va_E) : ∃ f : Nat → Int32, cfL C z cf 324 = .inl (C.2 12, 5, .inl f) ∧ ∀ j, j < 5 → f j = gi M0 324 j := ⟨_, rfl, by decide +kernel⟩
set_option maxRecDepth 100000 in
theorem wd_325 (C : Gd) (z : Nat) (sa : Nat → Nat) (cf : Nat → va_E) : ∃ f : Nat → Int32, cfL C z cf 325 = .inl (C.2 12, 25, .inl f) ∧ ∀ j, j < 25 → f j = gi M0 325 j := ⟨_, rfl, by intro j hj; simp [gi, M0]⟩
set_option maxRecDepth 100000 in
theorem wd_326 (C : Gd) (z : Nat) (sa : Nat → Nat) (cf : Nat → va_E) : ∃ f : Nat → Int32, cfL C z cf 326 = .inl (C.2 12, 5, .inl f) ∧ ∀ j, j < 5 → f j = gi M0 326 j := ⟨_, rfl, by decide +kernel⟩
set_option maxRecDepth 100000 in
theorem wd_327 (C : Gd) (z : Nat) (sa : Nat → Nat) (cf : Nat → va_E) : ∃ f : Nat → Int32, cfL C z cf 327 = .inl (C.2 12, 186, .inl f) ∧ ∀ j, j < 186 → f j = gi M0 327 j := ⟨_, rfl, by intro j hj; simp [gi, M0]⟩
set_option maxRecDepth 100000 in
theorem wd_328 (C : Gd) (z : Nat) (sa : Nat → Nat) (cf : Nat → va_E) : ∃ f : Nat → Int32, cfL C z cf 328 = .inl (C.2 12, 5, .inl f) ∧ ∀ j, j < 5 → f j = gi M0 328 j := ⟨_, rfl, by decide +kernel⟩
set_option maxRecDepth 100000 in
theorem wd_329 (C : Gd) (z : Nat) (sa : Nat → Nat) (cf : Nat → va_E) : ∃ f : Nat → Int32, cfL C z cf 329 = .inl (C.2 12, 1860, .inl f) ∧ ∀ j, j < 1860 → f j = gi M0 329 j := ⟨_, rfl, by intro j hj; simp [gi, M0]⟩
set_option maxRecDepth 100000 in
theorem wd_330 (C : Gd) (z : Nat) (sa : Nat → Nat) (cf : Nat → va_E) : ∃ f : Nat → Int32, cfL C z cf 330 = .inl (C.2 14, 3, .inl f) ∧ ∀ j, j < 3 → f j = gi M0 330 j := ⟨_, rfl, by decide +kernel⟩
set_option maxRecDepth 100000 in
theorem wd_331 (C : Gd) (z : Nat) (sa : Nat → Nat) (cf : Nat → va_E) : ∃ f : Nat → Int32, cfL C z cf 331 = .inl (C.2 12, 3, .inl f) ∧ ∀ j, j < 3 → f j = gi M0 331 j := ⟨_, rfl, by decide +kernel⟩
set_option maxRecDepth 100000 in
theorem wd_332 (C : Gd) (z : Nat) (sa : Nat → Nat) (cf : Nat → va_E) : ∃ f : Nat → Int32, cfL C z cf 332 = .inl (C.2 12, 93, .inl f) ∧ ∀ j, j < 93 → f j = gi M0 332 j := ⟨_, rfl, by intro j hj; simp [gi, M0]⟩
set_option maxRecDepth 100000 in
theorem wd_333 (C : Gd) (z : Nat) (sa : Nat → Nat) (cf : Nat → va_E) : ∃ f : Nat → Int32, cfL C z cf 333 = .inl (C.2 12, 15, .inl f) ∧ ∀ j, j < 15 → f j = gi M0 333 j := ⟨_, rfl, by intro j hj; simp [gi, M0]⟩
set_option maxRecDepth 100000 in
theorem wd_334 (C : Gd) (z : Nat) (sa : Nat → Nat) (cf : Nat → va_E) : ∃ f : Nat → Int32, cfL C z cf 334 = .inl (C.2 12, 5580, .inl f) ∧ ∀ j, j < 5580 → f j = gi M0 334 j := ⟨_, rfl, by intro j hj; simp [gi, M0]⟩
set_option maxRecDepth 100000 in
theorem wd_335 (C : Gd) (z : Nat) (sa : Nat → Nat) (cf : Nat → va_E) : ∃ f : Nat → Int32, cfL C z cf 335 = .inl (C.2 12, 4, .inl f) ∧ ∀ j, j < 4 → f j = gi M0 335 j := ⟨_, rfl, by decide +kernel⟩
set_option maxRecDepth 100000 in
theorem wd_336 (C : Gd) (z : Nat) (sa : Nat → Nat) (cf : Nat → va_E) : ∃ f : Nat → Int32, cfL C z cf 336 = .inl (C.2 12, 4, .inl f) ∧ ∀ j, j < 4 → f j = gi M0 336 j := ⟨_, rfl, by decide +kernel⟩
set_option maxRecDepth 100000 in
theorem wd_337 (C : Gd) (z : Nat) (sa : Nat → Nat) (cf : Nat → va_E) : ∃ f : Nat → Int32, cfL C z cf 337 = .inl (C.2 12, 20, .inl f) ∧ ∀ j, j < 20 → f j = gi M0 337 j := ⟨_, rfl, by intro j hj; simp [gi, M0]⟩
set_option maxRecDepth 100000 in
theorem wd_338 (C : Gd) (z : Nat) (sa : Nat → Nat) (cf : Nat → va_E) : ∃ f : Nat → Int32, cfL C z cf 338 = .inl (C.2 12, 20, .inl f) ∧ ∀ j, j < 20 → f j = gi M0 338 j := ⟨_, rfl, by intro j hj; simp [gi, M0]⟩
set_option maxRecDepth 100000 in
theorem wd_339 (C : Gd) (z : Nat) (sa : Nat → Nat) (cf : Nat → va_E) : ∃ f : Nat → Int32, cfL C z cf 339 = .inl (C.2 12, 5, .inl f) ∧ ∀ j, j < 5 → f j = gi M0 339 j := ⟨_, rfl, by decide +kernel⟩
set_option maxRecDepth 100000 in
theorem wd_123 (C : Gd) (z : Nat) (sa : Nat → Nat) (cf : Nat → va_E) : cfL C z cf 118 = cel (GG C z sa) M0 123 := by
  rw [cel_8 _ _ (show kd 123 = 8 by decide)]
  rfl
set_option maxRecDepth 100000 in
theorem wd_124 (C : Gd) (z : Nat) (sa : Nat → Nat) (cf : Nat → va_E) : cfL C z cf 119 = cel (GG C z sa) M0 124 := by
  rw [cel_2 _ _ (show kd 124 = 2 by decide)]
  rfl
set_option maxRecDepth 100000 in
theorem wd_125 (C : Gd) (z : Nat) (sa : Nat → Nat) (cf : Nat → va_E) : ∃ f : Nat → Option Nat, cfL C z cf 120 = .inl (C.2 15, 60, .inr (.inr (.inr (.inr f)))) ∧ ∀ j, j < 60 → f j = some (ad (GG C z sa) (125 + 1 + j)) := ⟨_, rfl, by intro j hj; rw [if_pos hj]; show some _ = some (z + ixF _); congr 1; unfold ixF; (repeat first | rw [if_pos (by omega)] | rw [if_neg (by omega)]); omega⟩
set_option maxRecDepth 100000 in
theorem wd_186 (C : Gd) (z : Nat) (sa : Nat → Nat) (cf : Nat → va_E) : cfL C z cf 183 = cel (GG C z sa) M0 186 := by
  rw [cel_8 _ _ (show kd 186 = 8 by decide)]
  rfl
set_option maxRecDepth 100000 in
theorem wd_187 (C : Gd) (z : Nat) (sa : Nat → Nat) (cf : Nat → va_E) : cfL C z cf 184 = cel (GG C z sa) M0 187 := by
  rw [cel_2 _ _ (show kd 187 = 2 by decide)]
  rfl
set_option maxRecDepth 100000 in
theorem wd_188 (C : Gd) (z : Nat) (sa : Nat → Nat) (cf : Nat → va_E) : ∃ f : Nat → Option Nat, cfL C z cf 185 = .inl (C.2 15, 60, .inr (.inr (.inr (.inr f)))) ∧ ∀ j, j < 60 → f j = some (ad (GG C z sa) (188 + 1 + j)) := ⟨_, rfl, by intro j hj; rw [if_pos hj]; show some _ = some (z + ixF _); congr 1; unfold ixF; (repeat first | rw [if_pos (by omega)] | rw [if_neg (by omega)]); omega⟩
set_option maxRecDepth 100000 in
theorem wd_249 (C : Gd) (z : Nat) (sa : Nat → Nat) (cf : Nat → va_E) : cfL C z cf 248 = cel (GG C z sa) M0 249 := by
  rw [cel_8 _ _ (show kd 249 = 8 by decide)]
  rfl
set_option maxRecDepth 100000 in
theorem wd_250 (C : Gd) (z : Nat) (sa : Nat → Nat) (cf : Nat → va_E) : cfL C z cf 249 = cel (GG C z sa) M0 250 := by
  rw [cel_2 _ _ (show kd 250 = 2 by decide)]
  rfl
set_option maxRecDepth 100000 in
theorem wd_251 (C : Gd) (z : Nat) (sa : Nat → Nat) (cf : Nat → va_E) : ∃ f : Nat → Option Nat, cfL C z cf 250 = .inl (C.2 15, 60, .inr (.inr (.inr (.inr f)))) ∧ ∀ j, j < 60 → f j = some (ad (GG C z sa) (251 + 1 + j)) := ⟨_, rfl, by intro j hj; rw [if_pos hj]; show some _ = some (z + ixF _); congr 1; unfold ixF; (repeat first | rw [if_pos (by omega)] | rw [if_neg (by omega)]); omega⟩
