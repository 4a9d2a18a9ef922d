set_option maxRecDepth 100000 in
theorem wf_63 (C : Gd) (z : Nat) (cf : Nat → va_E) {d : Nat} (h : d < 60) : cfL C z cf (40 + d) = fl0 := by
  match d, h with
  | 0, _ => rfl
  | 1, _ => rfl
  | 2, _ => rfl
  | 3, _ => rfl
  | 4, _ => rfl
  | 5, _ => rfl
  | 6, _ => rfl
  | 7, _ => rfl
  | 8, _ => rfl
  | 9, _ => rfl
  | 10, _ => rfl
  | 11, _ => rfl
  | 12, _ => rfl
  | 13, _ => rfl
  | 14, _ => rfl
  | 15, _ => rfl
  | 16, _ => rfl
  | 17, _ => rfl
  | 18, _ => rfl
  | 19, _ => rfl
  | 20, _ => rfl
  | 21, _ => rfl
  | 22, _ => rfl
  | 23, _ => rfl
  | 24, _ => rfl
  | 25, _ => rfl
  | 26, _ => rfl
  | 27, _ => rfl
  | 28, _ => rfl
  | 29, _ => rfl
  | 30, _ => rfl
  | 31, _ => rfl
  | 32, _ => rfl
  | 33, _ => rfl
  | 34, _ => rfl
  | 35, _ => rfl
  | 36, _ => rfl
  | 37, _ => rfl
  | 38, _ => rfl
  | 39, _ => rfl
  | 40, _ => rfl
  | 41, _ => rfl
  | 42, _ => rfl
  | 43, _ => rfl
  | 44, _ => rfl
  | 45, _ => rfl
  | 46, _ => rfl
  | 47, _ => rfl
  | 48, _ => rfl
  | 49, _ => rfl
  | 50, _ => rfl
  | 51, _ => rfl
  | 52, _ => rfl
  | 53, _ => rfl
  | 54, _ => rfl
  | 55, _ => rfl
  | 56, _ => rfl
  | 57, _ => rfl
  | 58, _ => rfl
  | 59, _ => rfl
  | n + 60, h => omega
set_option maxRecDepth 100000 in
theorem wf_126 (C : Gd) (z : Nat) (cf : Nat → va_E) {d : Nat} (h : d < 60) : cfL C z cf (121 + d) = fl0 := by
  match d, h with
  | 0, _ => rfl
  | 1, _ => rfl
  | 2, _ => rfl
  | 3, _ => rfl
  | 4, _ => rfl
  | 5, _ => rfl
  | 6, _ => rfl
  | 7, _ => rfl
  | 8, _ => rfl
  | 9, _ => rfl
  | 10, _ => rfl
  | 11, _ => rfl
  | 12, _ => rfl
  | 13, _ => rfl
  | 14, _ => rfl
  | 15, _ => rfl
  | 16, _ => rfl
  | 17, _ => rfl
  | 18, _ => rfl
  | 19, _ => rfl
  | 20, _ => rfl
  | 21, _ => rfl
  | 22, _ => rfl
  | 23, _ => rfl
  | 24, _ => rfl
  | 25, _ => rfl
  | 26, _ => rfl
  | 27, _ => rfl
  | 28, _ => rfl
  | 29, _ => rfl
  | 30, _ => rfl
  | 31, _ => rfl
  | 32, _ => rfl
  | 33, _ => rfl
  | 34, _ => rfl
  | 35, _ => rfl
  | 36, _ => rfl
  | 37, _ => rfl
  | 38, _ => rfl
  | 39, _ => rfl
  | 40, _ => rfl
  | 41, _ => rfl
  | 42, _ => rfl
  | 43, _ => rfl
  | 44, _ => rfl
  | 45, _ => rfl
  | 46, _ => rfl
  | 47, _ => rfl
  | 48, _ => rfl
  | 49, _ => rfl
  | 50, _ => rfl
  | 51, _ => rfl
  | 52, _ => rfl
  | 53, _ => rfl
  | 54, _ => rfl
  | 55, _ => rfl
  | 56, _ => rfl
  | 57, _ => rfl
  | 58, _ => rfl
  | 59, _ => rfl
  | n + 60, h => omega
set_option maxRecDepth 100000 in
theorem wf_189 (C : Gd) (z : Nat) (cf : Nat → va_E) {d : Nat} (h : d < 60) : cfL C z cf (186 + d) = fl0 := by
  match d, h with
  | 0, _ => rfl
  | 1, _ => rfl
  | 2, _ => rfl
  | 3, _ => rfl
  | 4, _ => rfl
  | 5, _ => rfl
  | 6, _ => rfl
  | 7, _ => rfl
  | 8, _ => rfl
  | 9, _ => rfl
  | 10, _ => rfl
  | 11, _ => rfl
  | 12, _ => rfl
  | 13, _ => rfl
  | 14, _ => rfl
  | 15, _ => rfl
  | 16, _ => rfl
  | 17, _ => rfl
  | 18, _ => rfl
  | 19, _ => rfl
  | 20, _ => rfl
  | 21, _ => rfl
  | 22, _ => rfl
  | 23, _ => rfl
  | 24, _ => rfl
  | 25, _ => rfl
  | 26, _ => rfl
  | 27, _ => rfl
  | 28, _ => rfl
  | 29, _ => rfl
  | 30, _ => rfl
  | 31, _ => rfl
  | 32, _ => rfl
  | 33, _ => rfl
  | 34, _ => rfl
  | 35, _ => rfl
  | 36, _ => rfl
  | 37, _ => rfl
  | 38, _ => rfl
  | 39, _ => rfl
  | 40, _ => rfl
  | 41, _ => rfl
  | 42, _ => rfl
  | 43, _ => rfl
  | 44, _ => rfl
  | 45, _ => rfl
  | 46, _ => rfl
  | 47, _ => rfl
  | 48, _ => rfl
  | 49, _ => rfl
  | 50, _ => rfl
  | 51, _ => rfl
  | 52, _ => rfl
  | 53, _ => rfl
  | 54, _ => rfl
  | 55, _ => rfl
  | 56, _ => rfl
  | 57, _ => rfl
  | 58, _ => rfl
  | 59, _ => rfl
  | n + 60, h => omega
set_option maxRecDepth 100000 in
theorem wf_252 (C : Gd) (z : Nat) (cf : Nat → va_E) {d : Nat} (h : d < 60) : cfL C z cf (251 + d) = fl0 := by
  match d, h with
  | 0, _ => rfl
  | 1, _ => rfl
  | 2, _ => rfl
  | 3, _ => rfl
  | 4, _ => rfl
  | 5, _ => rfl
  | 6, _ => rfl
  | 7, _ => rfl
  | 8, _ => rfl
  | 9, _ => rfl
  | 10, _ => rfl
  | 11, _ => rfl
  | 12, _ => rfl
  | 13, _ => rfl
  | 14, _ => rfl
  | 15, _ => rfl
  | 16, _ => rfl
  | 17, _ => rfl
  | 18, _ => rfl
  | 19, _ => rfl
  | 20, _ => rfl
  | 21, _ => rfl
  | 22, _ => rfl
  | 23, _ => rfl
  | 24, _ => rfl
  | 25, _ => rfl
  | 26, _ => rfl
  | 27, _ => rfl
  | 28, _ => rfl
  | 29, _ => rfl
  | 30, _ => rfl
  | 31, _ => rfl
  | 32, _ => rfl
  | 33, _ => rfl
  | 34, _ => rfl
  | 35, _ => rfl
  | 36, _ => rfl
  | 37, _ => rfl
  | 38, _ => rfl
  | 39, _ => rfl
  | 40, _ => rfl
  | 41, _ => rfl
  | 42, _ => rfl
  | 43, _ => rfl
  | 44, _ => rfl
  | 45, _ => rfl
  | 46, _ => rfl
  | 47, _ => rfl
  | 48, _ => rfl
  | 49, _ => rfl
  | 50, _ => rfl
  | 51, _ => rfl
  | 52, _ => rfl
  | 53, _ => rfl
  | 54, _ => rfl
  | 55, _ => rfl
  | 56, _ => rfl
  | 57, _ => rfl
  | 58, _ => rfl
  | 59, _ => rfl
  | n + 60, h => omega
theorem wk_0 {C : Gd} {z : Nat} (sa : Nat → Nat) {cf : Nat → va_E} {H : Heap} (hP : va_P C.1 vwCl (sgf z 340 (cfL C z cf)) H) : va_at C.1 vwCl (z + ixF 0, cel (GG C z sa) M0 0) H := by
  have h := sgf_at hP (show 0 < 340 by omega)
  rw [wd_0 C z sa cf] at h
  exact h
theorem wk_1 {C : Gd} {z : Nat} (sa : Nat → Nat) {cf : Nat → va_E} {H : Heap} (hP : va_P C.1 vwCl (sgf z 340 (cfL C z cf)) H) : va_at C.1 vwCl (z + ixF 1, cel (GG C z sa) M0 1) H := by
  have h := sgf_at hP (show 116 < 340 by omega)
  obtain ⟨f, e1, e2⟩ := wd_1 C z sa cf
  rw [e1] at h
  rw [cel_12 _ _ (show kd 1 = 12 by decide)]
  exact at_I h e2
theorem wk_2 {C : Gd} {z : Nat} (sa : Nat → Nat) {cf : Nat → va_E} {H : Heap} (hP : va_P C.1 vwCl (sgf z 340 (cfL C z cf)) H) : va_at C.1 vwCl (z + ixF 2, cel (GG C z sa) M0 2) H := by
  have h := sgf_at hP (show 100 < 340 by omega)
  obtain ⟨f, e1, e2⟩ := wd_2 C z sa cf
  rw [e1] at h
  rw [cel_16 _ _ (show kd 2 = 16 by decide)]
  exact at_Q h e2
theorem wk_3 {C : Gd} {z : Nat} (sa : Nat → Nat) {cf : Nat → va_E} {H : Heap} (hP : va_P C.1 vwCl (sgf z 340 (cfL C z cf)) H) : va_at C.1 vwCl (z + ixF 3, cel (GG C z sa) M0 3) H := by
  have h := sgf_at hP (show 101 < 340 by omega)
  rw [wd_3 C z sa cf] at h
  exact h
theorem wk_4 {C : Gd} {z : Nat} (sa : Nat → Nat) {cf : Nat → va_E} {H : Heap} (hP : va_P C.1 vwCl (sgf z 340 (cfL C z cf)) H) : va_at C.1 vwCl (z + ixF 4, cel (GG C z sa) M0 4) H := by
  have h := sgf_at hP (show 1 < 340 by omega)
  rw [wd_4 C z sa cf] at h
  exact h
theorem wk_5 {C : Gd} {z : Nat} (sa : Nat → Nat) {cf : Nat → va_E} {H : Heap} (hP : va_P C.1 vwCl (sgf z 340 (cfL C z cf)) H) : va_at C.1 vwCl (z + ixF 5, cel (GG C z sa) M0 5) H := by
  have h := sgf_at hP (show 9 < 340 by omega)
  obtain ⟨f, e1, e2⟩ := wd_5 C z sa cf
  rw [e1] at h
  rw [cel_12 _ _ (show kd 5 = 12 by decide)]
  exact at_I h e2
theorem wk_6 {C : Gd} {z : Nat} (sa : Nat → Nat) {cf : Nat → va_E} {H : Heap} (hP : va_P C.1 vwCl (sgf z 340 (cfL C z cf)) H) : va_at C.1 vwCl (z + ixF 6, cel (GG C z sa) M0 6) H := by
  have h := sgf_at hP (show 2 < 340 by omega)
  obtain ⟨f, e1, e2⟩ := wd_6 C z sa cf
  rw [e1] at h
  rw [cel_17 _ _ (show kd 6 = 17 by decide)]
  exact at_Q h e2
theorem wk_7 {C : Gd} {z : Nat} (sa : Nat → Nat) {cf : Nat → va_E} {H : Heap} (hP : va_P C.1 vwCl (sgf z 340 (cfL C z cf)) H) : va_at C.1 vwCl (z + ixF 7, cel (GG C z sa) M0 7) H := by
  have h := sgf_at hP (show 3 < 340 by omega)
  obtain ⟨f, e1, e2⟩ := wd_7 C z sa cf
  rw [e1] at h
  rw [cel_12 _ _ (show kd 7 = 12 by decide)]
  exact at_I h e2
theorem wk_8 {C : Gd} {z : Nat} (sa : Nat → Nat) {cf : Nat → va_E} {H : Heap} (hP : va_P C.1 vwCl (sgf z 340 (cfL C z cf)) H) : va_at C.1 vwCl (z + ixF 8, cel (GG C z sa) M0 8) H := by
  have h := sgf_at hP (show 4 < 340 by omega)
  obtain ⟨f, e1, e2⟩ := wd_8 C z sa cf
  rw [e1] at h
  rw [cel_12 _ _ (show kd 8 = 12 by decide)]
  exact at_I h e2
theorem wk_9 {C : Gd} {z : Nat} (sa : Nat → Nat) {cf : Nat → va_E} {H : Heap} (hP : va_P C.1 vwCl (sgf z 340 (cfL C z cf)) H) : va_at C.1 vwCl (z + ixF 9, cel (GG C z sa) M0 9) H := by
  have h := sgf_at hP (show 5 < 340 by omega)
  obtain ⟨f, e1, e2⟩ := wd_9 C z sa cf
  rw [e1] at h
  rw [cel_12 _ _ (show kd 9 = 12 by decide)]
  exact at_I h e2
theorem wk_10 {C : Gd} {z : Nat} (sa : Nat → Nat) {cf : Nat → va_E} {H : Heap} (hP : va_P C.1 vwCl (sgf z 340 (cfL C z cf)) H) : va_at C.1 vwCl (z + ixF 10, cel (GG C z sa) M0 10) H := by
  have h := sgf_at hP (show 6 < 340 by omega)
  obtain ⟨f, e1, e2⟩ := wd_10 C z sa cf
  rw [e1] at h
  rw [cel_12 _ _ (show kd 10 = 12 by decide)]
  exact at_I h e2
theorem wk_11 {C : Gd} {z : Nat} (sa : Nat → Nat) {cf : Nat → va_E} {H : Heap} (hP : va_P C.1 vwCl (sgf z 340 (cfL C z cf)) H) : va_at C.1 vwCl (z + ixF 11, cel (GG C z sa) M0 11) H := by
  have h := sgf_at hP (show 7 < 340 by omega)
  obtain ⟨f, e1, e2⟩ := wd_11 C z sa cf
  rw [e1] at h
  rw [cel_12 _ _ (show kd 11 = 12 by decide)]
  exact at_I h e2
theorem wk_12 {C : Gd} {z : Nat} (sa : Nat → Nat) {cf : Nat → va_E} {H : Heap} (hP : va_P C.1 vwCl (sgf z 340 (cfL C z cf)) H) : va_at C.1 vwCl (z + ixF 12, cel (GG C z sa) M0 12) H := by
  have h := sgf_at hP (show 8 < 340 by omega)
  obtain ⟨f, e1, e2⟩ := wd_12 C z sa cf
  rw [e1] at h
  rw [cel_12 _ _ (show kd 12 = 12 by decide)]
  exact at_I h e2
theorem wk_13 {C : Gd} {z : Nat} (sa : Nat → Nat) {cf : Nat → va_E} {H : Heap} (hP : va_P C.1 vwCl (sgf z 340 (cfL C z cf)) H) : va_at C.1 vwCl (z + ixF 13, cel (GG C z sa) M0 13) H := by
  have h := sgf_at hP (show 10 < 340 by omega)
  rw [wd_13 C z sa cf] at h
  exact h
theorem wk_14 {C : Gd} {z : Nat} (sa : Nat → Nat) {cf : Nat → va_E} {H : Heap} (hP : va_P C.1 vwCl (sgf z 340 (cfL C z cf)) H) : va_at C.1 vwCl (z + ixF 14, cel (GG C z sa) M0 14) H := by
  have h := sgf_at hP (show 16 < 340 by omega)
  obtain ⟨f, e1, e2⟩ := wd_14 C z sa cf
  rw [e1] at h
  rw [cel_12 _ _ (show kd 14 = 12 by decide)]
  exact at_I h e2
theorem wk_15 {C : Gd} {z : Nat} (sa : Nat → Nat) {cf : Nat → va_E} {H : Heap} (hP : va_P C.1 vwCl (sgf z 340 (cfL C z cf)) H) : va_at C.1 vwCl (z + ixF 15, cel (GG C z sa) M0 15) H := by
  have h := sgf_at hP (show 11 < 340 by omega)
  obtain ⟨f, e1, e2⟩ := wd_15 C z sa cf
  rw [e1] at h
  rw [cel_17 _ _ (show kd 15 = 17 by decide)]
  exact at_Q h e2
theorem wk_16 {C : Gd} {z : Nat} (sa : Nat → Nat) {cf : Nat → va_E} {H : Heap} (hP : va_P C.1 vwCl (sgf z 340 (cfL C z cf)) H) : va_at C.1 vwCl (z + ixF 16, cel (GG C z sa) M0 16) H := by
  have h := sgf_at hP (show 12 < 340 by omega)
  obtain ⟨f, e1, e2⟩ := wd_16 C z sa cf
  rw [e1] at h
  rw [cel_12 _ _ (show kd 16 = 12 by decide)]
  exact at_I h e2
theorem wk_17 {C : Gd} {z : Nat} (sa : Nat → Nat) {cf : Nat → va_E} {H : Heap} (hP : va_P C.1 vwCl (sgf z 340 (cfL C z cf)) H) : va_at C.1 vwCl (z + ixF 17, cel (GG C z sa) M0 17) H := by
  have h := sgf_at hP (show 13 < 340 by omega)
  obtain ⟨f, e1, e2⟩ := wd_17 C z sa cf
  rw [e1] at h
  rw [cel_12 _ _ (show kd 17 = 12 by decide)]
  exact at_I h e2
theorem wk_18 {C : Gd} {z : Nat} (sa : Nat → Nat) {cf : Nat → va_E} {H : Heap} (hP : va_P C.1 vwCl (sgf z 340 (cfL C z cf)) H) : va_at C.1 vwCl (z + ixF 18, cel (GG C z sa) M0 18) H := by
  have h := sgf_at hP (show 14 < 340 by omega)
  obtain ⟨f, e1, e2⟩ := wd_18 C z sa cf
  rw [e1] at h
  rw [cel_12 _ _ (show kd 18 = 12 by decide)]
  exact at_I h e2
theorem wk_19 {C : Gd} {z : Nat} (sa : Nat → Nat) {cf : Nat → va_E} {H : Heap} (hP : va_P C.1 vwCl (sgf z 340 (cfL C z cf)) H) : va_at C.1 vwCl (z + ixF 19, cel (GG C z sa) M0 19) H := by
  have h := sgf_at hP (show 15 < 340 by omega)
  obtain ⟨f, e1, e2⟩ := wd_19 C z sa cf
  rw [e1] at h
  rw [cel_12 _ _ (show kd 19 = 12 by decide)]
  exact at_I h e2
theorem wk_20 {C : Gd} {z : Nat} (sa : Nat → Nat) {cf : Nat → va_E} {H : Heap} (hP : va_P C.1 vwCl (sgf z 340 (cfL C z cf)) H) : va_at C.1 vwCl (z + ixF 20, cel (GG C z sa) M0 20) H := by
  have h := sgf_at hP (show 17 < 340 by omega)
  rw [wd_20 C z sa cf] at h
  exact h
theorem wk_21 {C : Gd} {z : Nat} (sa : Nat → Nat) {cf : Nat → va_E} {H : Heap} (hP : va_P C.1 vwCl (sgf z 340 (cfL C z cf)) H) : va_at C.1 vwCl (z + ixF 21, cel (GG C z sa) M0 21) H := by
  have h := sgf_at hP (show 18 < 340 by omega)
  obtain ⟨f, e1, e2⟩ := wd_21 C z sa cf
  rw [e1] at h
  rw [cel_12 _ _ (show kd 21 = 12 by decide)]
  exact at_I h e2
theorem wk_22 {C : Gd} {z : Nat} (sa : Nat → Nat) {cf : Nat → va_E} {H : Heap} (hP : va_P C.1 vwCl (sgf z 340 (cfL C z cf)) H) : va_at C.1 vwCl (z + ixF 22, cel (GG C z sa) M0 22) H := by
  have h := sgf_at hP (show 19 < 340 by omega)
  obtain ⟨f, e1, e2⟩ := wd_22 C z sa cf
  rw [e1] at h
  rw [cel_12 _ _ (show kd 22 = 12 by decide)]
  exact at_I h e2
theorem wk_23 {C : Gd} {z : Nat} (sa : Nat → Nat) {cf : Nat → va_E} {H : Heap} (hP : va_P C.1 vwCl (sgf z 340 (cfL C z cf)) H) : va_at C.1 vwCl (z + ixF 23, cel (GG C z sa) M0 23) H := by
  have h := sgf_at hP (show 20 < 340 by omega)
  obtain ⟨f, e1, e2⟩ := wd_23 C z sa cf
  rw [e1] at h
  rw [cel_12 _ _ (show kd 23 = 12 by decide)]
  exact at_I h e2
theorem wk_24 {C : Gd} {z : Nat} (sa : Nat → Nat) {cf : Nat → va_E} {H : Heap} (hP : va_P C.1 vwCl (sgf z 340 (cfL C z cf)) H) : va_at C.1 vwCl (z + ixF 24, cel (GG C z sa) M0 24) H := by
  have h := sgf_at hP (show 21 < 340 by omega)
  obtain ⟨f, e1, e2⟩ := wd_24 C z sa cf
  rw [e1] at h
  rw [cel_12 _ _ (show kd 24 = 12 by decide)]
  exact at_I h e2
theorem wk_25 {C : Gd} {z : Nat} (sa : Nat → Nat) {cf : Nat → va_E} {H : Heap} (hP : va_P C.1 vwCl (sgf z 340 (cfL C z cf)) H) : va_at C.1 vwCl (z + ixF 25, cel (GG C z sa) M0 25) H := by
  have h := sgf_at hP (show 22 < 340 by omega)
  obtain ⟨f, e1, e2⟩ := wd_25 C z sa cf
  rw [e1] at h
  rw [cel_12 _ _ (show kd 25 = 12 by decide)]
  exact at_I h e2
theorem wk_26 {C : Gd} {z : Nat} (sa : Nat → Nat) {cf : Nat → va_E} {H : Heap} (hP : va_P C.1 vwCl (sgf z 340 (cfL C z cf)) H) : va_at C.1 vwCl (z + ixF 26, cel (GG C z sa) M0 26) H := by
  have h := sgf_at hP (show 23 < 340 by omega)
  obtain ⟨f, e1, e2⟩ := wd_26 C z sa cf
  rw [e1] at h
  rw [cel_12 _ _ (show kd 26 = 12 by decide)]
  exact at_I h e2
theorem wk_27 {C : Gd} {z : Nat} (sa : Nat → Nat) {cf : Nat → va_E} {H : Heap} (hP : va_P C.1 vwCl (sgf z 340 (cfL C z cf)) H) : va_at C.1 vwCl (z + ixF 27, cel (GG C z sa) M0 27) H := by
  have h := sgf_at hP (show 24 < 340 by omega)
  obtain ⟨f, e1, e2⟩ := wd_27 C z sa cf
  rw [e1] at h
  rw [cel_12 _ _ (show kd 27 = 12 by decide)]
  exact at_I h e2
theorem wk_28 {C : Gd} {z : Nat} (sa : Nat → Nat) {cf : Nat → va_E} {H : Heap} (hP : va_P C.1 vwCl (sgf z 340 (cfL C z cf)) H) : va_at C.1 vwCl (z + ixF 28, cel (GG C z sa) M0 28) H := by
  have h := sgf_at hP (show 28 < 340 by omega)
  rw [wd_28 C z sa cf] at h
  exact h
theorem wk_29 {C : Gd} {z : Nat} (sa : Nat → Nat) {cf : Nat → va_E} {H : Heap} (hP : va_P C.1 vwCl (sgf z 340 (cfL C z cf)) H) : va_at C.1 vwCl (z + ixF 29, cel (GG C z sa) M0 29) H := by
  have h := sgf_at hP (show 29 < 340 by omega)
  obtain ⟨f, e1, e2⟩ := wd_29 C z sa cf
  rw [e1] at h
  rw [cel_12 _ _ (show kd 29 = 12 by decide)]
  exact at_I h e2
theorem wk_30 {C : Gd} {z : Nat} (sa : Nat → Nat) {cf : Nat → va_E} {H : Heap} (hP : va_P C.1 vwCl (sgf z 340 (cfL C z cf)) H) : va_at C.1 vwCl (z + ixF 30, cel (GG C z sa) M0 30) H := by
  have h := sgf_at hP (show 30 < 340 by omega)
  obtain ⟨f, e1, e2⟩ := wd_30 C z sa cf
  rw [e1] at h
  rw [cel_12 _ _ (show kd 30 = 12 by decide)]
  exact at_I h e2
theorem wk_31 {C : Gd} {z : Nat} (sa : Nat → Nat) {cf : Nat → va_E} {H : Heap} (hP : va_P C.1 vwCl (sgf z 340 (cfL C z cf)) H) : va_at C.1 vwCl (z + ixF 31, cel (GG C z sa) M0 31) H := by
  have h := sgf_at hP (show 31 < 340 by omega)
  obtain ⟨f, e1, e2⟩ := wd_31 C z sa cf
  rw [e1] at h
  rw [cel_12 _ _ (show kd 31 = 12 by decide)]
  exact at_I h e2
theorem wk_32 {C : Gd} {z : Nat} (sa : Nat → Nat) {cf : Nat → va_E} {H : Heap} (hP : va_P C.1 vwCl (sgf z 340 (cfL C z cf)) H) : va_at C.1 vwCl (z + ixF 32, cel (GG C z sa) M0 32) H := by
  have h := sgf_at hP (show 32 < 340 by omega)
  obtain ⟨f, e1, e2⟩ := wd_32 C z sa cf
  rw [e1] at h
  rw [cel_12 _ _ (show kd 32 = 12 by decide)]
  exact at_I h e2
theorem wk_33 {C : Gd} {z : Nat} (sa : Nat → Nat) {cf : Nat → va_E} {H : Heap} (hP : va_P C.1 vwCl (sgf z 340 (cfL C z cf)) H) : va_at C.1 vwCl (z + ixF 33, cel (GG C z sa) M0 33) H := by
  have h := sgf_at hP (show 33 < 340 by omega)
  obtain ⟨f, e1, e2⟩ := wd_33 C z sa cf
  rw [e1] at h
  rw [cel_12 _ _ (show kd 33 = 12 by decide)]
  exact at_I h e2
theorem wk_34 {C : Gd} {z : Nat} (sa : Nat → Nat) {cf : Nat → va_E} {H : Heap} (hP : va_P C.1 vwCl (sgf z 340 (cfL C z cf)) H) : va_at C.1 vwCl (z + ixF 34, cel (GG C z sa) M0 34) H := by
  have h := sgf_at hP (show 34 < 340 by omega)
  obtain ⟨f, e1, e2⟩ := wd_34 C z sa cf
  rw [e1] at h
  rw [cel_12 _ _ (show kd 34 = 12 by decide)]
  exact at_I h e2
theorem wk_35 {C : Gd} {z : Nat} (sa : Nat → Nat) {cf : Nat → va_E} {H : Heap} (hP : va_P C.1 vwCl (sgf z 340 (cfL C z cf)) H) : va_at C.1 vwCl (z + ixF 35, cel (GG C z sa) M0 35) H := by
  have h := sgf_at hP (show 35 < 340 by omega)
  obtain ⟨f, e1, e2⟩ := wd_35 C z sa cf
  rw [e1] at h
  rw [cel_12 _ _ (show kd 35 = 12 by decide)]
  exact at_I h e2
theorem wk_36 {C : Gd} {z : Nat} (sa : Nat → Nat) {cf : Nat → va_E} {H : Heap} (hP : va_P C.1 vwCl (sgf z 340 (cfL C z cf)) H) : va_at C.1 vwCl (z + ixF 36, cel (GG C z sa) M0 36) H := by
  have h := sgf_at hP (show 25 < 340 by omega)
  rw [wd_36 C z sa cf] at h
  exact h
theorem wk_37 {C : Gd} {z : Nat} (sa : Nat → Nat) {cf : Nat → va_E} {H : Heap} (hP : va_P C.1 vwCl (sgf z 340 (cfL C z cf)) H) : va_at C.1 vwCl (z + ixF 37, cel (GG C z sa) M0 37) H := by
  have h := sgf_at hP (show 26 < 340 by omega)
  obtain ⟨f, e1, e2⟩ := wd_37 C z sa cf
  rw [e1] at h
  rw [cel_12 _ _ (show kd 37 = 12 by decide)]
  exact at_I h e2
theorem wk_38 {C : Gd} {z : Nat} (sa : Nat → Nat) {cf : Nat → va_E} {H : Heap} (hP : va_P C.1 vwCl (sgf z 340 (cfL C z cf)) H) : va_at C.1 vwCl (z + ixF 38, cel (GG C z sa) M0 38) H := by
  have h := sgf_at hP (show 27 < 340 by omega)
  rw [wd_38 C z sa cf] at h
  exact h
theorem wk_39 {C : Gd} {z : Nat} (sa : Nat → Nat) {cf : Nat → va_E} {H : Heap} (hP : va_P C.1 vwCl (sgf z 340 (cfL C z cf)) H) : va_at C.1 vwCl (z + ixF 39, cel (GG C z sa) M0 39) H := by
  have h := sgf_at hP (show 36 < 340 by omega)
  obtain ⟨f, e1, e2⟩ := wd_39 C z sa cf
  rw [e1] at h
  rw [cel_12 _ _ (show kd 39 = 12 by decide)]
  exact at_I h e2
theorem wk_40 {C : Gd} {z : Nat} (sa : Nat → Nat) {cf : Nat → va_E} {H : Heap} (hP : va_P C.1 vwCl (sgf z 340 (cfL C z cf)) H) : va_at C.1 vwCl (z + ixF 40, cel (GG C z sa) M0 40) H := by
  have h := sgf_at hP (show 102 < 340 by omega)
  rw [wd_40 C z sa cf] at h
  exact h
theorem wk_41 {C : Gd} {z : Nat} (sa : Nat → Nat) {cf : Nat → va_E} {H : Heap} (hP : va_P C.1 vwCl (sgf z 340 (cfL C z cf)) H) : va_at C.1 vwCl (z + ixF 41, cel (GG C z sa) M0 41) H := by
  have h := sgf_at hP (show 103 < 340 by omega)
  obtain ⟨f, e1, e2⟩ := wd_41 C z sa cf
  rw [e1] at h
  rw [cel_12 _ _ (show kd 41 = 12 by decide)]
  exact at_I h e2
theorem wk_42 {C : Gd} {z : Nat} (sa : Nat → Nat) {cf : Nat → va_E} {H : Heap} (hP : va_P C.1 vwCl (sgf z 340 (cfL C z cf)) H) : va_at C.1 vwCl (z + ixF 42, cel (GG C z sa) M0 42) H := by
  have h := sgf_at hP (show 105 < 340 by omega)
  obtain ⟨f, e1, e2⟩ := wd_42 C z sa cf
  rw [e1] at h
  rw [cel_12 _ _ (show kd 42 = 12 by decide)]
  exact at_I h e2
theorem wk_43 {C : Gd} {z : Nat} (sa : Nat → Nat) {cf : Nat → va_E} {H : Heap} (hP : va_P C.1 vwCl (sgf z 340 (cfL C z cf)) H) : va_at C.1 vwCl (z + ixF 43, cel (GG C z sa) M0 43) H := by
  have h := sgf_at hP (show 104 < 340 by omega)
  obtain ⟨f, e1, e2⟩ := wd_43 C z sa cf
  rw [e1] at h
  rw [cel_15 _ _ (show kd 43 = 15 by decide)]
  exact at_Q h e2
theorem wk_44 {C : Gd} {z : Nat} (sa : Nat → Nat) {cf : Nat → va_E} {H : Heap} (hP : va_P C.1 vwCl (sgf z 340 (cfL C z cf)) H) : va_at C.1 vwCl (z + ixF 44, cel (GG C z sa) M0 44) H := by
  have h := sgf_at hP (show 106 < 340 by omega)
  rw [wd_44 C z sa cf] at h
  exact h
theorem wk_45 {C : Gd} {z : Nat} (sa : Nat → Nat) {cf : Nat → va_E} {H : Heap} (hP : va_P C.1 vwCl (sgf z 340 (cfL C z cf)) H) : va_at C.1 vwCl (z + ixF 45, cel (GG C z sa) M0 45) H := by
  have h := sgf_at hP (show 107 < 340 by omega)
  rw [wd_45 C z sa cf] at h
  exact h
theorem wk_46 {C : Gd} {z : Nat} (sa : Nat → Nat) {cf : Nat → va_E} {H : Heap} (hP : va_P C.1 vwCl (sgf z 340 (cfL C z cf)) H) : va_at C.1 vwCl (z + ixF 46, cel (GG C z sa) M0 46) H := by
  have h := sgf_at hP (show 108 < 340 by omega)
  rw [wd_46 C z sa cf] at h
  exact h
theorem wk_47 {C : Gd} {z : Nat} (sa : Nat → Nat) {cf : Nat → va_E} {H : Heap} (hP : va_P C.1 vwCl (sgf z 340 (cfL C z cf)) H) : va_at C.1 vwCl (z + ixF 47, cel (GG C z sa) M0 47) H := by
  have h := sgf_at hP (show 109 < 340 by omega)
  rw [wd_47 C z sa cf] at h
  exact h
theorem wk_48 {C : Gd} {z : Nat} (sa : Nat → Nat) {cf : Nat → va_E} {H : Heap} (hP : va_P C.1 vwCl (sgf z 340 (cfL C z cf)) H) : va_at C.1 vwCl (z + ixF 48, cel (GG C z sa) M0 48) H := by
  have h := sgf_at hP (show 110 < 340 by omega)
  rw [wd_48 C z sa cf] at h
  exact h
theorem wk_49 {C : Gd} {z : Nat} (sa : Nat → Nat) {cf : Nat → va_E} {H : Heap} (hP : va_P C.1 vwCl (sgf z 340 (cfL C z cf)) H) : va_at C.1 vwCl (z + ixF 49, cel (GG C z sa) M0 49) H := by
  have h := sgf_at hP (show 111 < 340 by omega)
  obtain ⟨f, e1, e2⟩ := wd_49 C z sa cf
  rw [e1] at h
  rw [cel_13 _ _ (show kd 49 = 13 by decide)]
  exact at_J h e2
theorem wk_50 {C : Gd} {z : Nat} (sa : Nat → Nat) {cf : Nat → va_E} {H : Heap} (hP : va_P C.1 vwCl (sgf z 340 (cfL C z cf)) H) : va_at C.1 vwCl (z + ixF 50, cel (GG C z sa) M0 50) H := by
  have h := sgf_at hP (show 112 < 340 by omega)
  obtain ⟨f, e1, e2⟩ := wd_50 C z sa cf
  rw [e1] at h
  rw [cel_12 _ _ (show kd 50 = 12 by decide)]
  exact at_I h e2
theorem wk_51 {C : Gd} {z : Nat} (sa : Nat → Nat) {cf : Nat → va_E} {H : Heap} (hP : va_P C.1 vwCl (sgf z 340 (cfL C z cf)) H) : va_at C.1 vwCl (z + ixF 51, cel (GG C z sa) M0 51) H := by
  have h := sgf_at hP (show 113 < 340 by omega)
  rw [wd_51 C z sa cf] at h
  exact h
theorem wk_52 {C : Gd} {z : Nat} (sa : Nat → Nat) {cf : Nat → va_E} {H : Heap} (hP : va_P C.1 vwCl (sgf z 340 (cfL C z cf)) H) : va_at C.1 vwCl (z + ixF 52, cel (GG C z sa) M0 52) H := by
  have h := sgf_at hP (show 114 < 340 by omega)
  obtain ⟨f, e1, e2⟩ := wd_52 C z sa cf
  rw [e1] at h
  rw [cel_12 _ _ (show kd 52 = 12 by decide)]
  exact at_I h e2
theorem wk_53 {C : Gd} {z : Nat} (sa : Nat → Nat) {cf : Nat → va_E} {H : Heap} (hP : va_P C.1 vwCl (sgf z 340 (cfL C z cf)) H) : va_at C.1 vwCl (z + ixF 53, cel (GG C z sa) M0 53) H := by
  have h := sgf_at hP (show 115 < 340 by omega)
  obtain ⟨f, e1, e2⟩ := wd_53 C z sa cf
  rw [e1] at h
  rw [cel_13 _ _ (show kd 53 = 13 by decide)]
  exact at_J h e2
theorem wk_54 {C : Gd} {z : Nat} (sa : Nat → Nat) {cf : Nat → va_E} {H : Heap} (hP : va_P C.1 vwCl (sgf z 340 (cfL C z cf)) H) : va_at C.1 vwCl (z + ixF 54, cel (GG C z sa) M0 54) H := by
  have h := sgf_at hP (show 117 < 340 by omega)
  rw [wd_54 C z sa cf] at h
  exact h
theorem wk_55 {C : Gd} {z : Nat} (sa : Nat → Nat) {cf : Nat → va_E} {H : Heap} (hP : va_P C.1 vwCl (sgf z 340 (cfL C z cf)) H) : va_at C.1 vwCl (z + ixF 55, cel (GG C z sa) M0 55) H := by
  have h := sgf_at hP (show 181 < 340 by omega)
  obtain ⟨f, e1, e2⟩ := wd_55 C z sa cf
  rw [e1] at h
  rw [cel_12 _ _ (show kd 55 = 12 by decide)]
  exact at_I h e2
theorem wk_56 {C : Gd} {z : Nat} (sa : Nat → Nat) {cf : Nat → va_E} {H : Heap} (hP : va_P C.1 vwCl (sgf z 340 (cfL C z cf)) H) : va_at C.1 vwCl (z + ixF 56, cel (GG C z sa) M0 56) H := by
  have h := sgf_at hP (show 182 < 340 by omega)
  rw [wd_56 C z sa cf] at h
  exact h
theorem wk_57 {C : Gd} {z : Nat} (sa : Nat → Nat) {cf : Nat → va_E} {H : Heap} (hP : va_P C.1 vwCl (sgf z 340 (cfL C z cf)) H) : va_at C.1 vwCl (z + ixF 57, cel (GG C z sa) M0 57) H := by
  have h := sgf_at hP (show 246 < 340 by omega)
  obtain ⟨f, e1, e2⟩ := wd_57 C z sa cf
  rw [e1] at h
  rw [cel_12 _ _ (show kd 57 = 12 by decide)]
  exact at_I h e2
theorem wk_58 {C : Gd} {z : Nat} (sa : Nat → Nat) {cf : Nat → va_E} {H : Heap} (hP : va_P C.1 vwCl (sgf z 340 (cfL C z cf)) H) : va_at C.1 vwCl (z + ixF 58, cel (GG C z sa) M0 58) H := by
  have h := sgf_at hP (show 247 < 340 by omega)
  rw [wd_58 C z sa cf] at h
  exact h
theorem wk_59 {C : Gd} {z : Nat} (sa : Nat → Nat) {cf : Nat → va_E} {H : Heap} (hP : va_P C.1 vwCl (sgf z 340 (cfL C z cf)) H) : va_at C.1 vwCl (z + ixF 59, cel (GG C z sa) M0 59) H := by
  have h := sgf_at hP (show 311 < 340 by omega)
  obtain ⟨f, e1, e2⟩ := wd_59 C z sa cf
  rw [e1] at h
  rw [cel_12 _ _ (show kd 59 = 12 by decide)]
  exact at_I h e2
theorem wk_60 {C : Gd} {z : Nat} (sa : Nat → Nat) {cf : Nat → va_E} {H : Heap} (hP : va_P C.1 vwCl (sgf z 340 (cfL C z cf)) H) : va_at C.1 vwCl (z + ixF 60, cel (GG C z sa) M0 60) H := by
  have h := sgf_at hP (show 37 < 340 by omega)
  rw [wd_60 C z sa cf] at h
  exact h
theorem wk_61 {C : Gd} {z : Nat} (sa : Nat → Nat) {cf : Nat → va_E} {H : Heap} (hP : va_P C.1 vwCl (sgf z 340 (cfL C z cf)) H) : va_at C.1 vwCl (z + ixF 61, cel (GG C z sa) M0 61) H := by
  have h := sgf_at hP (show 38 < 340 by omega)
  rw [wd_61 C z sa cf] at h
  exact h
theorem wk_62 {C : Gd} {z : Nat} (sa : Nat → Nat) {cf : Nat → va_E} {H : Heap} (hP : va_P C.1 vwCl (sgf z 340 (cfL C z cf)) H) : va_at C.1 vwCl (z + ixF 62, cel (GG C z sa) M0 62) H := by
  have h := sgf_at hP (show 39 < 340 by omega)
  obtain ⟨f, e1, e2⟩ := wd_62 C z sa cf
  rw [e1] at h
  rw [cel_15 _ _ (show kd 62 = 15 by decide)]
  exact at_Q h e2
theorem wk_312 {C : Gd} {z : Nat} (sa : Nat → Nat) {cf : Nat → va_E} {H : Heap} (hP : va_P C.1 vwCl (sgf z 340 (cfL C z cf)) H) : va_at C.1 vwCl (z + ixF 312, cel (GG C z sa) M0 312) H := by
  have h := sgf_at hP (show 312 < 340 by omega)
  rw [wd_312 C z sa cf] at h
  exact h
theorem wk_313 {C : Gd} {z : Nat} (sa : Nat → Nat) {cf : Nat → va_E} {H : Heap} (hP : va_P C.1 vwCl (sgf z 340 (cfL C z cf)) H) : va_at C.1 vwCl (z + ixF 313, cel (GG C z sa) M0 313) H := by
  have h := sgf_at hP (show 313 < 340 by omega)
  obtain ⟨f, e1, e2⟩ := wd_313 C z sa cf
  rw [e1] at h
  rw [cel_12 _ _ (show kd 313 = 12 by decide)]
  exact at_I h e2
theorem wk_314 {C : Gd} {z : Nat} (sa : Nat → Nat) {cf : Nat → va_E} {H : Heap} (hP : va_P C.1 vwCl (sgf z 340 (cfL C z cf)) H) : va_at C.1 vwCl (z + ixF 314, cel (GG C z sa) M0 314) H := by
  have h := sgf_at hP (show 314 < 340 by omega)
  obtain ⟨f, e1, e2⟩ := wd_314 C z sa cf
  rw [e1] at h
  rw [cel_12 _ _ (show kd 314 = 12 by decide)]
  exact at_I h e2
theorem wk_315 {C : Gd} {z : Nat} (sa : Nat → Nat) {cf : Nat → va_E} {H : Heap} (hP : va_P C.1 vwCl (sgf z 340 (cfL C z cf)) H) : va_at C.1 vwCl (z + ixF 315, cel (GG C z sa) M0 315) H := by
  have h := sgf_at hP (show 315 < 340 by omega)
  obtain ⟨f, e1, e2⟩ := wd_315 C z sa cf
  rw [e1] at h
  rw [cel_12 _ _ (show kd 315 = 12 by decide)]
  exact at_I h e2
theorem wk_316 {C : Gd} {z : Nat} (sa : Nat → Nat) {cf : Nat → va_E} {H : Heap} (hP : va_P C.1 vwCl (sgf z 340 (cfL C z cf)) H) : va_at C.1 vwCl (z + ixF 316, cel (GG C z sa) M0 316) H := by
  have h := sgf_at hP (show 316 < 340 by omega)
  obtain ⟨f, e1, e2⟩ := wd_316 C z sa cf
  rw [e1] at h
  rw [cel_12 _ _ (show kd 316 = 12 by decide)]
  exact at_I h e2
theorem wk_317 {C : Gd} {z : Nat} (sa : Nat → Nat) {cf : Nat → va_E} {H : Heap} (hP : va_P C.1 vwCl (sgf z 340 (cfL C z cf)) H) : va_at C.1 vwCl (z + ixF 317, cel (GG C z sa) M0 317) H := by
  have h := sgf_at hP (show 317 < 340 by omega)
  obtain ⟨f, e1, e2⟩ := wd_317 C z sa cf
  rw [e1] at h
  rw [cel_12 _ _ (show kd 317 = 12 by decide)]
  exact at_I h e2
theorem wk_318 {C : Gd} {z : Nat} (sa : Nat → Nat) {cf : Nat → va_E} {H : Heap} (hP : va_P C.1 vwCl (sgf z 340 (cfL C z cf)) H) : va_at C.1 vwCl (z + ixF 318, cel (GG C z sa) M0 318) H := by
  have h := sgf_at hP (show 318 < 340 by omega)
  obtain ⟨f, e1, e2⟩ := wd_318 C z sa cf
  rw [e1] at h
  rw [cel_11 _ _ (show kd 318 = 11 by decide)]
  exact at_I h e2
theorem wk_319 {C : Gd} {z : Nat} (sa : Nat → Nat) {cf : Nat → va_E} {H : Heap} (hP : va_P C.1 vwCl (sgf z 340 (cfL C z cf)) H) : va_at C.1 vwCl (z + ixF 319, cel (GG C z sa) M0 319) H := by
  have h := sgf_at hP (show 319 < 340 by omega)
  obtain ⟨f, e1, e2⟩ := wd_319 C z sa cf
  rw [e1] at h
  rw [cel_12 _ _ (show kd 319 = 12 by decide)]
  exact at_I h e2
theorem wk_320 {C : Gd} {z : Nat} (sa : Nat → Nat) {cf : Nat → va_E} {H : Heap} (hP : va_P C.1 vwCl (sgf z 340 (cfL C z cf)) H) : va_at C.1 vwCl (z + ixF 320, cel (GG C z sa) M0 320) H := by
  have h := sgf_at hP (show 320 < 340 by omega)
  obtain ⟨f, e1, e2⟩ := wd_320 C z sa cf
  rw [e1] at h
  rw [cel_12 _ _ (show kd 320 = 12 by decide)]
  exact at_I h e2
theorem wk_321 {C : Gd} {z : Nat} (sa : Nat → Nat) {cf : Nat → va_E} {H : Heap} (hP : va_P C.1 vwCl (sgf z 340 (cfL C z cf)) H) : va_at C.1 vwCl (z + ixF 321, cel (GG C z sa) M0 321) H := by
  have h := sgf_at hP (show 321 < 340 by omega)
  obtain ⟨f, e1, e2⟩ := wd_321 C z sa cf
  rw [e1] at h
  rw [cel_12 _ _ (show kd 321 = 12 by decide)]
  exact at_I h e2
theorem wk_322 {C : Gd} {z : Nat} (sa : Nat → Nat) {cf : Nat → va_E} {H : Heap} (hP : va_P C.1 vwCl (sgf z 340 (cfL C z cf)) H) : va_at C.1 vwCl (z + ixF 322, cel (GG C z sa) M0 322) H := by
  have h := sgf_at hP (show 322 < 340 by omega)
  obtain ⟨f, e1, e2⟩ := wd_322 C z sa cf
  rw [e1] at h
  rw [cel_12 _ _ (show kd 322 = 12 by decide)]
  exact at_I h e2
theorem wk_323 {C : Gd} {z : Nat} (sa : Nat → Nat) {cf : Nat → va_E} {H : Heap} (hP : va_P C.1 vwCl (sgf z 340 (cfL C z cf)) H) : va_at C.1 vwCl (z + ixF 323, cel (GG C z sa) M0 323) H := by
  have h := sgf_at hP (show 323 < 340 by omega)
  obtain ⟨f, e1, e2⟩ := wd_323 C z sa cf
  rw [e1] at h
  rw [cel_12 _ _ (show kd 323 = 12 by decide)]
  exact at_I h e2
theorem wk_324 {C : Gd} {z : Nat} (sa : Nat → Nat) {cf : Nat → va_E} {H : Heap} (hP : va_P C.1 vwCl (sgf z 340 (cfL C z cf)) H) : va_at C.1 vwCl (z + ixF 324, cel (GG C z sa) M0 324) H := by
  have h := sgf_at hP (show 324 < 340 by omega)
  obtain ⟨f, e1, e2⟩ := wd_324 C z sa cf
  rw [e1] at h
  rw [cel_12 _ _ (show kd 324 = 12 by decide)]
  exact at_I h e2
theorem wk_325 {C : Gd} {z : Nat} (sa : Nat → Nat) {cf : Nat → va_E} {H : Heap} (hP : va_P C.1 vwCl (sgf z 340 (cfL C z cf)) H) : va_at C.1 vwCl (z + ixF 325, cel (GG C z sa) M0 325) H := by
  have h := sgf_at hP (show 325 < 340 by omega)
  obtain ⟨f, e1, e2⟩ := wd_325 C z sa cf
  rw [e1] at h
  rw [cel_12 _ _ (show kd 325 = 12 by decide)]
  exact at_I h e2
theorem wk_326 {C : Gd} {z : Nat} (sa : Nat → Nat) {cf : Nat → va_E} {H : Heap} (hP : va_P C.1 vwCl (sgf z 340 (cfL C z cf)) H) : va_at C.1 vwCl (z + ixF 326, cel (GG C z sa) M0 326) H := by
  have h := sgf_at hP (show 326 < 340 by omega)
  obtain ⟨f, e1, e2⟩ := wd_326 C z sa cf
  rw [e1] at h
  rw [cel_12 _ _ (show kd 326 = 12 by decide)]
  exact at_I h e2
theorem wk_327 {C : Gd} {z : Nat} (sa : Nat → Nat) {cf : Nat → va_E} {H : Heap} (hP : va_P C.1 vwCl (sgf z 340 (cfL C z cf)) H) : va_at C.1 vwCl (z + ixF 327, cel (GG C z sa) M0 327) H := by
  have h := sgf_at hP (show 327 < 340 by omega)
  obtain ⟨f, e1, e2⟩ := wd_327 C z sa cf
  rw [e1] at h
  rw [cel_12 _ _ (show kd 327 = 12 by decide)]
  exact at_I h e2
theorem wk_328 {C : Gd} {z : Nat} (sa : Nat → Nat) {cf : Nat → va_E} {H : Heap} (hP : va_P C.1 vwCl (sgf z 340 (cfL C z cf)) H) : va_at C.1 vwCl (z + ixF 328, cel (GG C z sa) M0 328) H := by
  have h := sgf_at hP (show 328 < 340 by omega)
  obtain ⟨f, e1, e2⟩ := wd_328 C z sa cf
  rw [e1] at h
  rw [cel_12 _ _ (show kd 328 = 12 by decide)]
  exact at_I h e2
theorem wk_329 {C : Gd} {z : Nat} (sa : Nat → Nat) {cf : Nat → va_E} {H : Heap} (hP : va_P C.1 vwCl (sgf z 340 (cfL C z cf)) H) : va_at C.1 vwCl (z + ixF 329, cel (GG C z sa) M0 329) H := by
  have h := sgf_at hP (show 329 < 340 by omega)
  obtain ⟨f, e1, e2⟩ := wd_329 C z sa cf
  rw [e1] at h
  rw [cel_12 _ _ (show kd 329 = 12 by decide)]
  exact at_I h e2
theorem wk_330 {C : Gd} {z : Nat} (sa : Nat → Nat) {cf : Nat → va_E} {H : Heap} (hP : va_P C.1 vwCl (sgf z 340 (cfL C z cf)) H) : va_at C.1 vwCl (z + ixF 330, cel (GG C z sa) M0 330) H := by
  have h := sgf_at hP (show 330 < 340 by omega)
  obtain ⟨f, e1, e2⟩ := wd_330 C z sa cf
  rw [e1] at h
  rw [cel_14 _ _ (show kd 330 = 14 by decide)]
  exact at_I h e2
theorem wk_331 {C : Gd} {z : Nat} (sa : Nat → Nat) {cf : Nat → va_E} {H : Heap} (hP : va_P C.1 vwCl (sgf z 340 (cfL C z cf)) H) : va_at C.1 vwCl (z + ixF 331, cel (GG C z sa) M0 331) H := by
  have h := sgf_at hP (show 331 < 340 by omega)
  obtain ⟨f, e1, e2⟩ := wd_331 C z sa cf
  rw [e1] at h
  rw [cel_12 _ _ (show kd 331 = 12 by decide)]
  exact at_I h e2
theorem wk_332 {C : Gd} {z : Nat} (sa : Nat → Nat) {cf : Nat → va_E} {H : Heap} (hP : va_P C.1 vwCl (sgf z 340 (cfL C z cf)) H) : va_at C.1 vwCl (z + ixF 332, cel (GG C z sa) M0 332) H := by
  have h := sgf_at hP (show 332 < 340 by omega)
  obtain ⟨f, e1, e2⟩ := wd_332 C z sa cf
  rw [e1] at h
  rw [cel_12 _ _ (show kd 332 = 12 by decide)]
  exact at_I h e2
theorem wk_333 {C : Gd} {z : Nat} (sa : Nat → Nat) {cf : Nat → va_E} {H : Heap} (hP : va_P C.1 vwCl (sgf z 340 (cfL C z cf)) H) : va_at C.1 vwCl (z + ixF 333, cel (GG C z sa) M0 333) H := by
  have h := sgf_at hP (show 333 < 340 by omega)
  obtain ⟨f, e1, e2⟩ := wd_333 C z sa cf
  rw [e1] at h
  rw [cel_12 _ _ (show kd 333 = 12 by decide)]
  exact at_I h e2
theorem wk_334 {C : Gd} {z : Nat} (sa : Nat → Nat) {cf : Nat → va_E} {H : Heap} (hP : va_P C.1 vwCl (sgf z 340 (cfL C z cf)) H) : va_at C.1 vwCl (z + ixF 334, cel (GG C z sa) M0 334) H := by
  have h := sgf_at hP (show 334 < 340 by omega)
  obtain ⟨f, e1, e2⟩ := wd_334 C z sa cf
  rw [e1] at h
  rw [cel_12 _ _ (show kd 334 = 12 by decide)]
  exact at_I h e2
theorem wk_335 {C : Gd} {z : Nat} (sa : Nat → Nat) {cf : Nat → va_E} {H : Heap} (hP : va_P C.1 vwCl (sgf z 340 (cfL C z cf)) H) : va_at C.1 vwCl (z + ixF 335, cel (GG C z sa) M0 335) H := by
  have h := sgf_at hP (show 335 < 340 by omega)
  obtain ⟨f, e1, e2⟩ := wd_335 C z sa cf
  rw [e1] at h
  rw [cel_12 _ _ (show kd 335 = 12 by decide)]
  exact at_I h e2
theorem wk_336 {C : Gd} {z : Nat} (sa : Nat → Nat) {cf : Nat → va_E} {H : Heap} (hP : va_P C.1 vwCl (sgf z 340 (cfL C z cf)) H) : va_at C.1 vwCl (z + ixF 336, cel (GG C z sa) M0 336) H := by
  have h := sgf_at hP (show 336 < 340 by omega)
  obtain ⟨f, e1, e2⟩ := wd_336 C z sa cf
  rw [e1] at h
  rw [cel_12 _ _ (show kd 336 = 12 by decide)]
  exact at_I h e2
theorem wk_337 {C : Gd} {z : Nat} (sa : Nat → Nat) {cf : Nat → va_E} {H : Heap} (hP : va_P C.1 vwCl (sgf z 340 (cfL C z cf)) H) : va_at C.1 vwCl (z + ixF 337, cel (GG C z sa) M0 337) H := by
  have h := sgf_at hP (show 337 < 340 by omega)
  obtain ⟨f, e1, e2⟩ := wd_337 C z sa cf
  rw [e1] at h
  rw [cel_12 _ _ (show kd 337 = 12 by decide)]
  exact at_I h e2
theorem wk_338 {C : Gd} {z : Nat} (sa : Nat → Nat) {cf : Nat → va_E} {H : Heap} (hP : va_P C.1 vwCl (sgf z 340 (cfL C z cf)) H) : va_at C.1 vwCl (z + ixF 338, cel (GG C z sa) M0 338) H := by
  have h := sgf_at hP (show 338 < 340 by omega)
  obtain ⟨f, e1, e2⟩ := wd_338 C z sa cf
  rw [e1] at h
  rw [cel_12 _ _ (show kd 338 = 12 by decide)]
  exact at_I h e2
theorem wk_339 {C : Gd} {z : Nat} (sa : Nat → Nat) {cf : Nat → va_E} {H : Heap} (hP : va_P C.1 vwCl (sgf z 340 (cfL C z cf)) H) : va_at C.1 vwCl (z + ixF 339, cel (GG C z sa) M0 339) H := by
  have h := sgf_at hP (show 339 < 340 by omega)
  obtain ⟨f, e1, e2⟩ := wd_339 C z sa cf
  rw [e1] at h
  rw [cel_12 _ _ (show kd 339 = 12 by decide)]
  exact at_I h e2
theorem wk_123 {C : Gd} {z : Nat} (sa : Nat → Nat) {cf : Nat → va_E} {H : Heap} (hP : va_P C.1 vwCl (sgf z 340 (cfL C z cf)) H) : va_at C.1 vwCl (z + ixF 123, cel (GG C z sa) M0 123) H := by
  have h := sgf_at hP (show 118 < 340 by omega)
  rw [wd_123 C z sa cf] at h
  exact h
theorem wk_124 {C : Gd} {z : Nat} (sa : Nat → Nat) {cf : Nat → va_E} {H : Heap} (hP : va_P C.1 vwCl (sgf z 340 (cfL C z cf)) H) : va_at C.1 vwCl (z + ixF 124, cel (GG C z sa) M0 124) H := by
  have h := sgf_at hP (show 119 < 340 by omega)
  rw [wd_124 C z sa cf] at h
  exact h
theorem wk_125 {C : Gd} {z : Nat} (sa : Nat → Nat) {cf : Nat → va_E} {H : Heap} (hP : va_P C.1 vwCl (sgf z 340 (cfL C z cf)) H) : va_at C.1 vwCl (z + ixF 125, cel (GG C z sa) M0 125) H := by
  have h := sgf_at hP (show 120 < 340 by omega)
  obtain ⟨f, e1, e2⟩ := wd_125 C z sa cf
  rw [e1] at h
  rw [cel_15 _ _ (show kd 125 = 15 by decide)]
  exact at_Q h e2
theorem wk_186 {C : Gd} {z : Nat} (sa : Nat → Nat) {cf : Nat → va_E} {H : Heap} (hP : va_P C.1 vwCl (sgf z 340 (cfL C z cf)) H) : va_at C.1 vwCl (z + ixF 186, cel (GG C z sa) M0 186) H := by
  have h := sgf_at hP (show 183 < 340 by omega)
  rw [wd_186 C z sa cf] at h
  exact h
theorem wk_187 {C : Gd} {z : Nat} (sa : Nat → Nat) {cf : Nat → va_E} {H : Heap} (hP : va_P C.1 vwCl (sgf z 340 (cfL C z cf)) H) : va_at C.1 vwCl (z + ixF 187, cel (GG C z sa) M0 187) H := by
  have h := sgf_at hP (show 184 < 340 by omega)
  rw [wd_187 C z sa cf] at h
  exact h
theorem wk_188 {C : Gd} {z : Nat} (sa : Nat → Nat) {cf : Nat → va_E} {H : Heap} (hP : va_P C.1 vwCl (sgf z 340 (cfL C z cf)) H) : va_at C.1 vwCl (z + ixF 188, cel (GG C z sa) M0 188) H := by
  have h := sgf_at hP (show 185 < 340 by omega)
  obtain ⟨f, e1, e2⟩ := wd_188 C z sa cf
  rw [e1] at h
  rw [cel_15 _ _ (show kd 188 = 15 by decide)]
  exact at_Q h e2
theorem wk_249 {C : Gd} {z : Nat} (sa : Nat → Nat) {cf : Nat → va_E} {H : Heap} (hP : va_P C.1 vwCl (sgf z 340 (cfL C z cf)) H) : va_at C.1 vwCl (z + ixF 249, cel (GG C z sa) M0 249) H := by
  have h := sgf_at hP (show 248 < 340 by omega)
  rw [wd_249 C z sa cf] at h
  exact h
theorem wk_250 {C : Gd} {z : Nat} (sa : Nat → Nat) {cf : Nat → va_E} {H : Heap} (hP : va_P C.1 vwCl (sgf z 340 (cfL C z cf)) H) : va_at C.1 vwCl (z + ixF 250, cel (GG C z sa) M0 250) H := by
  have h := sgf_at hP (show 249 < 340 by omega)
  rw [wd_250 C z sa cf] at h
  exact h
theorem wk_251 {C : Gd} {z : Nat} (sa : Nat → Nat) {cf : Nat → va_E} {H : Heap} (hP : va_P C.1 vwCl (sgf z 340 (cfL C z cf)) H) : va_at C.1 vwCl (z + ixF 251, cel (GG C z sa) M0 251) H := by
  have h := sgf_at hP (show 250 < 340 by omega)
  obtain ⟨f, e1, e2⟩ := wd_251 C z sa cf
  rw [e1] at h
  rw [cel_15 _ _ (show kd 251 = 15 by decide)]
  exact at_Q h e2
theorem wkf_63 {C : Gd} {z : Nat} (sa : Nat → Nat) {cf : Nat → va_E} {H : Heap} (hP : va_P C.1 vwCl (sgf z 340 (cfL C z cf)) H) {d : Nat} (hd : d < 60) : va_at C.1 vwCl (z + ixF (63 + d), cel (GG C z sa) M0 (63 + d)) H := by
  have h := sgf_at hP (show 40 + d < 340 by omega)
  rw [wf_63 C z cf hd] at h
  have e1 : ixF (63 + d) = 40 + d := by unfold ixF; (repeat first | rw [if_pos (by omega)] | rw [if_neg (by omega)]); omega
  have e2 : kd (63 + d) = 2 := by unfold kd; rw [if_neg (by omega), if_pos (by omega), if_neg (by omega), if_neg (by omega)]
  rw [e1, cel_2 _ _ e2]
  have e3 : ∀ j, gi M0 (63 + d) j = 0 := fun j => by simp only [gi, M0]; rw [if_neg (by omega), if_neg (by omega), if_neg (by omega)]
  have e4 : ∀ j, gl M0 (63 + d) j = 0 := fun j => by simp only [gl, M0]; rw [if_neg (by omega)]
  simp only [e3, e4]
  exact h
theorem wkf_126 {C : Gd} {z : Nat} (sa : Nat → Nat) {cf : Nat → va_E} {H : Heap} (hP : va_P C.1 vwCl (sgf z 340 (cfL C z cf)) H) {d : Nat} (hd : d < 60) : va_at C.1 vwCl (z + ixF (126 + d), cel (GG C z sa) M0 (126 + d)) H := by
  have h := sgf_at hP (show 121 + d < 340 by omega)
  rw [wf_126 C z cf hd] at h
  have e1 : ixF (126 + d) = 121 + d := by unfold ixF; (repeat first | rw [if_pos (by omega)] | rw [if_neg (by omega)]); omega
  have e2 : kd (126 + d) = 2 := by unfold kd; rw [if_neg (by omega), if_pos (by omega), if_neg (by omega), if_neg (by omega)]
  rw [e1, cel_2 _ _ e2]
  have e3 : ∀ j, gi M0 (126 + d) j = 0 := fun j => by simp only [gi, M0]; rw [if_neg (by omega), if_neg (by omega), if_neg (by omega)]
  have e4 : ∀ j, gl M0 (126 + d) j = 0 := fun j => by simp only [gl, M0]; rw [if_neg (by omega)]
  simp only [e3, e4]
  exact h
theorem wkf_189 {C : Gd} {z : Nat} (sa : Nat → Nat) {cf : Nat → va_E} {H : Heap} (hP : va_P C.1 vwCl (sgf z 340 (cfL C z cf)) H) {d : Nat} (hd : d < 60) : va_at C.1 vwCl (z + ixF (189 + d), cel (GG C z sa) M0 (189 + d)) H := by
  have h := sgf_at hP (show 186 + d < 340 by omega)
  rw [wf_189 C z cf hd] at h
  have e1 : ixF (189 + d) = 186 + d := by unfold ixF; (repeat first | rw [if_pos (by omega)] | rw [if_neg (by omega)]); omega
  have e2 : kd (189 + d) = 2 := by unfold kd; rw [if_neg (by omega), if_pos (by omega), if_neg (by omega), if_neg (by omega)]
  rw [e1, cel_2 _ _ e2]
  have e3 : ∀ j, gi M0 (189 + d) j = 0 := fun j => by simp only [gi, M0]; rw [if_neg (by omega), if_neg (by omega), if_neg (by omega)]
  have e4 : ∀ j, gl M0 (189 + d) j = 0 := fun j => by simp only [gl, M0]; rw [if_neg (by omega)]
  simp only [e3, e4]
  exact h
theorem wkf_252 {C : Gd} {z : Nat} (sa : Nat → Nat) {cf : Nat → va_E} {H : Heap} (hP : va_P C.1 vwCl (sgf z 340 (cfL C z cf)) H) {d : Nat} (hd : d < 60) : va_at C.1 vwCl (z + ixF (252 + d), cel (GG C z sa) M0 (252 + d)) H := by
  have h := sgf_at hP (show 251 + d < 340 by omega)
  rw [wf_252 C z cf hd] at h
  have e1 : ixF (252 + d) = 251 + d := by unfold ixF; (repeat first | rw [if_pos (by omega)] | rw [if_neg (by omega)]); omega
  have e2 : kd (252 + d) = 2 := by unfold kd; rw [if_neg (by omega), if_pos (by omega), if_neg (by omega), if_neg (by omega)]
  rw [e1, cel_2 _ _ e2]
  have e3 : ∀ j, gi M0 (252 + d) j = 0 := fun j => by simp only [gi, M0]; rw [if_neg (by omega), if_neg (by omega), if_neg (by omega)]
  have e4 : ∀ j, gl M0 (252 + d) j = 0 := fun j => by simp only [gl, M0]; rw [if_neg (by omega)]
  simp only [e3, e4]
  exact h
theorem wk_all {C : Gd} {z : Nat} (sa : Nat → Nat) {cf : Nat → va_E} {H : Heap} (hP : va_P C.1 vwCl (sgf z 340 (cfL C z cf)) H) {k : Nat} (hk : k < 340) : va_at C.1 vwCl (z + ixF k, cel (GG C z sa) M0 k) H := by
  by_cases h1 : k < 63
  · match k, h1 with
    | 0, _ => exact wk_0 sa hP
    | 1, _ => exact wk_1 sa hP
    | 2, _ => exact wk_2 sa hP
    | 3, _ => exact wk_3 sa hP
    | 4, _ => exact wk_4 sa hP
    | 5, _ => exact wk_5 sa hP
    | 6, _ => exact wk_6 sa hP
    | 7, _ => exact wk_7 sa hP
    | 8, _ => exact wk_8 sa hP
    | 9, _ => exact wk_9 sa hP
    | 10, _ => exact wk_10 sa hP
    | 11, _ => exact wk_11 sa hP
    | 12, _ => exact wk_12 sa hP
    | 13, _ => exact wk_13 sa hP
    | 14, _ => exact wk_14 sa hP
    | 15, _ => exact wk_15 sa hP
    | 16, _ => exact wk_16 sa hP
    | 17, _ => exact wk_17 sa hP
    | 18, _ => exact wk_18 sa hP
    | 19, _ => exact wk_19 sa hP
    | 20, _ => exact wk_20 sa hP
    | 21, _ => exact wk_21 sa hP
    | 22, _ => exact wk_22 sa hP
    | 23, _ => exact wk_23 sa hP
    | 24, _ => exact wk_24 sa hP
    | 25, _ => exact wk_25 sa hP
    | 26, _ => exact wk_26 sa hP
    | 27, _ => exact wk_27 sa hP
    | 28, _ => exact wk_28 sa hP
    | 29, _ => exact wk_29 sa hP
    | 30, _ => exact wk_30 sa hP
    | 31, _ => exact wk_31 sa hP
    | 32, _ => exact wk_32 sa hP
    | 33, _ => exact wk_33 sa hP
    | 34, _ => exact wk_34 sa hP
    | 35, _ => exact wk_35 sa hP
    | 36, _ => exact wk_36 sa hP
    | 37, _ => exact wk_37 sa hP
    | 38, _ => exact wk_38 sa hP
    | 39, _ => exact wk_39 sa hP
    | 40, _ => exact wk_40 sa hP
    | 41, _ => exact wk_41 sa hP
    | 42, _ => exact wk_42 sa hP
    | 43, _ => exact wk_43 sa hP
    | 44, _ => exact wk_44 sa hP
    | 45, _ => exact wk_45 sa hP
    | 46, _ => exact wk_46 sa hP
    | 47, _ => exact wk_47 sa hP
    | 48, _ => exact wk_48 sa hP
    | 49, _ => exact wk_49 sa hP
    | 50, _ => exact wk_50 sa hP
    | 51, _ => exact wk_51 sa hP
    | 52, _ => exact wk_52 sa hP
    | 53, _ => exact wk_53 sa hP
    | 54, _ => exact wk_54 sa hP
    | 55, _ => exact wk_55 sa hP
    | 56, _ => exact wk_56 sa hP
    | 57, _ => exact wk_57 sa hP
    | 58, _ => exact wk_58 sa hP
    | 59, _ => exact wk_59 sa hP
    | 60, _ => exact wk_60 sa hP
    | 61, _ => exact wk_61 sa hP
    | 62, _ => exact wk_62 sa hP
    | n + 63, h => omega
  · by_cases h2 : 312 ≤ k
    · obtain ⟨j, rfl⟩ : ∃ j, k = 312 + j := ⟨k - 312, by omega⟩
      have hj : j < 28 := by omega
      match j, hj with
      | 0, _ => exact wk_312 sa hP
      | 1, _ => exact wk_313 sa hP
      | 2, _ => exact wk_314 sa hP
      | 3, _ => exact wk_315 sa hP
      | 4, _ => exact wk_316 sa hP
      | 5, _ => exact wk_317 sa hP
      | 6, _ => exact wk_318 sa hP
      | 7, _ => exact wk_319 sa hP
      | 8, _ => exact wk_320 sa hP
      | 9, _ => exact wk_321 sa hP
      | 10, _ => exact wk_322 sa hP
      | 11, _ => exact wk_323 sa hP
      | 12, _ => exact wk_324 sa hP
      | 13, _ => exact wk_325 sa hP
      | 14, _ => exact wk_326 sa hP
      | 15, _ => exact wk_327 sa hP
      | 16, _ => exact wk_328 sa hP
      | 17, _ => exact wk_329 sa hP
      | 18, _ => exact wk_330 sa hP
      | 19, _ => exact wk_331 sa hP
      | 20, _ => exact wk_332 sa hP
      | 21, _ => exact wk_333 sa hP
      | 22, _ => exact wk_334 sa hP
      | 23, _ => exact wk_335 sa hP
      | 24, _ => exact wk_336 sa hP
      | 25, _ => exact wk_337 sa hP
      | 26, _ => exact wk_338 sa hP
      | 27, _ => exact wk_339 sa hP
      | n + 28, h => omega
    · by_cases h3 : k < 123
      · obtain ⟨d, rfl⟩ : ∃ d, k = 63 + d := ⟨k - 63, by omega⟩
        exact wkf_63 sa hP (by omega)
      · by_cases g0 : k < 186
        · by_cases e0 : k = 123
          · subst e0; exact wk_123 sa hP
          · by_cases e1 : k = 124
            · subst e1; exact wk_124 sa hP
            · by_cases e2 : k = 125
              · subst e2; exact wk_125 sa hP
              · obtain ⟨d, rfl⟩ : ∃ d, k = 126 + d := ⟨k - 126, by omega⟩
                exact wkf_126 sa hP (by omega)
        · by_cases g1 : k < 249
          · by_cases e0 : k = 186
            · subst e0; exact wk_186 sa hP
            · by_cases e1 : k = 187
              · subst e1; exact wk_187 sa hP
              · by_cases e2 : k = 188
                · subst e2; exact wk_188 sa hP
                · obtain ⟨d, rfl⟩ : ∃ d, k = 189 + d := ⟨k - 189, by omega⟩
                  exact wkf_189 sa hP (by omega)
          · by_cases e0 : k = 249
            · subst e0; exact wk_249 sa hP
            · by_cases e1 : k = 250
              · subst e1; exact wk_250 sa hP
              · by_cases e2 : k = 251
                · subst e2; exact wk_251 sa hP
                · obtain ⟨d, rfl⟩ : ∃ d, k = 252 + d := ⟨k - 252, by omega⟩
                  exact wkf_252 sa hP (by omega)
theorem world_ok {C : Gd} {z : Nat} (sa : Nat → Nat) {cf : Nat → va_E} {H : Heap} (hP : va_P C.1 vwCl (sgf z 340 (cfL C z cf)) H) : va_P (GG C z sa).1 vwCl (cells (GG C z sa) M0) H := by
  intro k q hk
  by_cases h : k < 340
  · rw [cells_get _ _ h] at hk
    cases hk
    exact wk_all sa hP h
  · rw [cells_none _ _ h] at hk; cases hk
theorem GG_Aj (C : Gd) (z : Nat) (sa : Nat → Nat) : Aj (GG C z sa) := by
  intro i j hi hj e
  have e : z + ixF i = z + ixF j := e
  exact ixF_inj hi hj (by omega)
