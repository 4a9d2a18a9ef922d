/-! plans: n arms, sets below 2 ^ n; tg the wanted arm, 9 for none; r the seasons that are left -/
def hsv (C : Nat → Nat → Nat) (F : Nat → Nat) (s : Nat) : Nat := hv C (ssF C s F (C 0 0))
def nx (C : Nat → Nat → Nat) (F : Nat → Nat) (s : Nat) : Nat → Nat := gob C (ssF C s F (C 0 0))
def sc (C : Nat → Nat → Nat) (F : Nat → Nat) (s : Nat) : Nat := cnt (ssD C s F (C 0 0)) 5
def wn (C : Nat → Nat → Nat) (tg r : Nat) (F : Nat → Nat) (s : Nat) : Nat := if tg = 9 then cnt (hsv C F s) 5 else if r = 0 then hsv C F s / 2 ^ tg % 2 else 0
abbrev Bst := Nat × Nat × (Nat → Nat)
abbrev bt (w st : Nat) (b : Bst) : Prop := b.1 < w ∨ (b.1 = w ∧ st < b.2.1)
abbrev gq2 (b' b : Bst) : Prop := b.1 < b'.1 ∨ (b.1 = b'.1 ∧ b'.2.1 ≤ b.2.1)
def fb (g : Nat → Bst → Bst) : Nat → Bst → Bst
  | 0, b => b
  | m + 1, b => g m (fb g m b)
def br (C : Nat → Nat → Nat) (tg : Nat) : Nat → Nat → (Nat → Nat) → Nat → Nat → (Nat → Nat) → Bst → Bst
  | 0, _, _, w, st, pl, b => if bt w st b then (w, st, pl) else b
  | r + 1, k, F, w, st, pl, b => fb (fun s b => br C tg r (k + 1) (nx C F s) (w + wn C tg r F s) (st + sc C F s) (up pl k s) b) (2 ^ C 0 0) b
/-- nothing behind here is better than b -/
def NB (C : Nat → Nat → Nat) (tg : Nat) : Nat → (Nat → Nat) → Nat → Nat → Bst → Prop
  | 0, _, w, st, b => ¬ bt w st b
  | r + 1, F, w, st, b => ∀ s, s < 2 ^ C 0 0 → NB C tg r (nx C F s) (w + wn C tg r F s) (st + sc C F s) b
theorem NB_mo {C : Nat → Nat → Nat} {tg : Nat} : ∀ r F w st b b', gq2 b' b → NB C tg r F w st b → NB C tg r F w st b' := by
  intro r
  induction r with
  | zero =>
    intro F w st b b' hg h
    have h : ¬ bt w st b := h
    show ¬ bt w st b'
    unfold bt gq2 at *
    omega
  | succ r ih => intro F w st b b' hg h s hs; exact ih _ _ _ b b' hg (h s hs)
theorem NB_br {C : Nat → Nat → Nat} {tg : Nat} : ∀ r k F w st pl b, NB C tg r F w st b → br C tg r k F w st pl b = b := by
  intro r
  induction r with
  | zero => intro k F w st pl b h; exact if_neg h
  | succ r ih =>
    intro k F w st pl b h
    have : ∀ m, m ≤ 2 ^ C 0 0 → fb (fun s b => br C tg r (k + 1) (nx C F s) (w + wn C tg r F s) (st + sc C F s) (up pl k s) b) m b = b := by
      intro m
      induction m with
      | zero => intro _; rfl
      | succ m ihm =>
        intro hm
        show br C tg r (k + 1) (nx C F m) (w + wn C tg r F m) (st + sc C F m) (up pl k m) (fb _ m b) = b
        rw [ihm (by omega)]
        exact ih _ _ _ _ _ _ (h m (by omega))
    exact this _ (Nat.le_refl _)
theorem br_ge {C : Nat → Nat → Nat} {tg : Nat} : ∀ r k F w st pl b, gq2 (br C tg r k F w st pl b) b ∧ NB C tg r F w st (br C tg r k F w st pl b) := by
  intro r
  induction r with
  | zero =>
    intro k F w st pl b
    show gq2 (if bt w st b then (w, st, pl) else b) b ∧ ¬ bt w st (if bt w st b then (w, st, pl) else b)
    by_cases c : bt w st b
    · rw [if_pos c]
      unfold bt gq2 at *
      dsimp only
      omega
    · rw [if_neg c]
      exact ⟨Or.inr ⟨rfl, Nat.le_refl _⟩, c⟩
  | succ r ih =>
    intro k F w st pl b
    have : ∀ m, m ≤ 2 ^ C 0 0 → gq2 (fb (fun s b => br C tg r (k + 1) (nx C F s) (w + wn C tg r F s) (st + sc C F s) (up pl k s) b) m b) b ∧ ∀ s, s < m → NB C tg r (nx C F s) (w + wn C tg r F s) (st + sc C F s) (fb (fun s b => br C tg r (k + 1) (nx C F s) (w + wn C tg r F s) (st + sc C F s) (up pl k s) b) m b) := by
      intro m
      induction m with
      | zero => intro _; exact ⟨Or.inr ⟨rfl, Nat.le_refl _⟩, fun s hs => by omega⟩
      | succ m ihm =>
        intro hm
        obtain ⟨h1, h2⟩ := ihm (by omega)
        obtain ⟨g1, g2⟩ := ih (k + 1) (nx C F m) (w + wn C tg r F m) (st + sc C F m) (up pl k m) (fb (fun s b => br C tg r (k + 1) (nx C F s) (w + wn C tg r F s) (st + sc C F s) (up pl k s) b) m b)
        refine ⟨?_, fun s hs => ?_⟩
        · show gq2 (br C tg r (k + 1) (nx C F m) (w + wn C tg r F m) (st + sc C F m) (up pl k m) (fb _ m b)) b
          unfold gq2 at *
          omega
        · show NB C tg r (nx C F s) (w + wn C tg r F s) (st + sc C F s) (br C tg r (k + 1) (nx C F m) (w + wn C tg r F m) (st + sc C F m) (up pl k m) (fb _ m b))
          by_cases c : s = m
          · subst c; exact g2
          · exact NB_mo _ _ _ _ _ _ g1 (h2 s (by omega))
    exact ⟨(this _ (Nat.le_refl _)).1, (this _ (Nat.le_refl _)).2⟩
theorem fb_NB {C : Nat → Nat → Nat} {tg r k : Nat} {F : Nat → Nat} {w st : Nat} {pl : Nat → Nat} {b : Bst} : ∀ m, ∀ s, s < m → NB C tg r (nx C F s) (w + wn C tg r F s) (st + sc C F s) (fb (fun s b => br C tg r (k + 1) (nx C F s) (w + wn C tg r F s) (st + sc C F s) (up pl k s) b) m b) := by
  intro m
  induction m with
  | zero => intro s hs; omega
  | succ m ih =>
    intro s hs
    obtain ⟨g1, g2⟩ := br_ge (C := C) (tg := tg) r (k + 1) (nx C F m) (w + wn C tg r F m) (st + sc C F m) (up pl k m) (fb (fun s b => br C tg r (k + 1) (nx C F s) (w + wn C tg r F s) (st + sc C F s) (up pl k s) b) m b)
    show NB C tg r (nx C F s) (w + wn C tg r F s) (st + sc C F s) (br C tg r (k + 1) (nx C F m) (w + wn C tg r F m) (st + sc C F m) (up pl k m) (fb _ m b))
    by_cases c : s = m
    · subst c; exact g2
    · exact NB_mo _ _ _ _ _ _ g1 (ih s (by omega))
theorem br_pos {C : Nat → Nat → Nat} {tg : Nat} : ∀ r F w st b, NB C tg r F w st b → w ≤ b.1 := by
  intro r
  induction r with
  | zero =>
    intro F w st b h
    have h : ¬ bt w st b := h
    unfold bt at h
    omega
  | succ r ih =>
    intro F w st b h
    have := ih _ _ _ _ (h 0 (Nat.two_pow_pos _))
    omega
/-! a set of which not all can be stamped -/
def cnd (C : Nat → Nat → Nat) (s : Nat) (F : Nat → Nat) (i : Nat) : Nat := if s / 2 ^ i % 2 = 1 ∧ may C (ssF C s F i) i = 1 then 1 else 0
theorem cnd_le (C : Nat → Nat → Nat) (s : Nat) (F : Nat → Nat) (i : Nat) : cnd C s F i ≤ 1 := by unfold cnd; split <;> omega
theorem ssD_ps (C : Nat → Nat → Nat) (s : Nat) (F : Nat → Nat) : ∀ m, ssD C s F m = ps (cnd C s F) 0 m := by
  intro m
  induction m with
  | zero => rfl
  | succ m ih =>
    show ssD C s F m + _ = ps (cnd C s F) 0 m + cnd C s F (0 + m) * 2 ^ m
    rw [ih, Nat.zero_add]
    rfl
theorem ssD_bit {C : Nat → Nat → Nat} {s : Nat} {F : Nat → Nat} {n j : Nat} (hn : n ≤ 5) (hj : j < 5) : ssD C s F n / 2 ^ j % 2 = if j < n then cnd C s F j else 0 := by
  rw [ssD_ps, ps_bit (fun i => cnd_le C s F i) n hn j hj]
theorem ssF_D {C : Nat → Nat → Nat} {s : Nat} {F : Nat → Nat} {n : Nat} (hn : n ≤ 5) : ∀ m, m ≤ n → ssF C (ssD C s F n) F m = ssF C s F m := by
  intro m
  induction m with
  | zero => intro _; rfl
  | succ m ih =>
    intro hm
    have ih := ih (by omega)
    show (if ssD C s F n / 2 ^ m % 2 = 1 ∧ may C (ssF C (ssD C s F n) F m) m = 1 then stp C (ssF C (ssD C s F n) F m) m else ssF C (ssD C s F n) F m) = (if s / 2 ^ m % 2 = 1 ∧ may C (ssF C s F m) m = 1 then stp C (ssF C s F m) m else ssF C s F m)
    rw [ih, ssD_bit hn (by omega), if_pos (show m < n by omega)]
    unfold cnd
    by_cases c : s / 2 ^ m % 2 = 1 ∧ may C (ssF C s F m) m = 1
    · rw [if_pos c, if_pos c, if_pos ⟨rfl, c.2⟩]
    · rw [if_neg c, if_neg c, if_neg (fun w => absurd w.1 (by omega))]
theorem ssD_D {C : Nat → Nat → Nat} {s : Nat} {F : Nat → Nat} {n : Nat} (hn : n ≤ 5) : ssD C (ssD C s F n) F n = ssD C s F n := by
  have l1 := lt_32 (ssD_lt (C := C) (F := F) (s := ssD C s F n) n hn) hn
  have l2 := lt_32 (ssD_lt (C := C) (F := F) (s := s) n hn) hn
  refine bits_ext l1 l2 (fun j hj => ?_)
  rw [ssD_bit hn hj, ssD_bit hn hj]
  by_cases c : j < n
  · rw [if_pos c, if_pos c]
    show (if ssD C s F n / 2 ^ j % 2 = 1 ∧ may C (ssF C (ssD C s F n) F j) j = 1 then 1 else 0) = _
    rw [ssF_D hn j (by omega), ssD_bit hn hj, if_pos c]
    unfold cnd
    by_cases d : s / 2 ^ j % 2 = 1 ∧ may C (ssF C s F j) j = 1
    · rw [if_pos d, if_pos ⟨rfl, d.2⟩]
    · rw [if_neg d, if_neg (fun w => absurd w.1 (by omega))]
  · rw [if_neg c, if_neg c]
theorem sub_le : ∀ a, a < 32 → ∀ b, b < 32 → (∀ j, j < 5 → a / 2 ^ j % 2 ≤ b / 2 ^ j % 2) → a ≤ b ∧ cnt a 5 ≤ cnt b 5 := by decide +kernel
theorem ssD_le {C : Nat → Nat → Nat} {s : Nat} {F : Nat → Nat} {n : Nat} (hn : n ≤ 5) (hs : s < 32) : ssD C s F n ≤ s := by
  refine (sub_le _ (lt_32 (ssD_lt n hn) hn) _ hs (fun j hj => ?_)).1
  rw [ssD_bit hn hj]
  unfold cnd
  split
  · split <;> omega
  · omega
/-- such a set came before -/
theorem skipD {C : Nat → Nat → Nat} (hC : OkC C) {tg r k : Nat} {F : Nat → Nat} {w st : Nat} {pl : Nat → Nat} {b : Bst} {s : Nat} (hs : s < 32) (h : ssD C s F (C 0 0) ≠ s) : br C tg r (k + 1) (nx C F s) (w + wn C tg r F s) (st + sc C F s) (up pl k s) (fb (fun s b => br C tg r (k + 1) (nx C F s) (w + wn C tg r F s) (st + sc C F s) (up pl k s) b) s b) = fb (fun s b => br C tg r (k + 1) (nx C F s) (w + wn C tg r F s) (st + sc C F s) (up pl k s) b) s b := by
  have hn := hC.1
  have le := ssD_le (C := C) (F := F) hn hs
  have := fb_NB (C := C) (tg := tg) (r := r) (k := k) (F := F) (w := w) (st := st) (pl := pl) (b := b) s (ssD C s F (C 0 0)) (by omega)
  refine NB_br _ _ _ _ _ _ _ ?_
  have e1 : nx C F (ssD C s F (C 0 0)) = nx C F s := by unfold nx; rw [ssF_D hn _ (Nat.le_refl _)]
  have e2 : wn C tg r F (ssD C s F (C 0 0)) = wn C tg r F s := by
    have e0 : hsv C F (ssD C s F (C 0 0)) = hsv C F s := by unfold hsv; rw [ssF_D hn _ (Nat.le_refl _)]
    unfold wn; rw [e0]
  have e3 : sc C F (ssD C s F (C 0 0)) = sc C F s := by unfold sc; rw [ssD_D hn]
  rw [e1, e2, e3] at this
  exact this
/-! what may be hoped for -/
def lv (C : Nat → Nat → Nat) (F : Nat → Nat) : Nat := C 0 0 - cnt (mk F 25) 5
def ms (C : Nat → Nat → Nat) (tg : Nat) : Nat → Nat
  | 0 => 0
  | s + 1 => mxn (ms C tg s) (if tg = 9 then cnt (srv C s (C 0 0)) 5 else srv C s (C 0 0) / 2 ^ tg % 2)
def mnn (a b : Nat) : Nat := if a < b then a else b
def hp (C : Nat → Nat → Nat) (tg r : Nat) (F : Nat → Nat) : Nat := if tg = 9 then r * mnn (ms C tg (2 ^ C 0 0)) (lv C F) else if 0 < r ∧ F (25 + tg) = 0 then ms C tg (2 ^ C 0 0) else 0
theorem ms_ge (C : Nat → Nat → Nat) (tg : Nat) : ∀ m s, s < m → (if tg = 9 then cnt (srv C s (C 0 0)) 5 else srv C s (C 0 0) / 2 ^ tg % 2) ≤ ms C tg m := by
  intro m
  induction m with
  | zero => intro s hs; omega
  | succ m ih =>
    intro s hs
    show _ ≤ mxn (ms C tg m) _
    by_cases c : s = m
    · subst c; exact mxn_r _ _
    · exact Nat.le_trans (ih s (by omega)) (mxn_l _ _)
theorem ms_le (C : Nat → Nat → Nat) (tg : Nat) : ∀ m, ms C tg m ≤ 5 := by
  intro m
  induction m with
  | zero => exact Nat.zero_le _
  | succ m ih =>
    show mxn (ms C tg m) (if tg = 9 then cnt (srv C m (C 0 0)) 5 else srv C m (C 0 0) / 2 ^ tg % 2) ≤ 5
    have h2 : (if tg = 9 then cnt (srv C m (C 0 0)) 5 else srv C m (C 0 0) / 2 ^ tg % 2) ≤ 5 := by
      split
      · exact cnt_5 _
      · omega
    rcases mxn_c (ms C tg m) (if tg = 9 then cnt (srv C m (C 0 0)) 5 else srv C m (C 0 0) / 2 ^ tg % 2) with e | e <;> rw [e]
    · exact ih
    · exact h2
theorem dis_n : ∀ n, n ≤ 5 → ∀ a, a < 2 ^ n → ∀ b, b < 2 ^ n → (∀ j, j < 5 → a / 2 ^ j % 2 + b / 2 ^ j % 2 ≤ 1) → cnt a 5 + cnt b 5 ≤ n := by decide +kernel
theorem top_n : ∀ n, n ≤ 5 → ∀ a, a < 32 → (∀ j, j < 5 → n ≤ j → a / 2 ^ j % 2 = 0) → a < 2 ^ n := by decide +kernel
theorem dead_n {C : Nat → Nat → Nat} {F : Nat → Nat} (hC : OkC C) (hO : OkF (C 0 0) F) : mk F 25 < 2 ^ C 0 0 ∧ mk F 0 < 2 ^ C 0 0 := by
  have h1 : ∀ i, i < 5 → F (25 + i) ≤ 1 := fun i hi => (hO.1 i hi).2.2.2.2.2
  have h2 : ∀ i, i < 5 → F (0 + i) ≤ 1 := fun i hi => by rw [Nat.zero_add]; exact (hO.1 i hi).1
  refine ⟨top_n _ hC.1 _ (mk_lt h1) (fun j hj hn => ?_), top_n _ hC.1 _ (mk_lt h2) (fun j hj hn => ?_)⟩
  · rw [mk_bit h1 hj]; exact (hO.2.2 j hn hj).2.2.2.2.2
  · rw [mk_bit h2 hj, Nat.zero_add]; exact (hO.2.2 j hn hj).1
theorem hv_b {C : Nat → Nat → Nat} {F : Nat → Nat} (hC : OkC C) (hO : OkF (C 0 0) F) : hv C F < 2 ^ C 0 0 ∧ cnt (hv C F) 5 ≤ lv C F ∧ cnt (hv C F) 5 ≤ cnt (srv C (mk F 0) (C 0 0)) 5 ∧ (∀ j, j < C 0 0 → hv C F / 2 ^ j % 2 ≤ srv C (mk F 0) (C 0 0) / 2 ^ j % 2 ∧ (F (25 + j) = 1 → hv C F / 2 ^ j % 2 = 0)) := by
  have hn := hC.1
  have h1 : ∀ i, i < 5 → F (25 + i) ≤ 1 := fun i hi => (hO.1 i hi).2.2.2.2.2
  have l := hv_lt hC F
  have bt : ∀ j, j < 5 → hv C F / 2 ^ j % 2 = if j < C 0 0 then hb C F (mk F 0) j else 0 := by
    intro j hj
    show ps (hb C F (mk F 0)) 0 (C 0 0) / 2 ^ j % 2 = _
    rw [ps_bit (fun i => hb_le C F (mk F 0) i) _ hn j hj]
  have pj : ∀ j, j < C 0 0 → hv C F / 2 ^ j % 2 ≤ srv C (mk F 0) (C 0 0) / 2 ^ j % 2 ∧ (F (25 + j) = 1 → hv C F / 2 ^ j % 2 = 0) := by
    intro j hj
    rw [hv_bit hC F hj, srv_bit hC _ hj]
    unfold hb en
    refine ⟨?_, fun w => ?_⟩
    · by_cases c : wat C (mk F 0) j < C 3 j
      · rw [if_pos (Or.inl c), if_pos c]; exact Nat.le_refl _
      · rw [if_neg c]; split <;> omega
    · rw [if_pos (Or.inr (Or.inl w))]
  have ln : hv C F < 2 ^ C 0 0 := top_n _ hn _ l (fun j hj h => by rw [bt j hj, if_neg (by omega)])
  refine ⟨ln, ?_, ?_, pj⟩
  · have := dis_n _ hn _ ln _ (dead_n hC hO).1 (fun j hj => by
      rw [mk_bit h1 hj]
      have := h1 j hj
      by_cases c : j < C 0 0
      · have := (pj j c).2
        have : hv C F / 2 ^ j % 2 ≤ 1 := by omega
        omega
      · rw [bt j hj, if_neg c]; omega)
    unfold lv
    omega
  · refine (sub_le _ l _ (srv_lt hC _) (fun j hj => ?_)).2
    by_cases c : j < C 0 0
    · exact (pj j c).1
    · rw [bt j hj, if_neg c]; omega
theorem stp_25 {C : Nat → Nat → Nat} {F : Nat → Nat} {i j : Nat} (hi : i < 5) : stp C F i (25 + j) = F (25 + j) := by
  unfold stp
  split
  · rw [up_ne (by omega), up_ne (by omega)]
  · rw [up_ne (by omega)]
theorem ss_25 {C : Nat → Nat → Nat} {F : Nat → Nat} {s j : Nat} : ∀ m, m ≤ 5 → ssF C s F m (25 + j) = F (25 + j) := by
  intro m
  induction m with
  | zero => intro _; rfl
  | succ m ih =>
    intro hm
    show (if s / 2 ^ m % 2 = 1 ∧ may C (ssF C s F m) m = 1 then stp C (ssF C s F m) m else ssF C s F m) (25 + j) = _
    split
    · rw [stp_25 (by omega), ih (by omega)]
    · exact ih (by omega)
theorem lv_go {C : Nat → Nat → Nat} {F : Nat → Nat} (hC : OkC C) (hO : OkF (C 0 0) F) (hO2 : OkF (C 0 0) (gob C F)) : lv C (gob C F) ≤ lv C F := by
  have h1 : ∀ i, i < 5 → F (25 + i) ≤ 1 := fun i hi => (hO.1 i hi).2.2.2.2.2
  have h2 : ∀ i, i < 5 → gob C F (25 + i) ≤ 1 := fun i hi => (hO2.1 i hi).2.2.2.2.2
  have := (sub_le _ (mk_lt h1) _ (mk_lt h2) (fun j hj => by
    rw [mk_bit h1 hj, mk_bit h2 hj]
    have := h1 j hj
    rcases gob_25 (F := F) hC hj with e | e <;> omega)).2
  unfold lv
  omega
theorem lv_ss {C : Nat → Nat → Nat} {F : Nat → Nat} {s : Nat} (hC : OkC C) : lv C (ssF C s F (C 0 0)) = lv C F := by
  have hn := hC.1
  unfold lv mk
  have e : ∀ j, ssF C s F (C 0 0) (25 + j) = F (25 + j) := fun j => ss_25 _ hn
  have e0 : ssF C s F (C 0 0) 25 = F 25 := e 0
  rw [e0, e 1, e 2, e 3, e 4]
theorem mnn_l (a b : Nat) : mnn a b ≤ a ∧ mnn a b ≤ b := by unfold mnn; split <;> omega
theorem mnn_g {a b x : Nat} (h1 : x ≤ a) (h2 : x ≤ b) : x ≤ mnn a b := by unfold mnn; split <;> omega
/-- a season brings no more than is hoped, and hope grows less -/
theorem hp_st {C : Nat → Nat → Nat} {F : Nat → Nat} {tg r s : Nat} (hC : OkC C) (hO : OkF (C 0 0) F) (h30 : F 30 < 150) (htg : tg = 9 ∨ tg < C 0 0) : wn C tg r F s + hp C tg r (nx C F s) ≤ hp C tg (r + 1) F := by
  have hn := hC.1
  have q := hO.ss (s := s) hC (C 0 0) (Nat.le_refl _)
  have q2 := q.1.go hC (by rw [q.2]; exact h30)
  obtain ⟨v1, v2, v3, v4⟩ := hv_b hC q.1
  have dn := (dead_n hC q.1).2
  have mg2 := ms_ge C tg (2 ^ C 0 0) _ dn
  have l1 := lv_go hC q.1 q2
  rw [lv_ss hC] at l1 v2
  unfold hp wn
  by_cases c : tg = 9
  · rw [if_pos c, if_pos c, if_pos c]
    rw [if_pos c] at mg2
    have a1 : cnt (hsv C F s) 5 ≤ mnn (ms C tg (2 ^ C 0 0)) (lv C F) := mnn_g (Nat.le_trans v3 mg2) v2
    have a2 : mnn (ms C tg (2 ^ C 0 0)) (lv C (nx C F s)) ≤ mnn (ms C tg (2 ^ C 0 0)) (lv C F) := mnn_g (mnn_l _ _).1 (Nat.le_trans (mnn_l _ _).2 l1)
    have a3 := Nat.mul_le_mul_left r a2
    rw [Nat.succ_mul]
    omega
  · have c2 : tg < C 0 0 := by omega
    rw [if_neg c, if_neg c, if_neg c]
    rw [if_neg c] at mg2
    have d1 : ssF C s F (C 0 0) (25 + tg) = F (25 + tg) := ss_25 _ hn
    have d2 := gob_25 (F := ssF C s F (C 0 0)) hC (show tg < 5 by omega)
    have d3 : nx C F s (25 + tg) = gob C (ssF C s F (C 0 0)) (25 + tg) := rfl
    have b1 := (hO.1 tg (by omega)).2.2.2.2.2
    obtain ⟨v5, v6⟩ := v4 tg c2
    rw [d1] at v6
    have v5 : hsv C F s / 2 ^ tg % 2 ≤ _ := v5
    have v6 : F (25 + tg) = 1 → hsv C F s / 2 ^ tg % 2 = 0 := v6
    by_cases z : F (25 + tg) = 0
    · rw [if_pos (show 0 < r + 1 ∧ F (25 + tg) = 0 from ⟨by omega, z⟩)]
      by_cases y : r = 0
      · rw [if_pos y, if_neg (show ¬ (0 < r ∧ nx C F s (25 + tg) = 0) by omega)]
        omega
      · rw [if_neg y]
        split <;> omega
    · rw [if_neg (show ¬ (0 < r + 1 ∧ F (25 + tg) = 0) by omega)]
      have z1 : F (25 + tg) = 1 := by omega
      rw [if_neg (show ¬ (0 < r ∧ nx C F s (25 + tg) = 0) by omega)]
      rw [v6 z1, ite_self]
      omega
theorem NB_hp {C : Nat → Nat → Nat} {tg : Nat} (hC : OkC C) (htg : tg = 9 ∨ tg < C 0 0) : ∀ r F w st b H, OkF (C 0 0) F → F 30 + r < 150 → hp C tg r F ≤ H → ¬ bt (w + H) st b → NB C tg r F w st b := by
  intro r
  induction r with
  | zero =>
    intro F w st b H hO h30 hH h
    show ¬ bt w st b
    unfold bt at *
    omega
  | succ r ih =>
    intro F w st b H hO h30 hH h s hs
    have q := hO.ss (s := s) hC (C 0 0) (Nat.le_refl _)
    have q2 := q.1.go hC (by rw [q.2]; omega)
    have st1 := hp_st (r := r) (s := s) hC hO (by omega) htg
    refine ih _ _ _ _ (hp C tg r (nx C F s)) q2 ?_ (Nat.le_refl _) ?_
    · show gob C (ssF C s F (C 0 0)) 30 + r < 150
      rw [gob_30, q.2]; omega
    · unfold bt at *
      omega
/-- nor such as can't win -/
theorem skipH {C : Nat → Nat → Nat} (hC : OkC C) {tg r k : Nat} (htg : tg = 9 ∨ tg < C 0 0) {F : Nat → Nat} {w st : Nat} {pl : Nat → Nat} {b : Bst} {s : Nat} (hO : OkF (C 0 0) F) (h30 : F 30 + r < 149) (h : ¬ bt (w + wn C tg r F s + hp C tg r (ssF C s F (C 0 0))) (st + sc C F s) b) : br C tg r (k + 1) (nx C F s) (w + wn C tg r F s) (st + sc C F s) (up pl k s) b = b := by
  have q := hO.ss (s := s) hC (C 0 0) (Nat.le_refl _)
  have q2 := q.1.go hC (by rw [q.2]; omega)
  refine NB_br _ _ _ _ _ _ _ (NB_hp hC htg r (nx C F s) _ _ b (hp C tg r (ssF C s F (C 0 0))) q2 ?_ ?_ h)
  · show gob C (ssF C s F (C 0 0)) 30 + r < 150
    rw [gob_30, q.2]; omega
  · have l1 := lv_go hC q.1 q2
    unfold hp
    by_cases c : tg = 9
    · rw [if_pos c, if_pos c]
      exact Nat.mul_le_mul_left r (mnn_g (mnn_l _ _).1 (Nat.le_trans (mnn_l _ _).2 l1))
    · have c2 : tg < C 0 0 := by omega
      rw [if_neg c, if_neg c]
      have d2 := gob_25 (F := ssF C s F (C 0 0)) hC (show tg < 5 by have := hC.1; omega)
      have d3 : nx C F s (25 + tg) = gob C (ssF C s F (C 0 0)) (25 + tg) := rfl
      have b1 := (q.1.1 tg (by have := hC.1; omega)).2.2.2.2.2
      by_cases z : 0 < r ∧ nx C F s (25 + tg) = 0
      · rw [if_pos z, if_pos (by omega)]; exact Nat.le_refl _
      · rw [if_neg z]; exact Nat.zero_le _
/-! bounds -/
def GB (tg : Nat) (b : Bst) : Prop := b.1 ≤ 60 ∧ b.2.1 ≤ 60 ∧ (b.1 = 0 → b.2.1 = 0) ∧ (tg ≠ 9 → b.1 ≤ 1)
def GW (tg r w st : Nat) : Prop := w + 6 * r ≤ 60 ∧ st + 6 * r ≤ 60 ∧ (tg ≠ 9 → w ≤ 1 ∧ (0 < r → w = 0))
theorem GW.nx {C : Nat → Nat → Nat} {tg r w st : Nat} {F : Nat → Nat} (h : GW tg (r + 1) w st) (s : Nat) : GW tg r (w + wn C tg r F s) (st + sc C F s) := by
  obtain ⟨h1, h2, h3⟩ := h
  have c1 := cnt_5 (hsv C F s)
  have c2 := cnt_5 (ssD C s F (C 0 0))
  have e2 : sc C F s ≤ 5 := c2
  have e1 : wn C tg r F s ≤ 5 ∧ (tg ≠ 9 → wn C tg r F s ≤ 1 ∧ (0 < r → wn C tg r F s = 0)) := by
    unfold wn
    split
    · exact ⟨c1, fun w => absurd (by assumption) w⟩
    · split
      · exact ⟨by omega, fun _ => ⟨by omega, by omega⟩⟩
      · exact ⟨by omega, fun _ => ⟨by omega, fun _ => rfl⟩⟩
  refine ⟨by omega, by omega, fun ht => ?_⟩
  have := h3 ht
  have := e1.2 ht
  omega
theorem GB_br {C : Nat → Nat → Nat} {tg : Nat} : ∀ r k F w st pl b, GB tg b → GW tg r w st → GB tg (br C tg r k F w st pl b) := by
  intro r
  induction r with
  | zero =>
    intro k F w st pl b h hw
    show GB tg (if bt w st b then (w, st, pl) else b)
    split
    · rename_i c
      obtain ⟨h1, h2, h3, h4⟩ := h
      obtain ⟨w1, w2, w3⟩ := hw
      unfold bt at c
      refine ⟨by dsimp only; omega, by dsimp only; omega, fun e => ?_, fun ht => (w3 ht).1⟩
      dsimp only at e ⊢
      have := h3
      omega
    · exact h
  | succ r ih =>
    intro k F w st pl b h hw
    have : ∀ m, GB tg (fb (fun s b => br C tg r (k + 1) (nx C F s) (w + wn C tg r F s) (st + sc C F s) (up pl k s) b) m b) := by
      intro m
      induction m with
      | zero => exact h
      | succ m ihm => exact ih _ _ _ _ _ _ ihm (hw.nx m)
    exact this _
theorem GB_fb {C : Nat → Nat → Nat} {tg r k : Nat} {F : Nat → Nat} {w st : Nat} {pl : Nat → Nat} {b : Bst} (h : GB tg b) (hw : GW tg (r + 1) w st) : ∀ m, GB tg (fb (fun s b => br C tg r (k + 1) (nx C F s) (w + wn C tg r F s) (st + sc C F s) (up pl k s) b) m b) := by
  intro m
  induction m with
  | zero => exact h
  | succ m ihm => exact GB_br _ _ _ _ _ _ _ ihm (hw.nx m)
