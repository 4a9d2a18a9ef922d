theorem vr_outer (c : ClassId) (N h0 : Nat) : ∀ i : Nat, Jvm.Free.Multi.outerC c N h0 i = arrV c N (fun j => va_rf (if j < i then some (h0 + 1 + j) else none))
  | 0 => by
    show ({ cls := c, slots := Array.replicate N .null, vm := .none } : Cell) = _
    rw [arrV_new]
    refine congrArg (arrV c N) (funext fun j => ?_)
    simp [va_rf]
  | i + 1 => by
    show (Jvm.Free.Multi.outerC c N h0 i).setSlot i (.ref (h0 + 1 + i)) = _
    rw [vr_outer c N h0 i, arrV_store]
    refine congrArg (arrV c N) (funext fun j => ?_)
    by_cases e : j = i
    · subst e
      simp [updV, va_rf]
    · by_cases h : j < i
      · simp [updV, e, h, Nat.lt_succ_of_lt h]
      · simp [updV, e, h, show ¬ j < i + 1 by omega]
set_option maxHeartbeats 1000000 in
theorem a_mna {l : Launch} {C : Gd} {own : String} {cc : ByteArray} {nL d z mc ms : Nat} {E : EA} (hE : MaA l C own cc nL d z mc ms E) {pc : Nat} {lv : List (Nat × Value)} {st : List Value} {N cs sz : Nat} {cf : Nat → va_E} {ix : Nat} {n k : Int32} {N1 K1 : Nat} (w1 : Cond.classLink own ix "[[I" ∈ gT) (w2 : Cond.arrayClass .int ∈ gT) (hn : ¬ n < 0) (hk : ¬ k < 0) (hN : n.toNatClampNeg = N1) (hM : k.toNatClampNeg = K1) (hb1 : N1 * 4 ≤ 536870912) (hb2 : K1 * componentBytes .int ≤ 536870912) (hb3 : K1 ≤ 536870912) (hc1 : cs + (1 + N1) ≤ mc) (hs1 : sz + (N1 + N1 * K1) ≤ ms) (hd : decode cc pc = .ok (.multianewarray ix 2, 4))
    (kk : E (pc + 4) lv (.ref (z + N) :: st) (N + 1 + N1) (fun j => if j = N then .inl (C.2 17, N1, .inr (.inr (.inr (.inr (fun i => if i < N1 then some (z + N + 1 + i) else none))))) else if N < j ∧ j < N + 1 + N1 then .inl (C.2 12, K1, .inl (fun _ => 0)) else cf j) (cs + 1 + N1) (sz + N1 + N1 * K1)) : E pc lv (.int k :: .int n :: st) N cf cs sz := by
  obtain ⟨p, e, R, s, m, args, below, meth, c, QF, hx, hb, hml, hown, hts, hK, hin2, hR, hz, rfl⟩ := hE
  intro H locs ls hz2 hP hS hl
  subst hN
  subst hM
  intro T hT Xs
  obtain ⟨vm₁, cA, comp, -, fA, fC, hO, -, X', step⟩ := Xs.multianewarray2F hx (ty := .int) hown (hts _ w1) (aoA.use hK.2.2.2.2) (hts _ w2) (g := F0 m pc ls (.int k :: .int n :: st)) rfl (by rw [hb]; exact hd) rfl hn hk hb1 hb2 hb3 rfl rfl (by omega) (by omega)
  have e17 : cA = C.2 17 := Option.some.inj (fA.symm.trans (hK.1.2 6 _ rfl).2)
  have e12 : comp = C.2 12 := Option.some.inj (fC.symm.trans (hK.1.2 1 _ rfl).2)
  subst e17
  subst e12
  generalize hF : Jvm.Free.Multi.fill (T.setVm vm₁) (C.2 17) (C.2 12) n.toNatClampNeg k.toNatClampNeg (defaultValue .int) n.toNatClampNeg = F at X' step
  have hTh : (T.setVm vm₁).heap = H := hT
  obtain ⟨f1, f2, -, -⟩ := Jvm.Free.Multi.fill_facts (T.setVm vm₁) (C.2 17) (C.2 12) n.toNatClampNeg k.toNatClampNeg (defaultValue .int) n.toNatClampNeg
  rw [hF, hTh] at f1 f2
  have hold : ∀ x : Nat, x < H.size → F.heap[x]? = H[x]? := fun x hx9 => by
    have := Jvm.Free.Multi.fill_old (T.setVm vm₁) (C.2 17) (C.2 12) n.toNatClampNeg k.toNatClampNeg (defaultValue .int) (a := x) (by rw [hTh]; exact hx9) n.toNatClampNeg
    rw [hF, hTh] at this
    exact this
  have hrow : ∀ j : Nat, j < n.toNatClampNeg → F.heap[H.size + 1 + j]? = some (vp_cell (C.2 12) (k.toNatClampNeg, .inl (fun _ => 0))) := fun j hj => by
    have := Jvm.Free.Multi.fill_inner (T.setVm vm₁) (C.2 17) (C.2 12) n.toNatClampNeg k.toNatClampNeg (defaultValue .int) n.toNatClampNeg j hj
    rw [hF, hTh] at this
    rw [this, vp_cell_i, ← arrV_new]
    rfl
  rw [vr_outer] at f2
  obtain ⟨t, a1, b1⟩ := kk F.heap locs ls (by rw [f1, hz2]; omega) (sgf_P fun j hj => by
    by_cases h1 : j = N
    · subst h1
      rw [if_pos rfl]
      show F.heap[z + j]? = some (vp_cell _ _)
      rw [vp_cell_q, ← hz2, f2]
    · rw [if_neg h1]
      by_cases h2 : N < j ∧ j < N + 1 + n.toNatClampNeg
      · rw [if_pos h2]
        show F.heap[z + j]? = _
        have := hrow (j - N - 1) (by omega)
        rw [hz2, show z + N + 1 + (j - N - 1) = z + j by omega] at this
        exact this
      · rw [if_neg h2]
        exact (sgf_at hP (show j < N by omega)).kept (hold _ (by show z + j < H.size; omega))) ⟨by rw [f1]; have := hS.1; omega, fun x h1 h2 => (hold x (by have := hS.1; omega)).trans (hS.2.1 x h1 h2), hS.2.2⟩ hl F rfl X'
  refine ⟨t, step t ?_, b1⟩
  have e : T.heap.size = z + N := by rw [hT, hz2]
  rw [e]
  exact a1
