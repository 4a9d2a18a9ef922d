
/-! the memory: whole numbers of 32 and of 64 bits, by the cell's number and the place in it -/
abbrev Mm : Type := (Nat → Nat → Int32) × (Nat → Nat → Int64)
def gi (M : Mm) (k j : Nat) : Int32 := M.1 k j
def gl (M : Mm) (k j : Nat) : Int64 := M.2 k j
def si (M : Mm) (k j : Nat) (x : Int32) : Mm := (fun a b => if a = k ∧ b = j then x else M.1 a b, M.2)
def sl (M : Mm) (k j : Nat) (x : Int64) : Mm := (M.1, fun a b => if a = k ∧ b = j then x else M.2 a b)
/-- n places of cell k0 from sp on come to those of k1 from dp on -/
def cpi (M : Mm) (k0 k1 sp dp n : Nat) : Mm := (fun a b => if a = k1 then va_cpy (M.1 k0) (M.1 k1) sp dp n b else M.1 a b, M.2)
abbrev tn (i : Int32) : Nat := i.toNatClampNeg
theorem gi_si (M : Mm) (k j a b : Nat) (x : Int32) : gi (si M k j x) a b = if a = k ∧ b = j then x else gi M a b := rfl
theorem gl_sl (M : Mm) (k j a b : Nat) (x : Int64) : gl (sl M k j x) a b = if a = k ∧ b = j then x else gl M a b := rfl
theorem gi_sl (M : Mm) (k j a b : Nat) (x : Int64) : gi (sl M k j x) a b = gi M a b := rfl
theorem gl_si (M : Mm) (k j a b : Nat) (x : Int32) : gl (si M k j x) a b = gl M a b := rfl
theorem gi_si_eq (M : Mm) (k j : Nat) (x : Int32) : gi (si M k j x) k j = x := by simp [gi_si]
theorem gi_si_ne {M : Mm} {k j a b : Nat} {x : Int32} (h : a ≠ k ∨ b ≠ j) : gi (si M k j x) a b = gi M a b := by
  rw [gi_si, if_neg]; rintro ⟨rfl, rfl⟩; simp at h
theorem gl_sl_eq (M : Mm) (k j : Nat) (x : Int64) : gl (sl M k j x) k j = x := by simp [gl_sl]
theorem gl_sl_ne {M : Mm} {k j a b : Nat} {x : Int64} (h : a ≠ k ∨ b ≠ j) : gl (sl M k j x) a b = gl M a b := by
  rw [gl_sl, if_neg]; rintro ⟨rfl, rfl⟩; simp at h
theorem gi_cpi (M : Mm) (k0 k1 sp dp n a b : Nat) : gi (cpi M k0 k1 sp dp n) a b = if a = k1 then va_cpy (gi M k0) (gi M k1) sp dp n b else gi M a b := rfl
theorem gl_cpi (M : Mm) (k0 k1 sp dp n a b : Nat) : gl (cpi M k0 k1 sp dp n) a b = gl M a b := rfl
/-- a truth value -/
def zb (x : Int32) : Prop := x = 0 ∨ x = 1
def chOf (k : Nat) : Nat := if k = 36 then 20 else 28
def stOf (k : Nat) : Nat := if k = 54 then 123 else if k = 56 then 186 else 249
def shN (k : Nat) : Nat := if k = 4 then 6 else 4
def shR (k : Nat) : Nat := if k = 4 then 40 else 60
def letT : List Int32 := [97, 116, 115, 98, 108, 109]
def parT : List Int32 := [0, 0, 0, 0, 2, 3]
def M0 : Mm := (fun k j => if (k = 5 ∧ j < 6) ∨ (k = 14 ∧ j < 4) ∨ (k = 314 ∧ j < 6) ∨ (k = 317 ∧ j < 4) then -1 else if k = 4 ∧ j = 0 then 40 else if k = 13 ∧ j = 0 then 60 else 0, fun k j => if (k = 0 ∧ j = 15) ∨ (k = 312 ∧ j = 4) then 1 else 0)
