/-! base rows of the specs: reading a changed memory, loops over the tags, sets of numbers -/
theorem z_up1 (M : zMem) (kd w i k : Nat) (x : Int32) (a b c d : Nat) : (z_up M kd w i k x).1 a b c d = if a = kd ∧ b = w ∧ c = i ∧ d = k then x else M.1 a b c d := rfl
theorem z_up2 (M : zMem) (kd w i k : Nat) (x : Int32) : (z_up M kd w i k x).2 = M.2 := rfl
theorem z_upL1 (M : zMem) (kd k : Nat) (x : Int64) : (z_upL M kd k x).1 = M.1 := rfl
theorem z_upL2 (M : zMem) (kd k : Nat) (x : Int64) (a b : Nat) : (z_upL M kd k x).2 a b = if a = kd ∧ b = k then x else M.2 a b := rfl
theorem z_cp1 (M : zMem) (kd w i : Nat) (f : Nat → Int32) (a b c d : Nat) : (z_cp M kd w i f).1 a b c d = if a = kd ∧ b = w ∧ c = i then f d else M.1 a b c d := rfl
theorem z_cp2 (M : zMem) (kd w i : Nat) (f : Nat → Int32) : (z_cp M kd w i f).2 = M.2 := rfl
def z_it {α : Type} (f : Nat → α → α) : Nat → α → α
  | 0, M => M
  | n + 1, M => f n (z_it f n M)
def z_mk (p : Nat → Bool) : Nat → Int32
  | 0 => 0
  | n + 1 => z_mk p n ||| (bif p n then 1 <<< (nI n &&& 31) else 0)
/-- a loop's counter against its bound -/
theorem z_lt {n N : Nat} (h : n < N) (hN : N < 2 ^ 31) : (nI n < nI N) = True ∧ (nI n ≥ nI N) = False ∧ vp_in (nI n) N = True ∧ (nI n).toNatClampNeg = n ∧ nI n + 1 = nI (n + 1) :=
  ⟨eq_true (nI_lt h hN), eq_false (nI_ge h hN), eq_true (vp_in_nI h hN), nI_clamp (by omega), nI_1 n⟩
theorem z_eqN {N : Nat} : (nI N < nI N) = False ∧ (nI N ≥ nI N) = True := ⟨eq_false (Int32.lt_irrefl), eq_true (Int32.le_refl _)⟩
