/-! base rows of the specs: reading a changed memory, loops over the tags, sets of numbers -/
theorem z_up1 (M : zMem) (kd w i k : Nat) (x : Int32) (a b c d : Nat) : (z_up M kd w i k x).1 a b c d = if a = kd ∧ b = w ∧ c = i ∧ d = k then x else M.1 a b c d := rfl
theorem z_up2 (M : zMem) (kd w i k : Nat) (x : Int32) : (z_up M kd w i k x).2 = M.2 := rfl
theorem z_upL1 (M : zMem) (kd k : Nat) (x : Int64) : (z_upL M kd k x).1 = M.1 := rfl
theorem z_upL2 (M : zMem) (kd k : Nat) (x : Int64) (a b : Nat) : (z_upL M kd k x).2 a b = if a = kd ∧ b = k then x else M.2 a b := rfl
theorem z_cp1 (M : zMem) (kd w i : Nat) (f : Nat → Int32) (a b c d : Nat) : (z_cp M kd w i f).1 a b c d = if a = kd ∧ b = w ∧ c = i then f d else M.1 a b c d := rfl
theorem z_cp2 (M : zMem) (kd w i : Nat) (f : Nat → Int32) : (z_cp M kd w i f).2 = M.2 := rfl
def z_it {α : Type} (f : Nat → α → α) : Nat → α → α
  | 0, M => M
  | n + 1, M => f n (z_it f n M)
def z_mk (p : Nat → Bool) : Nat → Int32
  | 0 => 0
  | n + 1 => z_mk p n ||| (bif p n then 1 <<< (nI n &&& 31) else 0)
/-- a loop's counter against its bound -/
theorem z_lt {n N : Nat} (h : n < N) (hN : N < 2 ^ 31) : (nI n < nI N) = True ∧ (nI n ≥ nI N) = False ∧ vp_in (nI n) N = True ∧ (nI n).toNatClampNeg = n ∧ nI n + 1 = nI (n + 1) :=
  ⟨eq_true (nI_lt h hN), eq_false (nI_ge h hN), eq_true (vp_in_nI h hN), nI_clamp (by omega), nI_1 n⟩
theorem z_eqN {N : Nat} : (nI N < nI N) = False ∧ (nI N ≥ nI N) = True := ⟨eq_false (Int32.lt_irrefl), eq_true (Int32.le_refl _)⟩
theorem z_lt24 {n : Nat} (h : n < 24) : (nI n < 24) = True ∧ (nI n ≥ 24) = False ∧ vp_in (nI n) 24 = True ∧ (nI n).toNatClampNeg = n ∧ nI n + 1 = nI (n + 1) := z_lt (N := 24) h (by decide)
theorem z_lt4 {n : Nat} (h : n < 4) : (nI n < 4) = True ∧ (nI n ≥ 4) = False ∧ vp_in (nI n) 4 = True ∧ (nI n).toNatClampNeg = n ∧ nI n + 1 = nI (n + 1) := z_lt (N := 4) h (by decide)
theorem z_eq24 : (nI 24 < 24) = False ∧ (nI 24 ≥ 24) = True := z_eqN (N := 24)
theorem z_eq4 : (nI 4 < 4) = False ∧ (nI 4 ≥ 4) = True := z_eqN (N := 4)
theorem z_vinN {x y : Int32} {N : Nat} (h1 : ¬ x < 0) (h2 : x < y) (hy : y = nI N ∧ N < 2 ^ 31) : vp_in x N := by
  obtain ⟨rfl, hN⟩ := hy
  have a1 := Int32.not_lt.mp h1
  rw [vp_in_iff]
  have b1 := Int32.le_iff_toInt_le.mp a1
  have b2 := Int32.lt_iff_toInt_lt.mp h2
  rw [nI_toInt hN] at b2
  exact ⟨by simpa using b1, b2⟩
theorem z_vin1 {x y : Int32} {N : Nat} (h1 : ¬ x < 1) (h2 : ¬ y < x) (hy : y = nI N ∧ N < 2 ^ 31) : vp_in (x - 1) N := by
  obtain ⟨rfl, hN⟩ := hy
  have a1 := Int32.not_lt.mp h1
  have a2 := Int32.not_lt.mp h2
  rw [vp_in_iff]
  have b1 := Int32.le_iff_toInt_le.mp a1
  have b2 := Int32.le_iff_toInt_le.mp a2
  rw [nI_toInt hN] at b2
  have b3 : (1 : Int32).toInt = 1 := rfl
  rw [b3] at b1
  have b4 : (x - 1).toInt = x.toInt - 1 := by
    rw [Int32.toInt_sub, b3]
    apply Int.bmod_eq_of_le <;> omega
  rw [b4]
  omega
theorem z_vi_24 {x : Int32} (h1 : ¬ x < 0) (h2 : x < 24) : vp_in x 24 := z_vinN h1 h2 (by decide)
theorem z_vi_4 {x : Int32} (h1 : ¬ x < 0) (h2 : x < 4) : vp_in x 4 := z_vinN h1 h2 (by decide)
theorem z_vi_512 {x : Int32} (h1 : ¬ x < 0) (h2 : x < 512) : vp_in x 512 := z_vinN h1 h2 (by decide)
theorem z_vi_14 {x : Int32} (h1 : ¬ x < 0) (h2 : x < 14) : vp_in x 14 := z_vinN h1 h2 (by decide)
theorem z_vi_8 {x : Int32} (h1 : ¬ x < 0) (h2 : x < 8) : vp_in x 8 := z_vinN h1 h2 (by decide)
theorem z_cv0 : vp_in 0 14 = True := eq_true (vp_in_nI (n := 0) (N := 14) (by decide) (by decide))
theorem z_cl0 : (0 : Int32).toNatClampNeg = 0 := rfl
theorem z_cv1 : vp_in 1 14 = True := eq_true (vp_in_nI (n := 1) (N := 14) (by decide) (by decide))
theorem z_cl1 : (1 : Int32).toNatClampNeg = 1 := rfl
theorem z_cv2 : vp_in 2 14 = True := eq_true (vp_in_nI (n := 2) (N := 14) (by decide) (by decide))
theorem z_cl2 : (2 : Int32).toNatClampNeg = 2 := rfl
theorem z_cv3 : vp_in 3 14 = True := eq_true (vp_in_nI (n := 3) (N := 14) (by decide) (by decide))
theorem z_cl3 : (3 : Int32).toNatClampNeg = 3 := rfl
theorem z_cv4 : vp_in 4 14 = True := eq_true (vp_in_nI (n := 4) (N := 14) (by decide) (by decide))
theorem z_cl4 : (4 : Int32).toNatClampNeg = 4 := rfl
theorem z_cv5 : vp_in 5 14 = True := eq_true (vp_in_nI (n := 5) (N := 14) (by decide) (by decide))
theorem z_cl5 : (5 : Int32).toNatClampNeg = 5 := rfl
theorem z_cv6 : vp_in 6 14 = True := eq_true (vp_in_nI (n := 6) (N := 14) (by decide) (by decide))
theorem z_cl6 : (6 : Int32).toNatClampNeg = 6 := rfl
theorem z_cv7 : vp_in 7 14 = True := eq_true (vp_in_nI (n := 7) (N := 14) (by decide) (by decide))
theorem z_cl7 : (7 : Int32).toNatClampNeg = 7 := rfl
theorem z_cv8 : vp_in 8 14 = True := eq_true (vp_in_nI (n := 8) (N := 14) (by decide) (by decide))
theorem z_cl8 : (8 : Int32).toNatClampNeg = 8 := rfl
theorem z_cv9 : vp_in 9 14 = True := eq_true (vp_in_nI (n := 9) (N := 14) (by decide) (by decide))
theorem z_cl9 : (9 : Int32).toNatClampNeg = 9 := rfl
theorem z_cv10 : vp_in 10 14 = True := eq_true (vp_in_nI (n := 10) (N := 14) (by decide) (by decide))
theorem z_cl10 : (10 : Int32).toNatClampNeg = 10 := rfl
theorem z_cv11 : vp_in 11 14 = True := eq_true (vp_in_nI (n := 11) (N := 14) (by decide) (by decide))
theorem z_cl11 : (11 : Int32).toNatClampNeg = 11 := rfl
theorem z_cv12 : vp_in 12 14 = True := eq_true (vp_in_nI (n := 12) (N := 14) (by decide) (by decide))
theorem z_cl12 : (12 : Int32).toNatClampNeg = 12 := rfl
theorem z_cv13 : vp_in 13 14 = True := eq_true (vp_in_nI (n := 13) (N := 14) (by decide) (by decide))
theorem z_cl13 : (13 : Int32).toNatClampNeg = 13 := rfl
/-- does one of f numbers from s on have p -/
def z_ex (p : Nat → Bool) : Nat → Nat → Bool
  | 0, _ => false
  | f + 1, s => p s || z_ex p f (s + 1)
theorem z_e10 : ((1 : Int32) = 0) = False := eq_false (by decide)
theorem z_e01 : ((0 : Int32) = 1) = False := eq_false (by decide)
