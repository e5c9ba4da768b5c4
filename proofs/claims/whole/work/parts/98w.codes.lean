/-! prefixes as the class codes them -/
theorem bt_nI (k : Nat) {i : Nat} (hi : i < 32) : bt (nI k) i = k.testBit i := by
  show (BitVec.ofNat 32 k).getLsbD i = _
  rw [BitVec.getLsbD_ofNat, decide_eq_true hi, Bool.true_and]
theorem and_lo (N k : Nat) : nI N &&& nI (2 ^ k - 1) = nI (N % 2 ^ k) := b_ext (fun i hi => by
  rw [b_and, bt_nI _ hi, bt_nI _ hi, bt_nI _ hi, Nat.testBit_two_pow_sub_one, Nat.testBit_mod_two_pow, Bool.and_comm])
theorem or_N (a b : Nat) : nI a ||| nI b = nI (a ||| b) := b_ext (fun i hi => by
  rw [b_or, bt_nI _ hi, bt_nI _ hi, bt_nI _ hi, Nat.testBit_or])
theorem or_sum (i a b : Nat) (h : b < 2 ^ i) : nI (2 ^ i * a) ||| nI b = nI (2 ^ i * a + b) := by
  rw [or_N, Nat.two_pow_add_eq_or_of_lt h]
theorem shl_1 {p : Nat} (hp : p < 1073741824) : nI p <<< ((1 : Int32) &&& 31) = nI (2 * p) := b_ext (fun i hi => by
  rw [show ((1 : Int32) &&& 31) = (nI 1 &&& 31) from rfl, b_shl 1 (by omega) _ hi, bt_nI _ hi]
  rcases Nat.eq_zero_or_pos i with z | z
  · subst z
    rw [decide_eq_false (by omega), Bool.false_and, Nat.testBit_zero]
    exact (decide_eq_false (by omega)).symm
  · obtain ⟨j, rfl⟩ : ∃ j, i = j + 1 := ⟨i - 1, by omega⟩
    rw [decide_eq_true (by omega), Bool.true_and, Nat.add_sub_cancel, bt_nI _ (by omega), Nat.testBit_succ, show 2 * p / 2 = p by omega])
theorem kd_N (x : zX) : x_cd x = nI (x.2.1 + 65536 * x.1 + 16777216 * (if x.2.2 = true then 1 else 0)) := by
  unfold x_cd
  congr 2
  split <;> rfl
theorem kd_len {x : zX} (h1 : x.1 ≤ 16) (h2 : x.2.1 < 65536) : r_lengthOf (x_cd x) = nI x.1 := by
  unfold r_lengthOf
  rw [kd_N]
  generalize hE : (if x.2.2 = true then 1 else 0) = E
  have hE2 : E < 2 := by
    rw [← hE]
    split <;> omega
  rw [show ((16 : Int32) &&& 31) = (nI 16 &&& 31) from rfl, pk_shrN (by omega) _ 16 (s_l 16 (by omega)), show (31 : Int32) = nI (2 ^ 5 - 1) from rfl, and_lo]
  congr 1
  omega
theorem kd_bits {x : zX} (h2 : x.2.1 < 65536) : r_bitsOf (x_cd x) = nI x.2.1 := by
  unfold r_bitsOf
  rw [kd_N, show (65535 : Int32) = nI (2 ^ 16 - 1) from rfl, and_lo]
  congr 1
  omega
theorem kd_emp {x : zX} (h1 : x.1 ≤ 16) (h2 : x.2.1 < 65536) : x_cd x &&& 16777216 = 0 ↔ x.2.2 = false := by
  have key : ∀ n, n < 16777216 → bt (nI n) 24 = false ∧ bt (nI (n + 16777216)) 24 = true := fun n hn => by
    rw [bt_nI _ (by omega), bt_nI _ (by omega), show n + 16777216 = 2 ^ 24 + n by omega, Nat.testBit_two_pow_add_eq]
    have : n.testBit 24 = false := Nat.testBit_lt_two_pow (by omega)
    rw [this]
    exact ⟨rfl, rfl⟩
  obtain ⟨q1, q2⟩ := key (x.2.1 + 65536 * x.1) (by omega)
  have c24 : bt (x_cd x) 24 = x.2.2 := by
    unfold x_cd
    cases hx : x.2.2 with
    | true => exact q2
    | false => exact q1
  constructor
  · intro z
    have z2 := congrArg (fun y => bt y 24) z
    have z3 : bt (x_cd x &&& 16777216) 24 = bt (0 : Int32) 24 := z2
    rw [b_and, c24, b_0, show bt (16777216 : Int32) 24 = true from rfl, Bool.and_true] at z3
    exact z3
  · intro z
    refine b_ext (fun i hi => ?_)
    rw [b_and, b_0]
    have d : ∀ i, i < 32 → bt 16777216 i = decide (i = 24) := by decide
    rw [d i hi]
    by_cases c : i = 24
    · subst c
      rw [c24, z]
      rfl
    · rw [decide_eq_false c, Bool.and_false]
theorem kd_set {D P : Nat} (h1 : D ≤ 16) (h2 : P < 65536) : x_cd (D, P, false) ||| 16777216 = x_cd (D, P, true) := by
  rw [kd_N, kd_N]
  show nI (P + 65536 * D + 16777216 * 0) ||| nI (2 ^ 24) = nI (P + 65536 * D + 16777216 * 1)
  rw [or_N, Nat.or_comm]
  congr 1
  have e := Nat.two_pow_add_eq_or_of_lt (b := P + 65536 * D + 16777216 * 0) (i := 24) (by omega) 1
  rw [Nat.mul_one] at e
  rw [← e]
  omega
theorem kd_long {D P d : Nat} {e : Bool} (h1 : D < 16) (h2 : P < 2 ^ D) (hd : d < 2) : r_longer (x_cd (D, P, e)) (nI d) = x_cd (D + 1, 2 * P + d, false) := by
  have h3 : 2 ^ D ≤ 2 ^ 15 := Nat.pow_le_pow_right (by decide) (by omega)
  unfold r_longer
  rw [kd_len (x := (D, P, e)) (by show D ≤ 16; omega) (by show P < 65536; omega), kd_bits (x := (D, P, e)) (by show P < 65536; omega)]
  show (nI D + 1) <<< (16 &&& 31) ||| nI P <<< (1 &&& 31) &&& 65535 ||| nI d = _
  have s16 : ∀ D, D < 16 → (nI D + 1) <<< ((16 : Int32) &&& 31) = nI (2 ^ 16 * (D + 1)) := by decide
  rw [s16 D h1, shl_1 (by omega), show (65535 : Int32) = nI (2 ^ 16 - 1) from rfl, and_lo, Nat.mod_eq_of_lt (by omega), or_sum 16 (D + 1) (2 * P) (by omega), show 2 ^ 16 * (D + 1) + 2 * P = 2 ^ 1 * (2 ^ 15 * (D + 1) + P) by omega, or_sum 1 _ d (by omega), kd_N]
  congr 1
  show _ = 2 * P + d + 65536 * (D + 1) + 16777216 * 0
  omega
theorem kd_up {D P : Nat} (h0 : 1 ≤ D) (h1 : D ≤ 16) (h2 : P < 65536) : (16777216 : Int32) ||| (nI D - 1) <<< (16 &&& 31) ||| nI P >>> (1 &&& 31) = x_cd (D - 1, P / 2, true) := by
  have s16 : ∀ D, D < 17 → 1 ≤ D → (nI D - 1) <<< ((16 : Int32) &&& 31) = nI (65536 * (D - 1)) := by decide
  rw [s16 D (by omega) h0, show (16777216 : Int32) = nI (2 ^ 24 * 1) from rfl, or_sum 24 1 _ (by omega), show ((1 : Int32) &&& 31) = (nI 1 &&& 31) from rfl, pk_shrN (by omega) _ 1 (s_l 1 (by omega)), show 2 ^ 24 * 1 + 65536 * (D - 1) = 2 ^ 16 * (256 + (D - 1)) by omega, or_sum 16 _ _ (by omega), kd_N]
  congr 1
  show _ = P / 2 + 65536 * (D - 1) + 16777216 * 1
  omega
theorem kd_beg {x : zX} {D : Nat} (h1 : x.1 ≤ 16) (h2 : x.2.1 < 65536) (hD : D < 65536) : ¬ r_begins (x_cd x) (nI D) = 0 ↔ D / x_sz x = x.2.1 := by
  have e : r_begins (x_cd x) (nI D) = r_mBegins (nI D) (nI x.1) (nI x.2.1) := by
    unfold r_begins r_mBegins
    rw [kd_len h1 h2, kd_bits h2]
    rfl
  rw [e]
  exact mb_N hD h1 (by omega)
theorem kd_inj {x y : zX} (h1 : x.1 ≤ 16) (h2 : x.2.1 < 65536) (h3 : y.1 ≤ 16) (h4 : y.2.1 < 65536) : x_cd x = x_cd y → x = y := by
  rw [kd_N, kd_N]
  intro h
  have := (nI_eq (by split <;> omega) (by split <;> omega)).mp h
  obtain ⟨a, b, c⟩ := x
  obtain ⟨a', b', c'⟩ := y
  simp only at *
  cases c <;> cases c' <;> simp at this ⊢ <;> omega
theorem kd_nm {x : zX} (h1 : x.1 ≤ 16) (h2 : x.2.1 < 65536) : ¬ x_cd x = -1 := by
  rw [kd_N]
  intro z
  exact nI_pos (n := x.2.1 + 65536 * x.1 + 16777216 * (if x.2.2 = true then 1 else 0)) (by split <;> omega) (by rw [z]; decide)
