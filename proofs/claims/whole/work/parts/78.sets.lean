/-! sets of numbers as bits of an int, and how many there are -/
theorem bt_1 (j : Nat) : bt 1 j = decide (j = 0) := by
  unfold bt
  show (1#32).getLsbD j = _
  rw [BitVec.getLsbD_one]
  simp
theorem z_bit (x : Int32) {i : Nat} (hi : i < 32) : x >>> (nI i &&& 31) &&& 1 = if bt x i = true then 1 else 0 := by
  refine b_ext (fun j hj => ?_)
  rw [b_and, bt_1, b_sshr i hi x hj]
  by_cases h : j = 0
  · subst h
    rw [if_pos (by omega), decide_eq_true rfl, Bool.and_true, Nat.add_zero]
    split
    · rename_i c
      rw [c]
      rfl
    · rename_i c
      rw [Bool.not_eq_true] at c
      rw [c]
      rfl
  · rw [decide_eq_false h, Bool.and_false]
    split
    · rw [bt_1, decide_eq_false h]
    · rw [b_0]
theorem bt_mk (p : Nat → Bool) : ∀ n, n ≤ 32 → ∀ i, i < 32 → bt (z_mk p n) i = (decide (i < n) && p i)
  | 0, _, i, _ => by
    rw [z_mk, b_0]
    rfl
  | n + 1, hn, i, hi => by
    rw [z_mk, b_or, bt_mk p n (by omega) i hi]
    have e : bt (bif p n then 1 <<< (nI n &&& 31) else 0) i = (p n && decide (i = n)) := by
      cases p n with
      | false => exact b_0 i
      | true =>
        rw [cond_true, b_shl n (by omega) 1 hi, bt_1, Bool.true_and]
        by_cases h : i = n
        · subst h
          simp
        · rw [decide_eq_false h]
          by_cases h2 : n ≤ i
          · rw [decide_eq_false (show ¬ i - n = 0 by omega), Bool.and_false]
          · rw [decide_eq_false h2, Bool.false_and]
    rw [e]
    by_cases h : i = n
    · subst h
      simp
    · by_cases h2 : i < n
      · rw [decide_eq_true h2, decide_eq_true (show i < n + 1 by omega), decide_eq_false h]
        simp
      · rw [decide_eq_false h2, decide_eq_false (show ¬ i < n + 1 by omega), decide_eq_false h]
        simp
theorem z_mkC {p q : Nat → Bool} : ∀ {n : Nat}, (∀ i, i < n → p i = q i) → z_mk p n = z_mk q n
  | 0, _ => rfl
  | n + 1, h => by rw [z_mk, z_mk, z_mkC (fun i hi => h i (by omega)), h n (by omega)]
theorem z_mkD (p q : Nat → Bool) : z_mk p 24 &&& (z_mk q 24 ^^^ -1) = z_mk (fun i => p i && !q i) 24 := by
  refine b_ext (fun i hi => ?_)
  rw [b_and, b_xor, b_m1 i hi, bt_mk p 24 (by decide) i hi, bt_mk q 24 (by decide) i hi, bt_mk _ 24 (by decide) i hi]
  by_cases h : i < 24
  · rw [decide_eq_true h]
    cases p i <;> cases q i <;> rfl
  · rw [decide_eq_false h]
    rfl
theorem z_mkA (p q : Nat → Bool) : z_mk p 24 &&& z_mk q 24 = z_mk (fun i => p i && q i) 24 := by
  refine b_ext (fun i hi => ?_)
  rw [b_and, bt_mk p 24 (by decide) i hi, bt_mk q 24 (by decide) i hi, bt_mk _ 24 (by decide) i hi]
  by_cases h : i < 24
  · rw [decide_eq_true h]
    cases p i <;> cases q i <;> rfl
  · rw [decide_eq_false h]
    rfl
theorem z_mkB (p : Nat → Bool) {i : Nat} (hi : i < 24) : z_mk p 24 >>> (nI i &&& 31) &&& 1 = if p i = true then 1 else 0 := by
  rw [z_bit _ (by omega), bt_mk p 24 (by decide) i (by omega), decide_eq_true hi, Bool.true_and]
def z_nt (p : Nat → Bool) (n : Nat) : Nat := fb_sm (fun i => if p i = true then 2 ^ i else 0) n
theorem z_ntL (p : Nat → Bool) : ∀ n, z_nt p n < 2 ^ n
  | 0 => Nat.zero_lt_one
  | n + 1 => by
    have := z_ntL p n
    unfold z_nt at *
    rw [fb_sm_succ, Nat.pow_succ]
    split <;> omega
theorem z_mkN (p : Nat → Bool) : ∀ n, n ≤ 24 → z_mk p n = nI (z_nt p n)
  | 0, _ => rfl
  | n + 1, hn => by
    rw [z_mk, z_mkN p n (by omega), z_nt, z_nt, fb_sm_succ]
    have hl := z_ntL p n
    unfold z_nt at hl
    generalize fb_sm (fun i => if p i = true then 2 ^ i else 0) n = a at *
    have e : ∀ n, n < 24 → (1 : Int32) <<< (nI n &&& 31) = nI (2 ^ n) := by decide
    cases p n with
    | false =>
      rw [cond_false, if_neg (by decide), Nat.add_zero]
      show nI a ||| nI 0 = _
      rw [fa_or, Nat.or_zero]
    | true =>
      rw [cond_true, if_pos rfl, e n (by omega), fa_or, Nat.or_comm]
      have := fa_or_sum (a := a) (k := n) 1 hl
      rw [fa_or, Nat.mul_one] at this
      rw [this, Nat.add_comm]
def pc8 (b : Nat) : Nat := b % 2 + b / 2 % 2 + b / 4 % 2 + b / 8 % 2 + b / 16 % 2 + b / 32 % 2 + b / 64 % 2 + b / 128 % 2
theorem pc_and {x y p q : Nat} (hx : x < 256) (hp : p < 256) : (x + 256 * y) &&& (p + 256 * q) = (x &&& p) + 256 * (y &&& q) := by
  have e1 : ((x + 256 * y) &&& (p + 256 * q)) % 2 ^ 8 = x &&& p := by
    rw [Nat.and_mod_two_pow]
    congr 1 <;> omega
  have e2 : ((x + 256 * y) &&& (p + 256 * q)) / 2 ^ 8 = y &&& q := by
    rw [Nat.and_div_two_pow]
    congr 1 <;> omega
  omega
def pf1 (M n : Nat) : Nat := n - (n / 2 &&& M)
def pf2 (M n : Nat) : Nat := (n &&& M) + (n / 4 &&& M)
def pf3 (M n : Nat) : Nat := (n + n / 16) &&& M
theorem pc_d1 : ∀ x, x < 256 → ∀ t, t < 2 → x / 2 + 128 * t < 256 ∧ (x / 2 + 128 * t) &&& 85 = x / 2 &&& 85 := by decide +kernel
theorem pc_s1 {x y M : Nat} (hx : x < 256) : pf1 (85 + 256 * M) (x + 256 * y) = pf1 85 x + 256 * pf1 M y := by
  unfold pf1
  have e : (x + 256 * y) / 2 = (x / 2 + 128 * (y % 2)) + 256 * (y / 2) := by omega
  obtain ⟨h1, h2⟩ := pc_d1 x hx (y % 2) (by omega)
  rw [e, pc_and h1 (by decide), h2]
  have h3 : x / 2 &&& 85 ≤ x / 2 := Nat.and_le_left
  have h4 : y / 2 &&& M ≤ y / 2 := Nat.and_le_left
  omega
theorem pc_d2 : ∀ x, x < 256 → ∀ t, t < 4 → x / 4 + 64 * t < 256 ∧ (x / 4 + 64 * t) &&& 51 = x / 4 &&& 51 := by decide +kernel
theorem pc_s2 {x y M : Nat} (hx : x < 256) : pf2 (51 + 256 * M) (x + 256 * y) = pf2 51 x + 256 * pf2 M y := by
  unfold pf2
  have e : (x + 256 * y) / 4 = (x / 4 + 64 * (y % 4)) + 256 * (y / 4) := by omega
  obtain ⟨h1, h2⟩ := pc_d2 x hx (y % 4) (by omega)
  rw [e, pc_and h1 (by decide), pc_and hx (by decide), h2]
  omega
theorem pc_d3 : ∀ x, x < 69 → ∀ t, t < 16 → t < 8 → x + (x / 16 + 16 * t) < 256 ∧ (x + (x / 16 + 16 * t)) &&& 15 = (x + x / 16) &&& 15 := by decide +kernel
theorem pc_s3 {x y M : Nat} (hx : x < 69) (hy : y % 16 < 8) : pf3 (15 + 256 * M) (x + 256 * y) = pf3 15 x + 256 * pf3 M y := by
  unfold pf3
  have e : (x + 256 * y) / 16 = (x / 16 + 16 * (y % 16)) + 256 * (y / 16) := by omega
  obtain ⟨h1, h2⟩ := pc_d3 x hx (y % 16) (by omega) hy
  rw [e, show x + 256 * y + (x / 16 + 16 * (y % 16) + 256 * (y / 16)) = (x + (x / 16 + 16 * (y % 16))) + 256 * (y + y / 16) by omega, pc_and h1 (by decide), h2]
theorem pc_8 : ∀ x, x < 256 → pf1 85 x < 256 ∧ pf2 51 (pf1 85 x) < 69 ∧ pf2 51 (pf1 85 x) % 16 < 8 ∧ pf3 15 (pf2 51 (pf1 85 x)) = pc8 x ∧ pc8 x ≤ 8 := by decide +kernel
theorem pc_0 : ∀ M, pf1 M 0 = 0 ∧ pf2 M 0 = 0 ∧ pf3 M 0 = 0 := by
  intro M
  simp [pf1, pf2, pf3]
theorem pc_all {x y z : Nat} (hx : x < 256) (hy : y < 256) (hz : z < 256) :
    pf3 252645135 (pf2 858993459 (pf1 1431655765 (x + 256 * (y + 256 * z)))) = pc8 x + 256 * (pc8 y + 256 * pc8 z) := by
  obtain ⟨a1, a2, a3, a4, a5⟩ := pc_8 x hx
  obtain ⟨b1, b2, b3, b4, b5⟩ := pc_8 y hy
  obtain ⟨c1, c2, c3, c4, c5⟩ := pc_8 z hz
  rw [show 1431655765 = 85 + 256 * (85 + 256 * (85 + 256 * 85)) by decide, pc_s1 hx, pc_s1 hy, show z = z + 256 * 0 by omega, pc_s1 hz, (pc_0 85).1]
  rw [show 858993459 = 51 + 256 * (51 + 256 * (51 + 256 * 51)) by decide, pc_s2 a1, pc_s2 b1, pc_s2 c1, (pc_0 51).2.1]
  rw [show 252645135 = 15 + 256 * (15 + 256 * (15 + 256 * 15)) by decide, pc_s3 a2 (by omega), pc_s3 b2 (by omega), pc_s3 c2 (by omega), (pc_0 15).2.2, a4, b4, c4]
  simp only [Nat.mul_zero, Nat.add_zero]
theorem z_ushN {n k : Nat} (hn : n < 4294967296) (hk : k < 32) : z_ush (nI n) (nI k) = nI (n / 2 ^ k) := pk_ushrN hn _ k (s_u k hk)
theorem r_bcN {x y z : Nat} (hx : x < 256) (hy : y < 256) (hz : z < 256) : r_bc (nI (x + 256 * (y + 256 * z))) = nI (pc8 x + pc8 y + pc8 z) := by
  have hall := pc_all hx hy hz
  obtain ⟨_, _, _, _, a5⟩ := pc_8 x hx
  obtain ⟨_, _, _, _, b5⟩ := pc_8 y hy
  obtain ⟨_, _, _, _, c5⟩ := pc_8 z hz
  have hn : x + 256 * (y + 256 * z) < 16777216 := by omega
  generalize x + 256 * (y + 256 * z) = n at *
  have k1 : n / 2 &&& 1431655765 ≤ n / 2 := Nat.and_le_left
  have e1 : nI n - (z_ush (nI n) 1 &&& 1431655765) = nI (pf1 1431655765 n) := by
    show nI n - (z_ush (nI n) (nI 1) &&& nI 1431655765) = _
    rw [z_ushN (by omega) (by decide), nx_and, Nat.pow_one, zn_sub (by omega)]
    rfl
  have l1 : pf1 1431655765 n ≤ n := Nat.sub_le _ _
  generalize pf1 1431655765 n = a at *
  have e2 : (nI a &&& 858993459) + (z_ush (nI a) 2 &&& 858993459) = nI (pf2 858993459 a) := by
    show (nI a &&& nI 858993459) + (z_ush (nI a) (nI 2) &&& nI 858993459) = _
    rw [z_ushN (by omega) (by decide), nx_and, nx_and, nI_add]
    rfl
  have l2 : pf2 858993459 a ≤ 2 * a := by
    have := @Nat.and_le_left a 858993459
    have := @Nat.and_le_left (a / 4) 858993459
    unfold pf2
    omega
  generalize pf2 858993459 a = b at *
  have e3 : (nI b + z_ush (nI b) 4) &&& 252645135 = nI (pf3 252645135 b) := by
    show (nI b + z_ush (nI b) (nI 4)) &&& nI 252645135 = _
    rw [z_ushN (by omega) (by decide), nI_add, nx_and]
    rfl
  show (let c := (let b := (nI n - (z_ush (nI n) 1 &&& 1431655765) &&& 858993459) + (z_ush (nI n - (z_ush (nI n) 1 &&& 1431655765)) 2 &&& 858993459); b + z_ush b 4 &&& 252645135); let d := c + z_ush c 8; let e := d + z_ush d 16; e &&& 63) = _
  rw [e1, e2, e3, hall]
  show (let d := nI (pc8 x + 256 * (pc8 y + 256 * pc8 z)) + z_ush (nI (pc8 x + 256 * (pc8 y + 256 * pc8 z))) (nI 8); let e := d + z_ush d (nI 16); e &&& nI 63) = _
  generalize pc8 x = u at *
  generalize pc8 y = v at *
  generalize pc8 z = w at *
  have e4 : nI (u + 256 * (v + 256 * w)) + z_ush (nI (u + 256 * (v + 256 * w))) (nI 8) = nI ((u + v) + 256 * ((v + w) + 256 * w)) := by
    rw [z_ushN (by omega) (by decide), nI_add]
    congr 1
    omega
  rw [e4]
  have e5 : nI ((u + v) + 256 * ((v + w) + 256 * w)) + z_ush (nI ((u + v) + 256 * ((v + w) + 256 * w))) (nI 16) = nI ((u + v + w) + 64 * (4 * ((v + w) + 256 * w))) := by
    rw [z_ushN (by omega) (by decide), nI_add]
    congr 1
    omega
  dsimp only
  rw [e5, fa_mask _ 6]
  congr 1
  omega
theorem pc_ct (b0 b1 b2 b3 b4 b5 b6 b7 : Bool) : pc8 ((if b0 = true then 1 else 0) + (if b1 = true then 2 else 0) + (if b2 = true then 4 else 0) + (if b3 = true then 8 else 0) + (if b4 = true then 16 else 0) + (if b5 = true then 32 else 0) + (if b6 = true then 64 else 0) + (if b7 = true then 128 else 0)) = (if b0 = true then 1 else 0) + (if b1 = true then 1 else 0) + (if b2 = true then 1 else 0) + (if b3 = true then 1 else 0) + (if b4 = true then 1 else 0) + (if b5 = true then 1 else 0) + (if b6 = true then 1 else 0) + (if b7 = true then 1 else 0) := by
  revert b0 b1 b2 b3 b4 b5 b6 b7
  decide +kernel
theorem pc_by (p : Nat → Bool) : pc8 (z_nt p 8) = fb_ct p 8 := by
  have := pc_ct (p 0) (p 1) (p 2) (p 3) (p 4) (p 5) (p 6) (p 7)
  simp only [z_nt, fb_sm, fb_ct, Nat.zero_add, Nat.reducePow]
  exact this
theorem z_ntS (p : Nat → Bool) (m n : Nat) : z_nt p (m + n) = z_nt p m + 2 ^ m * z_nt (fun k => p (m + k)) n := by
  unfold z_nt
  rw [fb_sm_split]
  congr 1
  induction n with
  | zero => rfl
  | succ n ih =>
    rw [fb_sm_succ, fb_sm_succ, ih, Nat.mul_add]
    congr 1
    split
    · rw [Nat.pow_add]
    · rfl
/-- how many there are in a set -/
theorem z_bcM (p : Nat → Bool) : r_bc (z_mk p 24) = nI (fb_ct p 24) := by
  rw [z_mkN p 24 (by decide)]
  have e1 : z_nt p 24 = z_nt p 8 + 256 * (z_nt (fun k => p (8 + k)) 8 + 256 * z_nt (fun k => p (8 + (8 + k))) 8) := by
    rw [show 24 = 8 + (8 + 8) by decide, z_ntS, z_ntS]
  have e2 : fb_ct p 24 = fb_ct p 8 + (fb_ct (fun k => p (8 + k)) 8 + fb_ct (fun k => p (8 + (8 + k))) 8) := by
    rw [show 24 = 8 + (8 + 8) by decide, fb_ct_split, fb_ct_split]
  rw [e1, r_bcN (z_ntL p 8) (z_ntL _ 8) (z_ntL _ 8), pc_by, pc_by, pc_by, e2, Nat.add_assoc]
theorem z_ctN (p : Nat → Bool) : ∀ n, z_ct p n = nI (fb_ct p n)
  | 0 => rfl
  | n + 1 => by
    rw [z_ct, z_ctN p n, fb_ct_succ]
    cases p n with
    | false => rw [cond_false, if_neg (by decide)]; exact Int32.add_zero _
    | true => rw [cond_true, if_pos rfl]; exact nI_1 _
