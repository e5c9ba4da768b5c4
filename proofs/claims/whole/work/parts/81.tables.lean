/-! the tables of what is likely, as numbers; both sides' answers from them -/
def t_W : List Nat := [1, 0, 0, 0, 0, 0, 0, 0, 0, 0, 0, 0, 0, 1, 0, 1, 1, 1, 1, 1, 1, 1, 1, 1, 1, 1, 1, 0, 2, 2, 8, 22, 52, 114, 240, 494, 1004, 2026, 4072, 1, 0, 3, 3, 21, 63, 243, 969, 3657, 12987, 43959, 143685, 458109, 1, 0, 4, 4, 40, 124, 664, 3196, 15712, 79228, 396616, 1930108, 9079888, 1, 0, 5, 5, 65, 205, 1405, 7425, 44385, 271205, 1666925, 10312945, 63728065, 1, 0, 6, 6, 96, 306, 2556, 14286, 100176, 691146, 4916436, 35769366, 262755576, 1, 0, 7, 7, 133, 427, 4207, 24409, 196105, 1471519, 11773699, 96381061, 802847437, 1, 0, 8, 8, 176, 568, 6448, 38424, 347712, 2775032, 24547664, 219913240, 2024342944, 1, 0, 9, 9, 225, 729, 9369, 56961, 573057, 4794633, 46341081, 445893633, 4464042273, 1, 0, 10, 10, 280, 910, 13060, 80650, 892720, 7753510, 81163900, 827691490, 8915497480, 1, 0, 11, 11, 341, 1111, 17611, 110121, 1329801, 11905091, 134046671, 1434596581, 16496787901, 1, 0, 12, 12, 408, 1332, 23112, 146004, 1909920, 17533044, 211153944, 2353898196, 28725779952, 1, 0, 13, 13, 481, 1573, 29653, 188929, 2661217, 24951277, 319897669, 3692964145, 47602871329, 1, 0, 14, 14, 560, 1834, 37324, 239526, 3614352, 34503938, 469050596, 5581319758, 75701219608, 1, 0, 15, 15, 645, 2115, 46215, 298425, 4802505, 46565415, 668859675, 8172726885, 116264455245, 1, 0, 16, 16, 736, 2416, 56416, 366256, 6261376, 61540336, 931159456, 11647262896, 173311878976]
def t_C : List Nat := [1, 0, 0, 0, 0, 0, 0, 0, 0, 0, 0, 0, 0, 0, 0, 1, 1, 1, 1, 1, 1, 1, 1, 1, 1, 1, 0, 0, 0, 0, 6, 20, 50, 112, 238, 492, 1002, 2024, 4070, 0, 0, 0, 0, 0, 0, 90, 630, 2940, 11508, 40950, 137610, 445896, 0, 0, 0, 0, 0, 0, 0, 0, 2520, 30240, 226800, 1367520, 7271880, 0, 0, 0, 0, 0, 0, 0, 0, 0, 0, 113400, 2079000, 22869000, 0, 0, 0, 0, 0, 0, 0, 0, 0, 0, 0, 0, 7484400, 0, 0, 0, 0, 0, 0, 0, 0, 0, 0, 0, 0, 0, 0, 0, 0, 0, 0, 0, 0, 0, 0, 0, 0, 0, 0, 0, 0, 0, 0, 0, 0, 0, 0, 0, 0, 0, 0, 0, 0, 0, 0, 0, 0, 0, 0, 0, 0, 0, 0, 0, 0, 0, 0, 0, 0, 0, 0, 0, 0, 0, 0, 0, 0, 0, 0, 0, 0, 0, 0, 0, 0, 0, 0, 0, 0, 0, 0, 0, 0, 0, 0, 0, 0, 0, 0, 0, 0, 0, 0, 0, 0, 0, 0, 0, 0, 0, 0, 0, 0, 0, 0, 0, 0, 0, 0, 0, 0, 0, 0, 0, 0, 0, 0, 0, 0, 0, 0, 0, 0, 0, 0, 0, 0, 0, 0, 0, 0, 0, 0]
def tW (k : Nat) : Int64 := lN (t_W.getD k 0)
def tC (k : Nat) : Int64 := lN (t_C.getD k 0)
def r_fsT (T : Nat → Int64) (fw k m : Nat) : Nat → Int64
  | 0 => 0
  | n + 1 => r_fsT T fw k m n + (if fw + n = 1 then 0 else r_choose (nI m) (fw + n) * T (k * 13 + (m - (fw + n))))
theorem fsT_eq {M : zMem} {T : Nat → Int64} {kd fw k m : Nat} (hm : m < 13) (h : ∀ j, j < 13 → M.2 kd (k * 13 + j) = T (k * 13 + j)) : ∀ n, r_fs M kd fw k m n = r_fsT T fw k m n
  | 0 => rfl
  | n + 1 => by rw [r_fs, r_fsT, fsT_eq hm h n, h (m - (fw + n)) (by omega)]
theorem zl_S {M : zMem} {kd k : Nat} {x : Int64} : (z_upL M kd k x).2 kd k = x := by simp [z_upL]
theorem zl_N {M : zMem} {kd k a b : Nat} {x : Int64} (h : ¬ (a = kd ∧ b = k)) : (z_upL M kd k x).2 a b = M.2 a b := by
  rw [z_upL2, if_neg h]
theorem fl_in {T : Nat → Int64} {kd fw k : Nat} {M : zMem} (hk : k < 16) (hT : ∀ k, k < 16 → ∀ m, m < 13 → r_fsT T fw k m (m + 1 - fw) = T ((k + 1) * 13 + m)) (h : ∀ j, j < (k + 1) * 13 → M.2 kd j = T j) :
    ∀ m, m ≤ 13 → (∀ j, j < (k + 1) * 13 + m → (z_it (f_fl kd fw k) m M).2 kd j = T j) ∧ (z_it (f_fl kd fw k) m M).1 = M.1 ∧ ∀ a b, ¬ a = kd → (z_it (f_fl kd fw k) m M).2 a b = M.2 a b
  | 0, _ => ⟨h, rfl, fun _ _ _ => rfl⟩
  | m + 1, hm => by
    obtain ⟨i1, i2, i3⟩ := fl_in hk hT h m (by omega)
    rw [z_itS, f_fl]
    generalize z_it (f_fl kd fw k) m M = M2 at *
    refine ⟨fun j hj => ?_, i2, fun a b ha => ?_⟩
    · by_cases e : j = (k + 1) * 13 + m
      · subst e
        rw [zl_S, fsT_eq (T := T) (by omega) (fun j hj => i1 _ (by omega)), hT k hk m (by omega)]
      · rw [zl_N (fun z => e z.2), i1 j (by omega)]
    · rw [zl_N (fun z => ha z.1), i3 a b ha]
theorem fl_all {T : Nat → Int64} {kd fw : Nat} {M : zMem} (h0 : ∀ j, j < 13 → M.2 kd j = T j) (hT : ∀ k, k < 16 → ∀ m, m < 13 → r_fsT T fw k m (m + 1 - fw) = T ((k + 1) * 13 + m)) :
    ∀ k, k ≤ 16 → (∀ j, j < (k + 1) * 13 → (z_it (fun k M => z_it (f_fl kd fw k) 13 M) k M).2 kd j = T j) ∧ (z_it (fun k M => z_it (f_fl kd fw k) 13 M) k M).1 = M.1 ∧ ∀ a b, ¬ a = kd → (z_it (fun k M => z_it (f_fl kd fw k) 13 M) k M).2 a b = M.2 a b
  | 0, _ => ⟨fun j hj => h0 j (by omega), rfl, fun _ _ _ => rfl⟩
  | k + 1, hk => by
    obtain ⟨i1, i2, i3⟩ := fl_all h0 hT k (by omega)
    rw [z_itS]
    generalize z_it (fun k M => z_it (f_fl kd fw k) 13 M) k M = M2 at *
    obtain ⟨j1, j2, j3⟩ := fl_in (kd := kd) (fw := fw) (M := M2) (by omega) hT i1 13 (by omega)
    exact ⟨fun j hj => j1 j (by omega), j2.trans i2, fun a b ha => (j3 a b ha).trans (i3 a b ha)⟩
theorem tW_step : ∀ k, k < 16 → ∀ m, m < 13 → r_fsT tW 0 k m (m + 1 - 0) = tW ((k + 1) * 13 + m) := by decide +kernel
theorem tC_step : ∀ k, k < 16 → ∀ m, m < 13 → r_fsT tC 2 k m (m + 1 - 2) = tC ((k + 1) * 13 + m) := by decide +kernel
theorem tW_0 : ∀ j, j < 13 → tW j = if j = 0 then 1 else 0 := by decide +kernel
theorem tC_0 : ∀ j, j < 13 → tC j = if j = 0 then 1 else 0 := by decide +kernel
theorem fill_W {M : zMem} (h0 : ∀ j, j < 13 → M.2 45 j = 0) : (∀ j, j < 221 → (m_fill M 45 0).2 45 j = tW j) ∧ (m_fill M 45 0).1 = M.1 ∧ ∀ a b, ¬ a = 45 → (m_fill M 45 0).2 a b = M.2 a b := by
  obtain ⟨i1, i2, i3⟩ := fl_all (T := tW) (kd := 45) (fw := 0) (M := z_upL M 45 0 1) (fun j hj => by
    rw [tW_0 j hj]
    by_cases e : j = 0
    · subst e
      rw [zl_S]
      rfl
    · rw [zl_N (fun z => e z.2), h0 j hj, if_neg e]) tW_step 16 (by omega)
  exact ⟨fun j hj => i1 j (by omega), i2, fun a b ha => (i3 a b ha).trans (zl_N (fun z => ha z.1))⟩
theorem fill_C {M : zMem} (h0 : ∀ j, j < 13 → M.2 46 j = 0) : (∀ j, j < 221 → (m_fill M 46 2).2 46 j = tC j) ∧ (m_fill M 46 2).1 = M.1 ∧ ∀ a b, ¬ a = 46 → (m_fill M 46 2).2 a b = M.2 a b := by
  obtain ⟨i1, i2, i3⟩ := fl_all (T := tC) (kd := 46) (fw := 2) (M := z_upL M 46 0 1) (fun j hj => by
    rw [tC_0 j hj]
    by_cases e : j = 0
    · subst e
      rw [zl_S]
      rfl
    · rw [zl_N (fun z => e z.2), h0 j hj, if_neg e]) tC_step 16 (by omega)
  exact ⟨fun j hj => i1 j (by omega), i2, fun a b ha => (i3 a b ha).trans (zl_N (fun z => ha z.1))⟩
/-- the reference's table -/
def r_csT (T : Nat → Int64) (c m : Nat) : Nat → Int64
  | 0 => if c = 0 ∧ m = 0 then 1 else 0
  | n + 1 => r_csT T c m n + r_choose (nI m) (2 + n) * T (13 * (c - 1) + m - (2 + n))
theorem csT_eq {M : zMem} {T : Nat → Int64} {c m : Nat} (h : ∀ j, j < 13 * c → M.2 47 j = T j) (hc : 1 ≤ c) (hm : m < 13) : ∀ n, n ≤ m - 1 → r_cs M c m n = r_csT T c m n
  | 0, _ => rfl
  | n + 1, hn => by rw [r_cs, r_csT, csT_eq h hc hm n (by omega), h _ (by omega)]
theorem tC_cs : ∀ c, c < 17 → ∀ m, m < 13 → r_csT tC c m (if c = 0 then 0 else m - 1) = tC (13 * c + m) := by decide +kernel
theorem cr_in {c : Nat} {M : zMem} (hc : c < 17) (h : ∀ j, j < 13 * c → M.2 47 j = tC j) :
    ∀ m, m ≤ 13 → (∀ j, j < 13 * c + m → (z_it (f_cr c) m M).2 47 j = tC j) ∧ (z_it (f_cr c) m M).1 = M.1 ∧ ∀ a b, ¬ a = 47 → (z_it (f_cr c) m M).2 a b = M.2 a b
  | 0, _ => ⟨h, rfl, fun _ _ _ => rfl⟩
  | m + 1, hm => by
    obtain ⟨i1, i2, i3⟩ := cr_in hc h m (by omega)
    rw [z_itS, f_cr]
    generalize z_it (f_cr c) m M = M2 at *
    refine ⟨fun j hj => ?_, i2, fun a b ha => ?_⟩
    · by_cases e : j = 13 * c + m
      · subst e
        rw [zl_S, ← tC_cs c hc m (by omega)]
        by_cases c0 : c = 0
        · rw [if_pos c0]
          rfl
        · rw [if_neg c0, csT_eq (T := tC) (fun j hj => i1 j (by omega)) (by omega) (by omega) _ (Nat.le_refl _)]
      · rw [zl_N (fun z => e z.2), i1 j (by omega)]
    · rw [zl_N (fun z => ha z.1), i3 a b ha]
theorem cr_all {M : zMem} : ∀ c, c ≤ 17 → (∀ j, j < 13 * c → (z_it (fun c M => z_it (f_cr c) 13 M) c M).2 47 j = tC j) ∧ (z_it (fun c M => z_it (f_cr c) 13 M) c M).1 = M.1 ∧ ∀ a b, ¬ a = 47 → (z_it (fun c M => z_it (f_cr c) 13 M) c M).2 a b = M.2 a b
  | 0, _ => ⟨fun j hj => absurd hj (by omega), rfl, fun _ _ _ => rfl⟩
  | c + 1, hc => by
    obtain ⟨i1, i2, i3⟩ := cr_all (M := M) c (by omega)
    rw [z_itS]
    generalize z_it (fun c M => z_it (f_cr c) 13 M) c M = M2 at *
    obtain ⟨j1, j2, j3⟩ := cr_in (by omega) i1 13 (by omega)
    exact ⟨fun j hj => j1 j (by omega), j2.trans i2, fun a b ha => (j3 a b ha).trans (i3 a b ha)⟩
theorem crowds_C {M : zMem} : (∀ j, j < 221 → (n_crowds M).2 47 j = tC j) ∧ (n_crowds M).1 = M.1 ∧ ∀ a b, ¬ a = 47 → (n_crowds M).2 a b = M.2 a b := by
  obtain ⟨i1, i2, i3⟩ := cr_all (M := M) 17 (by omega)
  exact ⟨fun j hj => i1 j (by omega), i2, i3⟩
-- ways
def r_mWaysT (n e s c : Nat) : Int64 := r_wp (r_choose (nI (e + s + c)) e * r_choose (nI (s + c)) s) n s * tC (13 * c + n - s)
def r_mWT (n L s : Nat) : Nat → Int64
  | 0 => 0
  | c + 1 => r_mWT n L s c + (if tC (13 * c + n - s) = 0 then 0 else r_mWaysT n (L - s - c) s c)
theorem mWT_eq {M : zMem} (h : ∀ j, j < 221 → M.2 47 j = tC j) {n L s : Nat} (hn : n ≤ 12) (hL : L ≤ 16) : ∀ c, c ≤ L + 1 - s → r_mW M n L s c = r_mWT n L s c
  | 0, _ => rfl
  | c + 1, hc => by rw [r_mW, r_mWT, mWT_eq h hn hL c (by omega), r_mWays, r_mWaysT, h _ (by omega)]
theorem ways_T : ∀ n, n < 13 → ∀ q, q < 5 → ∀ s, s < n + 1 → (if s ≤ 2 ^ q then r_choose (nI (2 ^ q)) s * r_inRow (nI n) s * tW ((2 ^ q - s) * 13 + (n - s)) else 0) = r_mWT n (2 ^ q) s (2 ^ q + 1 - s) := by decide +kernel
theorem e_ways {M M2 : zMem} (h : ∀ j, j < 221 → M.2 45 j = tW j) {n q s : Nat} (hn : n ≤ 12) (hq : q ≤ 4) (hs : s ≤ n) : r_waysOf M n q s = r_mW (n_crowds M2) n (2 ^ q) s (2 ^ q + 1 - s) := by
  have hL : 2 ^ q ≤ 16 := Nat.pow_le_pow_right (n := 2) (by decide) hq
  rw [mWT_eq crowds_C.1 hn hL _ (Nat.le_refl _), ← ways_T n (by omega) q (by omega) s (by omega), r_waysOf]
  split
  · rw [h _ (by omega)]
  · rfl
-- best
theorem e_best : ∀ n, n < 13 → 1 ≤ n → r_bst (nI n) 4 = nI (r_bO n 4) := by decide +kernel
-- hope
theorem e_hope : ∀ n, n < 13 → ∀ q, q < 5 → r_dn 60 (r_hA n q) (r_hB n q) = true ∧ ¬ r_cd 61 (r_hA n q) (r_hB n q) = 0 ∧ r_hopeOf (nI n) (nI q) 0 = r_hA n q / r_cd 61 (r_hA n q) (r_hB n q) ∧ r_hopeOf (nI n) (nI q) 1 = r_hB n q / r_cd 61 (r_hA n q) (r_hB n q) := by decide +kernel
-- guess
def r_gsT (L s c : Nat) : Nat → Int32 × Int64
  | 0 => (-1, 0)
  | k + 1 =>
    let p := r_gsT L s c k
    let v := r_inRow (nI (s + k)) s * tC (c * 13 + (s + k - s)) * r_raised (nI L).toInt64 (12 - (s + k))
    if p.2 < v then (nI (s + k), v) else p
def r_gOT (e s c q : Nat) : Nat → Int32 × Int64
  | 0 => (-1, 0)
  | n + 1 =>
    let p := r_gOT e s c q n
    if n < s ∨ tC (13 * c + n - s) = 0 then p
    else
      let v := r_mWaysT n e s c <<< ((nI q * (nI 12 - nI n)).toInt64 &&& 63)
      if p.2 < v then (nI n, v) else p
theorem gsT_eq {M : zMem} (h : ∀ j, j < 221 → M.2 46 j = tC j) {L s c : Nat} (hc : c ≤ 16) : ∀ k, k ≤ 13 - s → r_gs M L s c k = r_gsT L s c k
  | 0, _ => rfl
  | k + 1, hk => by
    rw [r_gs, r_gsT, gsT_eq h hc k (by omega), r_gw, h _ (by omega)]
theorem gOT_eq {M : zMem} (h : ∀ j, j < 221 → M.2 47 j = tC j) {e s c q : Nat} (hc : c ≤ 16) : ∀ n, n ≤ 13 → r_gO M e s c q n = r_gOT e s c q n
  | 0, _ => rfl
  | n + 1, hn => by
    rw [r_gO, r_gOT, gOT_eq h hc n (by omega)]
    by_cases c1 : n < s
    · rw [if_pos (.inl c1)]
      exact (if_pos (.inl c1)).symm
    · rw [h _ (by omega), r_mWays, h _ (by omega)]
      rfl
theorem guess_T : ∀ q, q < 5 → ∀ s, s < 2 ^ q + 1 → ∀ c, c < 2 ^ q + 1 - s → (r_gsT (2 ^ q) s c (13 - s)).1 = (r_gOT (2 ^ q - s - c) s c q 13).1 := by decide +kernel
theorem e_guess {M M2 : zMem} (h : ∀ j, j < 221 → M.2 46 j = tC j) {e s c q : Nat} (hq : q < 5) (hL : 2 ^ q = e + s + c) : (r_gs M (e + s + c) s c (13 - s)).1 = (r_gO (n_crowds M2) e s c q 13).1 := by
  have h16 : 2 ^ q ≤ 16 := Nat.pow_le_pow_right (n := 2) (by decide) (show q ≤ 4 by omega)
  rw [gsT_eq h (by omega) _ (Nat.le_refl _), gOT_eq crowds_C.1 (by omega) _ (Nat.le_refl _), ← hL, guess_T q hq s (by omega) c (by omega)]
  rw [show 2 ^ q - s - c = e by omega]
