/-! questions of rows: prefix, learnt -/
theorem cd_n (x : zX) (h1 : x.1 ≤ 16) (h2 : x.2.1 < 65536) : x.2.1 + 65536 * x.1 + (if x.2.2 = true then 16777216 else 0) < 33554432 := by
  split <;> omega
theorem cd_len {x : zX} (h1 : x.1 ≤ 16) (h2 : x.2.1 < 65536) : r_lengthOf (x_cd x) = nI x.1 := by
  have hn := cd_n x h1 h2
  unfold r_lengthOf x_cd
  have e := pk_shrN (n := x.2.1 + 65536 * x.1 + (if x.2.2 = true then 16777216 else 0)) (by omega) (16 &&& 31) 16 (s_l 16 (by decide))
  rw [e]
  refine (fa_mask _ 5).trans ?_
  congr 1
  split <;> omega
theorem cd_bits {x : zX} (h1 : x.1 ≤ 16) (h2 : x.2.1 < 65536) : r_bitsOf (x_cd x) = nI x.2.1 := by
  unfold r_bitsOf x_cd
  rw [nx_mod]
  congr 1
  split <;> omega
theorem cd_mark {x : zX} (h1 : x.1 ≤ 16) (h2 : x.2.1 < 65536) : (if x_cd x &&& 16777216 = 0 then (0 : Int32) else 1) = (if x.2.2 = true then 1 else 0) := by
  have key : x_cd x &&& 16777216 = 0 ↔ ¬ x.2.2 = true := by
    unfold x_cd
    refine (fa_bit (j := 24) (by decide)).trans ?_
    rw [Nat.testBit_eq_decide_div_mod_eq, decide_eq_false_iff_not]
    split
    · rename_i c
      exact ⟨fun z => (z (by omega)).elim, fun z => (z c).elim⟩
    · rename_i c
      exact ⟨fun _ => c, fun _ => by omega⟩
  by_cases c : x.2.2 = true
  · rw [if_neg (fun z => key.mp z c), if_pos c]
  · rw [if_pos (key.mpr c), if_neg c]
theorem cd_m1 {x : zX} (h1 : x.1 ≤ 16) (h2 : x.2.1 < 65536) : ¬ x_cd x = -1 := fun z => by
  have hn := cd_n x h1 h2
  unfold x_cd at z
  exact absurd (z ▸ nI_pos (n := x.2.1 + 65536 * x.1 + (if x.2.2 = true then 16777216 else 0)) (by omega)) (by decide)
theorem x_okm {lo hi : Nat} {l : List zX} {y : zX} (h : x_ch lo l hi) (hh : hi ≤ 65536) (hy : y ∈ l) : y.1 ≤ 16 ∧ y.2.1 < 65536 ∧ y.2.1 < 2 ^ y.1 := by
  obtain ⟨a, b, c⟩ := x_mem h hy
  have p := x_pos y
  have q : y.2.1 * 1 ≤ y.2.1 * x_sz y := Nat.mul_le_mul_left _ p
  refine ⟨a, by omega, ?_⟩
  have e : 2 ^ y.1 * x_sz y = 65536 := by
    unfold x_sz
    rw [← Nat.pow_add, show y.1 + (16 - y.1) = 16 by omega]
  have d : (y.2.1 + 1) * x_sz y ≤ 2 ^ y.1 * x_sz y := by
    rw [Nat.succ_mul]
    omega
  exact Nat.le_of_mul_le_mul_right d p
/-- a place of a row, and one that is none -/
theorem at_in {M : zMem} {w o n j : Nat} (h : M.1 3 w o 1 = nI n) (hn : n ≤ 512) (hj : j < n) : r_pfxAt M w o (nI j) = M.1 22 w o j := by
  unfold r_pfxAt
  rw [h, nI_clamp (by omega), if_neg]
  rintro (z | z | z)
  · exact nI_pos (by omega) z
  · exact nI_ge hj (by omega) z
  · exact nI_ge (b := 512) (by omega) (by omega) z
theorem at_out {M : zMem} {w o n : Nat} {k : Int32} (h : M.1 3 w o 1 = nI n) (hn : n ≤ 512) (hk : ¬ ∃ j, j < n ∧ k = nI j) : r_pfxAt M w o k = -1 := by
  unfold r_pfxAt
  rw [h]
  by_cases c : k < 0 ∨ k ≥ nI n ∨ k ≥ 512
  · rw [if_pos c]
  · exfalso
    obtain ⟨j, hj, rfl⟩ := nI_of (fun z => c (.inl z))
    have c2 : ¬ nI n ≤ nI j := fun z => c (.inr (.inl z))
    rw [nI_leI (by omega) hj] at c2
    exact hk ⟨j, by omega, rfl⟩
theorem tells_in {M : zMem} {w o n j t : Nat} {x : zX} (h : M.1 3 w o 1 = nI n) (hn : n ≤ 512) (hj : j < n) (e : M.1 22 w o j = x_cd x) (h1 : x.1 ≤ 16) (h2 : x.2.1 < 65536) (ht : t ≤ 2) : r_pfxTells M w o (nI j) (nI t) = (if t = 0 then nI x.1 else if t = 1 then nI x.2.1 else if x.2.2 = true then 1 else 0) := by
  unfold r_pfxTells
  rw [at_in h hn hj, e, if_neg (cd_m1 h1 h2)]
  rcases (show t = 0 ∨ t = 1 ∨ t = 2 by omega) with rfl | rfl | rfl
  · rw [if_pos (show nI 0 = 0 from rfl), if_pos rfl, cd_len h1 h2]
  · rw [if_neg (by decide), if_pos (show nI 1 = 1 from rfl), if_neg (by decide), if_pos rfl, cd_bits h1 h2]
  · rw [if_neg (show ¬ nI 2 = 0 by decide), if_neg (show ¬ nI 2 = 1 by decide), if_pos (show nI 2 = 2 from rfl), cd_mark h1 h2, if_neg (show ¬ 2 = 0 by decide), if_neg (show ¬ 2 = 1 by decide)]
theorem tells_out {M : zMem} {w o n : Nat} {k t : Int32} (h : M.1 3 w o 1 = nI n) (hn : n ≤ 512) (hk : ¬ ∃ j, j < n ∧ k = nI j) : r_pfxTells M w o k t = -1 := by
  unfold r_pfxTells
  rw [at_out h hn hk, if_pos rfl]
theorem tells_t {M : zMem} {w o : Nat} {k t : Int32} (ht : ¬ ∃ j, j ≤ 2 ∧ t = nI j) : r_pfxTells M w o k t = -1 := by
  unfold r_pfxTells
  split
  · rfl
  · rw [if_neg (show ¬ t = 0 from fun z => ht ⟨0, by omega, z⟩), if_neg (show ¬ t = 1 from fun z => ht ⟨1, by omega, z⟩), if_neg (show ¬ t = 2 from fun z => ht ⟨2, by omega, z⟩)]
theorem two_learnt {J : zMem} {b : Nat} {r i k : Int32} (h : SB J b) : z_two J 136 228 [.inl r, .inl i, .inl k] b := by
  obtain ⟨T, c, hT, hc, hs⟩ := h.1
  obtain ⟨h1, h2, h3, h4, h5, h6, h7, h8, h9⟩ := hs
  have hm : ∀ j, j < 4 → ∃ m, m ≤ 900 ∧ J.1 24 0 0 (330 + j) = nI m := fun j hj => by
    obtain ⟨l, a, _, _, b⟩ := (h9 j hj).2.2.2.2.1
    exact ⟨l.length, by omega, a.2.1⟩
  by_cases e : ∃ j k2 m x, c_mLearnt J r i k j k2 m x
  · obtain ⟨j, k2, m, x, hj, hm1, hx, rfl, hm2, hk, rfl, rfl⟩ := e
    have cl : (nI j).toNatClampNeg = j := nI_clamp (by omega)
    obtain ⟨l, a, ch, -, a6⟩ := (h9 j hj).2.2.2.2.1
    have : l.length = m := (nI_eq (by omega) (by omega)).mp (a.2.1.symm.trans hm2)
    subst this
    obtain ⟨a1, a2, a3, a4⟩ := a.2.2 k2 hk
    obtain ⟨o1, o2, -⟩ := x_okm ch (Nat.le_refl _) (List.getElem_mem hk)
    have ea : a_ln j k2 = a_ln j 0 + 3 * k2 := by unfold a_ln; omega
    refine two_q h (v := .inl (J.1 24 0 0 (a_ln j k2 + x))) (fun _ K hK => ?_) (fun _ K hK => ?_)
    · refine s9_learnt (fun _ => ?_) (fun z => (z.elim (nI_pos (by omega)) (nI_ge (b := 4) (by omega) (by omega))).elim)
      rw [cl, tells_in a.1 (by omega) hk a1 o1 o2 hx]
      rw [ea] at hK
      rcases (show x = 0 ∨ x = 1 ∨ x = 2 by omega) with rfl | rfl | rfl
      · rw [if_pos rfl, ← a2]
        exact hK
      · rw [if_neg (by decide), if_pos rfl, ← a3]
        exact hK
      · rw [if_neg (by decide), if_neg (by decide), ← a4]
        exact hK
    · refine s_mLearnt hm (fun j2 k3 m3 x2 q => ?_) (fun z => (z ⟨j, k2, l.length, x, hj, hm1, hx, rfl, hm2, hk, rfl, rfl⟩).elim)
      obtain ⟨q1, q2, q3, q4, q5, q6, q7, q8⟩ := q
      have e1 : j2 = j := ((nI_eq (by omega) (by omega)).mp q4).symm
      have e2 : k3 = k2 := ((nI_eq (by omega) (by omega)).mp q7).symm
      have e3 : x2 = x := ((nI_eq (by omega) (by omega)).mp q8).symm
      subst e1 e2 e3
      exact hK
  · refine two_q h (v := .inl (-1)) (fun _ K hK => ?_) (fun _ K hK => ?_)
    · refine s9_learnt (fun z => ?_) (fun _ => hK)
      obtain ⟨j, hj, rfl, cl, -⟩ := rd_of z
      obtain ⟨l, a, -, -, a6⟩ := (h9 j hj).2.2.2.2.1
      rw [cl]
      by_cases ct : ∃ x, x ≤ 2 ∧ k = nI x
      · obtain ⟨x, hx, rfl⟩ := ct
        rw [tells_out a.1 (by omega) (fun ⟨k2, hk, y⟩ => e ⟨j, k2, l.length, x, hj, by omega, hx, rfl, a.2.1, hk, y, rfl⟩)]
        exact hK
      · rw [tells_t ct]
        exact hK
    · exact s_mLearnt hm (fun j k2 m x z => (e ⟨j, k2, m, x, z⟩).elim) (fun _ => hK)
theorem S_row {M : zMem} {w r b : Nat} {R : Nat → Int32} (h : S_R z_F M w R b r) : (R (278 + r) = 0 ∧ M.1 3 w (3 * r) 1 = nI 0) ∨ (R (278 + r) = 1 ∧ ∃ n, n ≤ 488 ∧ M.1 3 w (3 * r) 1 = nI n ∧ R (326 + r) = nI n ∧ ∀ j, j < n → ∃ x : zX, x.1 ≤ 16 ∧ x.2.1 < 65536 ∧ M.1 22 w (3 * r) (n - 1 - j) = x_cd x ∧ R (a_rw r 0 + 3 * j) = nI x.1 ∧ R (a_rw r 0 + 3 * j + 1) = nI x.2.1) := by
  obtain ⟨k1, k2, k3, k4, k5, k7⟩ := h
  obtain ⟨k7, k8, k9⟩ := k7 (fun z => z)
  rcases k2.2.1 with z | z
  · exact .inl ⟨z, (k7 z).1⟩
  · refine .inr ⟨z, ?_⟩
    obtain ⟨x, hx, e⟩ := k2.2.2.2.2.2.2.1
    have sl : (R (294 + r) = nI 0 ∨ R (294 + r) = nI 2) → ∃ n, n ≤ 488 ∧ M.1 3 w (3 * r) 1 = nI n ∧ R (326 + r) = nI n ∧ ∀ j, j < n → ∃ x : zX, x.1 ≤ 16 ∧ x.2.1 < 65536 ∧ M.1 22 w (3 * r) (n - 1 - j) = x_cd x ∧ R (a_rw r 0 + 3 * j) = nI x.1 ∧ R (a_rw r 0 + 3 * j + 1) = nI x.2.1 := fun y => by
      obtain ⟨a, a2, -⟩ := k8 z y
      exact ⟨0, by omega, a, a2, fun j hj => by omega⟩
    have tr : (R (294 + r) = nI 1 ∨ R (294 + r) = nI 3) → ∃ n, n ≤ 488 ∧ M.1 3 w (3 * r) 1 = nI n ∧ R (326 + r) = nI n ∧ ∀ j, j < n → ∃ x : zX, x.1 ≤ 16 ∧ x.2.1 < 65536 ∧ M.1 22 w (3 * r) (n - 1 - j) = x_cd x ∧ R (a_rw r 0 + 3 * j) = nI x.1 ∧ R (a_rw r 0 + 3 * j + 1) = nI x.2.1 := fun y => by
      obtain ⟨ro, al, a1, a2, a3, a4, a5, -⟩ := k9 z y
      refine ⟨ro.length, by omega, a1.1, a1.2.1, fun j hj => ?_⟩
      obtain ⟨c1, c2, c3⟩ := a1.2.2 j hj
      obtain ⟨o1, o2, -⟩ := x_okm a4 (Nat.le_refl _) (List.mem_append.mpr (.inr (List.getElem_mem hj)))
      exact ⟨(ro[j].1, ro[j].2.1, false), o1, o2, c1, c2, c3⟩
    rcases (show x = 0 ∨ x = 1 ∨ x = 2 ∨ x = 3 by omega) with rfl | rfl | rfl | rfl
    · exact sl (.inl e)
    · exact tr (.inl e)
    · exact sl (.inr e)
    · exact tr (.inr e)
theorem sub_1 {a : Nat} (h : 1 ≤ a) : nI a - 1 = nI (a - 1) := sub_n (b := 1) h
theorem back_i {m i : Int32} {q : Nat} (h : m - 1 - i = nI q) : i = m - 1 - nI q := by
  rw [← h]
  grind
theorem two_prefix {J : zMem} {b : Nat} {r i k : Int32} (h : SB J b) : z_two J 135 227 [.inl r, .inl i, .inl k] b := by
  obtain ⟨T, c, hT, hc, hs⟩ := h.1
  obtain ⟨h1, h2, h3, h4, h5, h6, h7, h8, h9⟩ := hs
  have hm : ∀ j, j < 4 → ∃ m, m ≤ 900 ∧ J.1 24 0 0 (326 + j) = nI m := fun j hj => (h9 j hj).2.1.2.2.2.2.2.2.2.2
  by_cases e : ∃ j k2 m x, c_mPrefix J r i k j k2 m x
  · obtain ⟨j, k2, m, x, hj, hm1, hx, rfl, h0, hm2, hk, rfl, rfl⟩ := e
    have cl : (nI j).toNatClampNeg = j := nI_clamp (by omega)
    rcases S_row (h9 j hj) with ⟨z, -⟩ | ⟨z, n, n1, n2, n3, n4⟩
    · exact (h0 z).elim
    · have : n = m := (nI_eq (by omega) (by omega)).mp (n3.symm.trans hm2)
      subst this
      obtain ⟨y, o1, o2, a1, a2, a3⟩ := n4 k2 hk
      have ea : a_rw j k2 = a_rw j 0 + 3 * k2 := by unfold a_rw; omega
      refine two_q h (v := .inl (J.1 24 0 0 (a_rw j k2 + x))) (fun _ K hK => ?_) (fun _ K hK => ?_)
      · refine s9_prefix (fun _ _ _ => ?_) (fun z => ?_)
        · have ei : J.1 3 0 (3 * j) 1 - 1 - nI k2 = nI (n - 1 - k2) := by
            rw [n2, sub_1 (by omega), sub_n (by omega)]
          rw [cl, ei, tells_in n2 (by omega) (by omega) a1 o1 o2 (by omega)]
          rw [ea] at hK
          rcases (show x = 0 ∨ x = 1 by omega) with rfl | rfl
          · rw [if_pos rfl, ← a2]
            exact hK
          · rw [if_neg (by decide), if_pos rfl, ← a3]
            exact hK
        · exfalso
          rcases z with z | z | z
          · exact z.elim (nI_pos (by omega)) (nI_ge (b := 4) (by omega) (by omega))
          · exact nI_pos (by omega) z
          · exact nI_nlt (a := x) (b := x) (Nat.le_refl _) (by omega) (Int32.lt_of_le_of_lt (nI_le (b := 1) (by omega) (by omega)) z)
      · refine s_mPrefix hm (fun j2 k3 m3 x2 q => ?_) (fun z => (z ⟨j, k2, n, x, hj, hm1, hx, rfl, h0, hm2, hk, rfl, rfl⟩).elim)
        obtain ⟨q1, q2, q3, q4, q0, q5, q6, q7, q8⟩ := q
        have e1 : j2 = j := ((nI_eq (by omega) (by omega)).mp q4).symm
        have e2 : k3 = k2 := ((nI_eq (by omega) (by omega)).mp q7).symm
        have e3 : x2 = x := ((nI_eq (by omega) (by omega)).mp q8).symm
        subst e1 e2 e3
        exact hK
  · refine two_q h (v := .inl (-1)) (fun _ K hK => ?_) (fun _ K hK => ?_)
    · refine s9_prefix (fun z z2 z3 => ?_) (fun _ => hK)
      obtain ⟨j, hj, rfl, cl, -⟩ := rd_of z
      obtain ⟨x, hx, rfl⟩ := nI_of z2
      have z3 : nI x ≤ nI 1 := z3
      rw [nI_leI hx (by decide)] at z3
      rw [cl]
      have out : r_pfxTells J 0 (3 * j) (J.1 3 0 (3 * j) 1 - 1 - i) (nI x) = -1 := by
        rcases S_row (h9 j hj) with ⟨_, n2⟩ | ⟨y, n, n1, n2, n3, n4⟩
        · exact tells_out n2 (by omega) (fun ⟨q, hq, _⟩ => by omega)
        · refine tells_out n2 (by omega) (fun ⟨q, hq, ei⟩ => ?_)
          have e2 := back_i ei
          rw [n2, sub_1 (by omega), sub_n (by omega)] at e2
          exact e ⟨j, n - 1 - q, n, x, hj, by omega, z3, rfl, by rw [y]; decide, n3, by omega, e2, rfl⟩
      rw [out]
      exact hK
    · exact s_mPrefix hm (fun j k2 m x z => (e ⟨j, k2, m, x, z⟩).elim) (fun _ => hK)
