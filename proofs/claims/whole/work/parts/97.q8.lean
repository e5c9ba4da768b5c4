/-! questions: ways, hope, best, guess -/
theorem fr_crowds {J : zMem} : z_fr J (n_crowds J) := by
  obtain ⟨-, h2, h3⟩ := @crowds_C J
  exact ⟨fun a b c d _ _ _ => by rw [h2], fun a b e => h3 a b e⟩
theorem two_ways {J : zMem} {b : Nat} {n q s : Int32} (h : SB J b) : z_two J 143 245 [.inl n, .inl q, .inl s] b := by
  obtain ⟨-, ⟨t1, -⟩, -⟩ := id h
  by_cases c : c_mWays n q s
  · obtain ⟨c1, c2, c3⟩ := c
    obtain ⟨x, hx, rfl⟩ := (isIn_N (by decide)).mp c1
    obtain ⟨y, hy, rfl⟩ := (isIn_N (by decide)).mp c2
    obtain ⟨z, hz, rfl⟩ := (isIn_N (by omega)).mp c3
    refine two_q2 (J3 := n_crowds J) h (v := .inr (.inl (r_mW (n_crowds J) x (2 ^ y) z (2 ^ y + 1 - z)))) (fun _ K hK => ?_) (fun _ K hK => s_mWaysQ hx hy hz hK) fr_crowds (fun p => by rw [crowds_C.2.1])
    refine w9_ways (v := r_waysOf J x y z) (M2 := J) (fun K2 q => s_waysOf hx hy hz q) ?_
    rw [e_ways (M2 := J) t1 hx hy hz]
    exact hK
  · refine two_q h (v := .inr (.inl (-1))) (fun _ K hK => ?_) (fun _ K hK => s_mWays0 c hK)
    refine w9_ways (v := -1) (M2 := J) (fun K2 q9 => s_waysOf0 ?_ q9) hK
    refine Classical.byContradiction (fun y => c ?_)
    have y1 : ¬ r_isKnown n q = 0 := fun z => y (.inl z)
    have y2 : ¬ s < 0 := fun z => y (.inr (.inl z))
    have y3 : s ≤ n := Classical.byContradiction (fun z => y (.inr (.inr z)))
    unfold r_isKnown at y1
    have kn : ¬ n < 0 ∧ ¬ n > 12 ∧ ¬ q < 0 ∧ ¬ q > 4 := Classical.byContradiction (fun z => y1 (if_neg z))
    obtain ⟨k1, k2, k3, k4⟩ := kn
    exact ⟨isIn_iff.mpr ⟨k1, k2⟩, isIn_iff.mpr ⟨k3, k4⟩, isIn_iff.mpr ⟨y2, Int32.not_lt.mpr y3⟩⟩
theorem two_hope {J : zMem} {b : Nat} {n q k : Int32} (h : SB J b) : z_two J 144 247 [.inl n, .inl q, .inl k] b := by
  by_cases c : c_mHope n q k
  · have c' := c
    obtain ⟨c1, c2, c3⟩ := c'
    obtain ⟨x, hx, rfl⟩ := (isIn_N (by decide)).mp c1
    obtain ⟨y, hy, rfl⟩ := (isIn_N (by decide)).mp c2
    obtain ⟨z, hz, rfl⟩ := (isIn_N (N := 1) (by decide)).mp c3
    obtain ⟨e1, e2, e3, e4⟩ := e_hope x (by omega) y (by omega)
    refine two_q h (v := .inr (.inl ((if z = 0 then r_hA x y else r_hB x y) / r_cd 61 (r_hA x y) (r_hB x y)))) (fun _ K hK => ?_) (fun _ K hK => s_mHope hx hy hz e1 e2 hK)
    refine w9_hope (v := r_hopeOf (nI x) (nI y) (nI z)) (M2 := J) (fun K2 q => s_hopeOf (z_known hx hy) (nI_pos (by omega)) (nI_le (b := 1) hz (by omega)) ?_ q) ?_
    · have g : ∀ x, x < 13 → nI x - 1 < 1000 := by decide
      exact g x (by omega)
    · rcases (show z = 0 ∨ z = 1 by omega) with rfl | rfl
      · rw [if_pos rfl, ← e3] at hK
        exact hK
      · rw [if_neg (by decide), ← e4] at hK
        exact hK
  · refine two_q h (v := .inr (.inl (-1))) (fun _ K hK => ?_) (fun _ K hK => s_mHope0 c hK)
    refine w9_hope (v := -1) (M2 := J) (fun K2 q9 => s_hopeOf0 ?_ q9) hK
    refine Classical.byContradiction (fun y => c ?_)
    have y1 : ¬ r_isKnown n q = 0 := fun z => y (.inl z)
    have y2 : ¬ k < 0 := fun z => y (.inr (.inl z))
    have y3 : k ≤ 1 := Classical.byContradiction (fun z => y (.inr (.inr z)))
    unfold r_isKnown at y1
    have kn : ¬ n < 0 ∧ ¬ n > 12 ∧ ¬ q < 0 ∧ ¬ q > 4 := Classical.byContradiction (fun z => y1 (if_neg z))
    obtain ⟨k1, k2, k3, k4⟩ := kn
    exact ⟨isIn_iff.mpr ⟨k1, k2⟩, isIn_iff.mpr ⟨k3, k4⟩, isIn_iff.mpr ⟨y2, Int32.not_lt.mpr y3⟩⟩
theorem two_best {J : zMem} {b : Nat} {n : Int32} (h : SB J b) : z_two J 145 250 [.inl n] b := by
  by_cases c : r_isIn n 1 (nI 12) = 0
  · refine two_q h (v := .inl (-1)) (fun _ K hK => ?_) (fun _ K hK => s_mBest (fun k k1 k2 e => ?_) (fun _ => hK))
    · refine w9_best (v := -1) (M2 := J) (fun K2 q => s_bestFor0 ?_ q) hK
      refine Classical.byContradiction (fun y => ?_)
      refine isIn_iff.mpr ⟨fun z => y (.inl z), fun z => y (.inr (Int32.not_le.mpr z))⟩ c
    · subst e
      have g := z_isInR0 (A := 1) (N := 12) k1 k2 (by decide)
      have g : r_isIn (nI k) 1 (nI 12) = 1 := g
      rw [g] at c
      exact absurd c (by decide)
  · obtain ⟨j, j1, j2, rfl⟩ := z_isInR (A := 1) (N := 12) (by decide) (by decide) c
    refine two_q h (v := .inl (nI (r_bO j 4))) (fun _ K hK => ?_) (fun _ K hK => s_mBest (fun k k1 k2 e => ?_) (fun z => (c z).elim))
    · refine w9_best (v := r_bst (nI j) 4) (M2 := J) (fun K2 q => s_bestFor (nI_nlt (b := 1) j1 (by omega)) (nI_le (b := 12) j2 (by omega)) q) ?_
      rw [e_best j (by omega) j1]
      exact hK
    · have : k = j := ((nI_eq (by omega) (by omega)).mp e).symm
      subst this
      exact hK
theorem bc_16 : ∀ x, x < 49 → (r_bc (nI x) = 1 ∧ x ≤ 16 ↔ ∃ q, q < 5 ∧ 2 ^ q = x) := by
  intro x hx
  have d1 : ∀ x, x < 49 → (r_bc (nI x) = 1 ∧ x ≤ 16 ↔ x = 1 ∨ x = 2 ∨ x = 4 ∨ x = 8 ∨ x = 16) := by decide +kernel
  rw [d1 x hx]
  constructor
  · rintro (rfl | rfl | rfl | rfl | rfl)
    · exact ⟨0, by omega, rfl⟩
    · exact ⟨1, by omega, rfl⟩
    · exact ⟨2, by omega, rfl⟩
    · exact ⟨3, by omega, rfl⟩
    · exact ⟨4, by omega, rfl⟩
  · rintro ⟨q, hq, rfl⟩
    rcases (show q = 0 ∨ q = 1 ∨ q = 2 ∨ q = 3 ∨ q = 4 by omega) with rfl | rfl | rfl | rfl | rfl <;> decide
theorem guess_N {e s c : Nat} (he : e ≤ 16) (hs : s ≤ 16) (hc : c ≤ 16) : c_guess (nI e) (nI s) (nI c) ↔ ∃ q, q < 5 ∧ 2 ^ q = e + s + c := by
  unfold c_guess
  rw [nI_add, nI_add, ← bc_16 (e + s + c) (by omega)]
  have g : ¬ nI (e + s + c) > 16 ↔ e + s + c ≤ 16 := by
    show ¬ nI 16 < nI (e + s + c) ↔ _
    rw [nI_ltI (by decide) (by omega)]
    omega
  rw [g]
  exact ⟨fun ⟨_, _, _, _, _, _, a, b⟩ => ⟨b, a⟩, fun ⟨b, a⟩ => ⟨nI_pos (by omega), nI_nlt (a := 16) he (by omega), nI_pos (by omega), nI_nlt (a := 16) hs (by omega), nI_pos (by omega), nI_nlt (a := 16) hc (by omega), a, b⟩⟩
theorem two_guess {J : zMem} {b : Nat} {e s c : Int32} (h : SB J b) : z_two J 146 252 [.inl e, .inl s, .inl c] b := by
  obtain ⟨-, ⟨-, t2⟩, -⟩ := id h
  by_cases r : r_isIn e 0 (nI 16) = 0 ∨ r_isIn s 0 (nI 16) = 0 ∨ r_isIn c 0 (nI 16) = 0
  · refine two_q h (v := .inl (-1)) (fun _ K hK => ?_) (fun _ K hK => s_mGuess0 r hK)
    refine w9_guess (v := -1) (M2 := J) (fun K2 q => s_guess0 (fun z => ?_) q) hK
    obtain ⟨z1, z2, z3, z4, z5, z6, -⟩ := z
    rcases r with r | r | r
    · exact isIn_iff.mpr ⟨z1, z2⟩ r
    · exact isIn_iff.mpr ⟨z3, z4⟩ r
    · exact isIn_iff.mpr ⟨z5, z6⟩ r
  · obtain ⟨x, hx, rfl⟩ := (isIn_N (by decide)).mp (fun z => r (.inl z))
    obtain ⟨y, hy, rfl⟩ := (isIn_N (by decide)).mp (fun z => r (.inr (.inl z)))
    obtain ⟨z, hz, rfl⟩ := (isIn_N (by decide)).mp (fun z => r (.inr (.inr z)))
    have g := guess_N hx hy hz
    by_cases q : ∃ q, q < 5 ∧ 2 ^ q = x + y + z
    · have cg := g.mpr q
      obtain ⟨q, hq, hL⟩ := q
      have h16 : 2 ^ q ≤ 16 := Nat.pow_le_pow_right (n := 2) (by decide) (show q ≤ 4 by omega)
      refine two_q2 (J3 := n_crowds J) h (v := .inl (r_gO (n_crowds J) x y z q 13).1) (fun _ K hK => ?_) (fun _ K hK => s_mGuess hx hy hz (fun K2 q2 => s_guessOf hx hy hz hq hL q2) hK) fr_crowds (fun p => by rw [crowds_C.2.1])
      refine w9_guess (v := (r_gs J (x + y + z) y z (13 - y)).1) (M2 := J) (fun K2 q => s_guess cg (by omega) q) ?_
      rw [e_guess (M2 := J) t2 hq hL]
      exact hK
    · refine two_q h (v := .inl (-1)) (fun _ K hK => ?_) (fun _ K hK => s_mGuess hx hy hz (fun K2 q2 => s_guessOf0 (by omega) (fun k hk e => q ⟨k, hk, e⟩) q2) hK)
      exact w9_guess (v := -1) (M2 := J) (fun K2 q2 => s_guess0 (fun w => q (g.mp w)) q2) hK
