/-! questions of readers: jammed, read, reader -/
theorem ex_iff {p : Nat → Bool} : ∀ {f s : Nat}, z_ex p f s = true ↔ ∃ i, s ≤ i ∧ i < s + f ∧ p i = true
  | 0, s => by
    unfold z_ex
    exact ⟨fun z => absurd z (by decide), fun ⟨i, a, b, _⟩ => by omega⟩
  | f + 1, s => by
    unfold z_ex
    rw [Bool.or_eq_true, ex_iff]
    constructor
    · rintro (h | ⟨i, a, b, c⟩)
      · exact ⟨s, Nat.le_refl _, by omega, h⟩
      · exact ⟨i, by omega, by omega, c⟩
    · rintro ⟨i, a, b, c⟩
      by_cases e : i = s
      · subst e
        exact .inl c
      · exact .inr ⟨i, by omega, by omega, c⟩
theorem rb_has {M : zMem} {w i r : Nat} : r_isReachedBy M w i (nI r) = r_has (M.1 7 w i 2) (nI r) := rfl
theorem has_01 (x k : Int32) : r_has x k = 0 ∨ r_has x k = 1 := by
  unfold r_has
  split
  · exact .inr rfl
  · exact .inl rfl
theorem mk4B (p : Nat → Bool) {i : Nat} (hi : i < 4) : z_mk p 4 >>> (nI i &&& 31) &&& 1 = if p i = true then 1 else 0 := by
  rw [z_bit _ (by omega), bt_mk p 4 (by decide) i (by omega), decide_eq_true hi, Bool.true_and]
theorem e_jam {M Mr : zMem} {w i r : Nat} (hr : r < 4) (hrd : ∀ o, o < 4 → M.1 4 w o 1 = Mr.1 24 0 0 (278 + o) ∧ (Mr.1 24 0 0 (278 + o) = 0 ∨ Mr.1 24 0 0 (278 + o) = 1) ∧ M.1 4 w o 4 = Mr.1 24 0 0 (274 + o)) (h2 : M.1 7 w i 2 = Mr.1 24 0 0 (502 + i)) (h4 : M.1 7 w i 4 = nI r) : r_isJammed M w i (r_readersTaking M w) = r_mJam Mr i r := by
  unfold r_isJammed r_mJam
  rw [h4, if_neg (fun z => z.elim (nI_pos (by omega)) (nI_ge (b := 4) (by omega) (by omega))), nI_clamp (by omega)]
  have key : ∀ o, o < 4 → (p_jam M w i r (r_readersTaking M w) o = true ↔ p_mJam Mr i r o) := by
    intro o ho
    obtain ⟨a1, a2, a3⟩ := hrd o ho
    unfold p_jam p_mJam r_readersTaking r_reaches
    rw [decide_eq_true_iff, h4, mk4B _ ho, rb_has, h2, a3, (hrd r hr).2.2, a1]
    rcases a2 with a2 | a2
    · rw [a2]
      exact ⟨fun z => absurd z.1.2.1 (by decide), fun z => absurd z.2.1 (by decide)⟩
    · rw [a2]
      exact ⟨fun z => ⟨fun y => z.1.1 (by rw [y]), rfl, z.2, z.1.2.2⟩, fun z => ⟨⟨fun y => z.1 ((nI_eq (by omega) (by omega)).mp y), rfl, z.2.2.2⟩, z.2.2.1⟩⟩
  by_cases c : ∃ o, o < 4 ∧ p_mJam Mr i r o
  · rw [z_pbT c]
    obtain ⟨o, ho, c⟩ := c
    rw [if_pos (ex_iff.mpr ⟨o, by omega, by omega, (key o ho).mpr c⟩)]
  · rw [z_pbF c, if_neg (fun z => ?_)]
    obtain ⟨o, -, ho, z⟩ := ex_iff.mp z
    exact c ⟨o, by omega, (key o (by omega)).mp z⟩
theorem two_jammed {J : zMem} {b : Nat} {t : Int32} (h : SB J b) : z_two J 137 229 [.inl t] b := by
  obtain ⟨T, c, hT, hc, hs⟩ := h.1
  obtain ⟨h1, h2, h3, h4, h5, h6, h7, h8, h9⟩ := hs
  have hb : ∀ j, j < 24 → J.1 24 0 0 (550 + j) = -1 ∨ ∃ r, r < 4 ∧ J.1 24 0 0 (550 + j) = nI r := fun j hj => (h6 j hj).imp id (fun ⟨r, a, b, _⟩ => ⟨r, a, b⟩)
  by_cases ct : c_there J t
  · obtain ⟨j, hj, rfl, cl, it, hin⟩ := there_of h4 ct
    have e4 := (T_bs (h4 j hj)).1
    rcases hb j hj with e | ⟨r, hr, e⟩
    · refine two_q h (v := .inl (-1)) (fun _ K hK => ?_) (fun _ K hK => ?_)
      · refine s9_jammed (fun _ z => (z ?_).elim) (fun _ => hK)
        rw [cl, e4, e]
      · refine s_mJammed hb (fun j2 r _ hr e1 _ e2 => ?_) (fun _ => hK)
        have : j2 = j := ((nI_eq (by omega) (by omega)).mp e1).symm
        subst this
        rw [e] at e2
        exact absurd (e2 ▸ nI_pos (n := r) (by omega)) (by decide)
    · refine two_q h (v := .inl (r_mJam J j r)) (fun _ K hK => ?_) (fun _ K hK => ?_)
      · refine s9_jammed (fun _ _ => ?_) (fun z => ?_)
        · rw [cl, e_jam hr (fun o ho => ⟨(h9 o ho).1.1 1 (by omega), (h9 o ho).2.1.2.1, (h9 o ho).1.1 4 (by omega)⟩) (T_in (h4 j hj) hin).2.1 (e4.trans e)]
          have e5 : (if r_mJam J j r = 0 then (0 : Int32) else 1) = r_mJam J j r := by
            rcases (show r_mJam J j r = 0 ∨ r_mJam J j r = 1 from z_pbc _) with y | y
            · rw [y]
              rfl
            · rw [y]
              rfl
          rw [e5]
          exact hK
        · exfalso
          rcases z with z | z
          · exact z ct
          · rw [cl, e4, e] at z
            exact absurd (z ▸ nI_pos (n := r) (by omega)) (by decide)
      · refine s_mJammed hb (fun j2 r2 _ hr2 e1 _ e2 => ?_) (fun z => ?_)
        · have : j2 = j := ((nI_eq (by omega) (by omega)).mp e1).symm
          subst this
          have : r2 = r := (nI_eq (by omega) (by omega)).mp (e2.symm.trans e)
          subst this
          exact hK
        · exfalso
          rcases z with z | z
          · exact it z
          · rw [cl, e] at z
            exact absurd (z ▸ nI_pos (n := r) (by omega)) (by decide)
  · refine two_q h (v := .inl (-1)) (fun _ K hK => ?_) (fun _ K hK => ?_)
    · exact s9_jammed (fun z => (ct z).elim) (fun _ => hK)
    · exact s_mJammed hb (fun _ _ _ _ _ z => (ct ((there_iff h4 t).mpr z)).elim) (fun _ => hK)
theorem two_read {J : zMem} {b : Nat} {r i : Int32} (h : SB J b) : z_two J 140 237 [.inl r, .inl i] b := by
  obtain ⟨T, c, hT, hc, hs⟩ := h.1
  obtain ⟨h1, h2, h3, h4, h5, h6, h7, h8, h9⟩ := hs
  have hm : ∀ j, j < 4 → ∃ m, m ≤ 24 ∧ J.1 24 0 0 (306 + j) = nI m := fun j hj => by
    obtain ⟨m, a, b, _⟩ := (h9 j hj).2.2.2.1
    exact ⟨m, a, b⟩
  have hsz : ∀ j, j < 4 → J.1 8 0 (2 * j) 1 = J.1 24 0 0 (306 + j) := fun j hj => (h9 j hj).1.2 1 (by omega)
  have key : c_read J r i ↔ ∃ j k m, c_mRead J r i j k m := by
    unfold c_read c_mRead
    constructor
    · rintro ⟨a1, a2, a3, a4⟩
      obtain ⟨j, hj, rfl, cl, -⟩ := rd_of a1
      obtain ⟨k, hk, rfl⟩ := nI_of a2
      obtain ⟨m, hm1, hm2⟩ := hm j hj
      rw [cl, hsz j hj, hm2, nI_ltI hk (by omega)] at a3
      exact ⟨j, k, m, hj, hm1, rfl, hm2, a3, rfl⟩
    · rintro ⟨j, k, m, hj, hm1, rfl, hm2, hk, rfl⟩
      have cl : (nI j).toNatClampNeg = j := nI_clamp (by omega)
      refine ⟨fun z => z.elim (nI_pos (by omega)) (nI_ge (b := 4) (by omega) (by omega)), nI_pos (by omega), ?_, nI_lt (by omega) (by omega)⟩
      rw [cl, hsz j hj, hm2]
      exact nI_lt hk (by omega)
  by_cases e : ∃ j k m, c_mRead J r i j k m
  · obtain ⟨j, k, m, hj, hm1, rfl, hm2, hk, rfl⟩ := e
    have cl : (nI j).toNatClampNeg = j := nI_clamp (by omega)
    have cl2 : (nI k).toNatClampNeg = k := nI_clamp (by omega)
    obtain ⟨m2, a1, a2, a3, -⟩ := (h9 j hj).2.2.2.1
    have : m2 = m := (nI_eq (by omega) (by omega)).mp (a2.symm.trans hm2)
    subst this
    refine two_q h (v := .inl (J.1 24 0 0 (358 + 24 * j + k))) (fun _ K hK => ?_) (fun _ K hK => ?_)
    · refine s9_read (fun _ => ?_) (fun z => (z (key.mpr ⟨j, k, m2, hj, hm1, rfl, hm2, hk, rfl⟩)).elim)
      rw [cl, cl2, (a3 k hk).1]
      exact hK
    · refine s_mRead hm (fun j2 k2 m3 q => ?_) (fun z => (z ⟨j, k, m2, hj, hm1, rfl, hm2, hk, rfl⟩).elim)
      obtain ⟨q1, q2, q3, q4, q5, q6⟩ := q
      have : j2 = j := ((nI_eq (by omega) (by omega)).mp q3).symm
      have : k2 = k := ((nI_eq (by omega) (by omega)).mp q6).symm
      subst j2 k2
      exact hK
  · refine two_q h (v := .inl (-1)) (fun _ K hK => ?_) (fun _ K hK => ?_)
    · exact s9_read (fun z => (e (key.mp z)).elim) (fun _ => hK)
    · exact s_mRead hm (fun j k m z => (e ⟨j, k, m, z⟩).elim) (fun _ => hK)
theorem cd_N : ∀ (f a b : Nat), b < f → a < 4611686018427387904 → b < 4611686018427387904 → r_cd f (lN a) (lN b) = lN (Nat.gcd a b)
  | 0, a, b, h, _, _ => by omega
  | f + 1, a, b, h, ha, hb => by
    rw [r_cd]
    by_cases e : b = 0
    · subst e
      rw [if_pos (show lN 0 = 0 from rfl), Nat.gcd_zero_right]
    · have hm := Nat.mod_lt a (Nat.pos_of_ne_zero e)
      rw [if_neg (show ¬ lN b = 0 from fun z => e ((pk_lEQ (b := 0) (by omega) (by omega)).mp z)), pk_lRem (by omega) (by omega) (by omega), cd_N f b (a % b) (by omega) hb (by omega), z_gcds]
theorem cd_S {a b : Nat} (ha : a ≤ 24) (hb : b < 2147483648) : r_cd 200 (lN a) (lN b) = lN (Nat.gcd a b) := by
  rw [r_cd]
  by_cases e : b = 0
  · subst e
    rw [if_pos (show lN 0 = 0 from rfl), Nat.gcd_zero_right]
  · have hm := Nat.mod_lt a (Nat.pos_of_ne_zero e)
    have hm2 := Nat.mod_le a b
    rw [if_neg (show ¬ lN b = 0 from fun z => e ((pk_lEQ (b := 0) (by omega) (by omega)).mp z)), pk_lRem (by omega) (by omega) (by omega), cd_N 199 b (a % b) (by omega) (by omega) (by omega), z_gcds]
theorem e_share {M : zMem} {w r m s : Nat} (hm : M.1 8 w (2 * r) 1 = nI m) (hm2 : m ≤ 24) (hs : r_tallySum M w (2 * r) = nI s) (hs2 : s < 2147483648) (hms : m ≤ s) : r_share M w r 1 = (if m = 0 then 0 else nI m / nI (Nat.gcd m s)) ∧ r_share M w r 0 = (if m = 0 then 1 else nI s / nI (Nat.gcd m s)) := by
  unfold r_share
  dsimp only
  rw [hs, hm, nI_l (by omega), nI_l hs2, cd_S hm2 hs2]
  by_cases e : s = 0
  · have : m = 0 := by omega
    subst e this
    exact ⟨rfl, rfl⟩
  · have hg : 0 < Nat.gcd m s := Nat.gcd_pos_of_pos_right m (Nat.pos_of_ne_zero e)
    have hg2 : Nat.gcd m s ≤ s := Nat.gcd_le_right m (Nat.pos_of_ne_zero e)
    have c : ¬ (nI s = 0 ∨ lN (Nat.gcd m s) = 0) := fun z => z.elim (nI_ne0 (by omega) hs2) (fun y => by
      have := (pk_lEQ (b := 0) (by omega) (by omega)).mp y
      omega)
    rw [if_neg c, if_neg c, if_neg (by decide), if_pos rfl, pk_lDiv (by omega) hg (by omega), pk_lDiv (by omega) hg (by omega), lN_i, lN_i]
    by_cases e0 : m = 0
    · subst e0
      rw [if_pos rfl, if_pos rfl, Nat.gcd_zero_left, Nat.zero_div, Nat.div_self (Nat.pos_of_ne_zero e)]
      exact ⟨rfl, rfl⟩
    · rw [if_neg e0, if_neg e0, pk_div (by omega) hg (by omega), pk_div (by omega) hg (by omega)]
      exact ⟨rfl, rfl⟩
theorem e_ofIt {M Mr : zMem} {w T : Nat} (h : S_tags M w Mr T) {r : Nat} (hr : r < 4) : ∀ n, n ≤ 24 → r_ofIt Mr (nI r) n = z_ct (fun i => decide (¬ M.1 7 w i 0 = 0 ∧ M.1 7 w i 4 = nI r)) n
  | 0, _ => rfl
  | n + 1, hn => by
    rw [r_ofIt, z_ct, e_ofIt h hr n (by omega)]
    obtain ⟨a, -, c⟩ := T_bs (h n (by omega))
    obtain ⟨d1, d2⟩ := S_01 (h n (by omega))
    rw [a, d1]
    congr 1
    by_cases e : Mr.1 24 0 0 (550 + n) = nI r
    · rw [if_pos e]
      rcases d2 with d2 | d2
      · rw [c d2] at e
        exact absurd (e ▸ nI_pos (n := r) (by omega)) (by decide)
      · rw [decide_eq_true ⟨by rw [d2]; decide, e⟩]
        rfl
    · rw [if_neg e, decide_eq_false (fun z => e z.2)]
      rfl
theorem e_tagsOf {M Mr : zMem} {w T : Nat} (h : S_tags M w Mr T) {r : Nat} (hr : r < 4) : r_bc (r_tagsOf M w (nI r)) = r_ofIt Mr (nI r) 24 := by
  rw [e_ofIt h hr 24 (Nat.le_refl _), z_ctN]
  exact z_bcM _
theorem S_slotsOf {M : zMem} {w r b : Nat} {R : Nat → Int32} (h : S_R z_F M w R b r) (hb : b < 2147000000) : ∃ m e c, m ≤ 24 ∧ e + c ≤ b ∧ R (306 + r) = nI m ∧ R (310 + r) = nI e ∧ R (314 + r) = nI c ∧ M.1 8 w (2 * r) 1 = nI m ∧ r_tallySum M w (2 * r) = nI (e + m + c) := by
  obtain ⟨k1, k2, ⟨e, c, s1, s2, s3⟩, ⟨m, m1, m2, _⟩, _⟩ := h
  have a0 : M.1 8 w (2 * r) 0 = R (310 + r) := k1.2 0 (by omega)
  have a1 : M.1 8 w (2 * r) 1 = R (306 + r) := k1.2 1 (by omega)
  have a2 : M.1 8 w (2 * r) 2 = R (314 + r) := k1.2 2 (by omega)
  refine ⟨m, e, c, m1, s3, m2, s1, s2, a1.trans m2, ?_⟩
  unfold r_tallySum
  rw [a0, a1, a2, s1, m2, s2, nI_add, nI_add]
